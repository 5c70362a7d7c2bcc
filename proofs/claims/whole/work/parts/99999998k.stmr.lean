/-! one STATEMENT: the reference's reading -/
section SR
variable {L : Nat} {xs : Nat → Int32} {E : q_E} {d : Nat} {M : q_M} {t : q_T} {n : sN} {Q : Option Value → q_M → Prop} {P : q_M → Prop}
variable {x : Nat → Nat} {len : Nat} {tok : Nat → Tok} {T : Nat}
theorem dR.s7 {M' : q_M} (h : dR M t) (hk : ∀ q, ¬ q = 7 → M'.1 279 q = M.1 279 q) (hm : ∀ q, M'.2 281 q = M.2 281 q) : dR M' t := by
  obtain ⟨⟨a0, a1, a2, a5, a9, a16, a17, aJ, aD, aE, aF, aC⟩, aL, aN, aM, aS⟩ := h
  refine ⟨⟨(hk 0 (by omega)).trans a0, (hk 1 (by omega)).trans a1, (hk 2 (by omega)).trans a2, (hk 3 (by omega)).trans a5, (hk 4 (by omega)).trans a9, (hk 6 (by omega)).trans a16, (hk 5 (by omega)).trans a17, fun j hj => ⟨(hk _ (by omega)).trans (aJ j hj).1, (hk _ (by omega)).trans (aJ j hj).2⟩, fun j hj => ⟨(hk _ (by omega)).trans (aD j hj).1, (hk _ (by omega)).trans (aD j hj).2⟩, fun j hj => ⟨(hk _ (by omega)).trans (aE j hj).1, (hk _ (by omega)).trans (aE j hj).2⟩, fun e he g hg => (hk _ (by omega)).trans (aF e he g hg), fun c hc => ⟨(hk _ (by omega)).trans (aC c hc).1, (hk _ (by omega)).trans (aC c hc).2.1, (hk _ (by omega)).trans (aC c hc).2.2⟩⟩, fun e he => ⟨(hk _ (by omega)).trans (aL e he).1, fun z r hr => (hk _ (by omega)).trans ((aL e he).2 z r hr)⟩, fun i hi => (hm _).trans (aN i hi), fun e he => (hm _).trans (aM e he), fun l hl => ⟨(hk _ (by omega)).trans (aS l hl).1, fun i hi => (hk _ (by omega)).trans ((aS l hl).2 i hi)⟩⟩
set_option maxRecDepth 100000 in
set_option maxHeartbeats 4000000 in
theorem k_isStatementHere {i n : Nat} (g : g_rt M x len tok T i) (h7 : M.1 279 7 = nI n) (hn : n ≤ 80) (h1 : bgOK tok i n → Q (some (.int 1)) M) (h0 : ¬ bgOK tok i n → Q (some (.int 0)) M) : q_C q_mt (L, xs, q_shp) E nX12_isStatementHere (d + 1) 0 0 [.ref 271] M Q := by
  refine w_in 90 [] ?_
  refine ⟨7, _, by (first | assumption | (simp only [z_nat, z_lit, ← Int32.ofInt_add, ← Int32.ofInt_sub, ← Int32.ofInt_mul]; exact congrArg Int32.ofInt (by omega)) | (simp only [z_nat, z_lit, ← Int32.ofInt_add, ← Int32.ofInt_sub, ← Int32.ofInt_mul]; done) | exact congrArg Int32.ofInt (by omega) | rfl), by (dsimp only; omega), h7, ?_⟩
  refine z_ne (n : Int) 0 (fun z => ?_) (fun z => ?_)
  · have y : ∀ w, isBg w → ¬ w = 0 → tok i = (1, w) → bgOK tok i n := fun w hb h0 e => by
      unfold bgOK
      rw [e]
      exact ⟨rfl, hb, fun u => absurd u h0, fun u => absurd (by rw [u]; rfl) z⟩
    refine k_isWordHere g 2 (by omega) (by decide +kernel) (fun e => bn_t (by decide) ⟨z_1, h1 (y 2 (by decide) (by decide) e)⟩) (fun e2 => bn_f rfl ?_)
    refine k_isWordHere g 7 (by omega) (by decide +kernel) (fun e => bn_t (by decide) ⟨z_1, h1 (y 7 (by decide) (by decide) e)⟩) (fun e7 => bn_f rfl ?_)
    refine k_isWordHere g 10 (by omega) (by decide +kernel) (fun e => bn_t (by decide) ⟨z_1, h1 (y 10 (by decide) (by decide) e)⟩) (fun e10 => bn_f rfl ?_)
    refine k_isWordHere g 11 (by omega) (by decide +kernel) (fun e => bn_t (by decide) ⟨z_1, h1 (y 11 (by decide) (by decide) e)⟩) (fun e11 => bn_f rfl ?_)
    refine k_isWordHere g 12 (by omega) (by decide +kernel) (fun e => bn_t (by decide) ⟨z_1, h1 (y 12 (by decide) (by decide) e)⟩) (fun e12 => bn_f rfl ?_)
    refine k_isWordHere g 13 (by omega) (by decide +kernel) (fun e => bn_t (by decide) ⟨z_1, h1 (y 13 (by decide) (by decide) e)⟩) (fun e13 => bn_f rfl ?_)
    refine k_isWordHere g 14 (by omega) (by decide +kernel) (fun e => bn_t (by decide) ⟨z_1, h1 (y 14 (by decide) (by decide) e)⟩) (fun e14 => bn_f rfl ?_)
    refine k_isWordHere g 15 (by omega) (by decide +kernel) (fun e => br_f (by decide) ⟨z_1, h1 (y 15 (by decide) (by decide) e)⟩) (fun e15 => br_t (by decide) ⟨z_0, h0 (fun hk => ?_)⟩)
    obtain ⟨k1, kb, kz⟩ := hk
    have et := tk_pr k1
    obtain hw | hw | hw | hw | hw | hw | hw | hw | hw := isBg_9 kb
    · exact z (by rw [kz.mp hw]; rfl)
    · exact e2 (by rw [et, hw])
    · exact e7 (by rw [et, hw])
    · exact e10 (by rw [et, hw])
    · exact e11 (by rw [et, hw])
    · exact e12 (by rw [et, hw])
    · exact e13 (by rw [et, hw])
    · exact e14 (by rw [et, hw])
    · exact e15 (by rw [et, hw])
  · have z : n = 0 := by omega
    refine k_isWordHere g 0 (by omega) (by decide +kernel) (fun e => ⟨z_1, h1 ?_⟩) (fun e => ⟨z_0, h0 (fun hk => ?_)⟩)
    · unfold bgOK
      rw [e]
      exact ⟨rfl, Or.inl rfl, fun _ => z, fun _ => rfl⟩
    · exact e (by rw [tk_pr hk.1, hk.2.2.mpr z])
set_option maxRecDepth 100000 in
set_option maxHeartbeats 4000000 in
theorem k_readsStatement {i n : Nat} (g : g_rt M x len tok T i) (dr : dR M t) (b : bD t i) (h7 : M.1 279 7 = nI n) (hn : n ≤ 80) (hz : n = 0 → t 8 0 = 0) (h1 : ∀ t' j M', stmP t x len tok T i n = .inr (t', j) → q_fs lDq fDq M M' → g_rt M' x len tok T j → dR M' t' → M'.1 279 7 = nI (n + 1) → Q none M') (h0 : ∀ k j M', stmP t x len tok T i n = .inl (k, j) → q_fs lDq fDq M M' → g_rb M' x len tok T k j → Q none M') : q_C q_mt (L, xs, q_shp) E nX12_readsStatement (d + 8) 0 0 [.ref 271] M Q := by
  obtain ⟨bt, bc, bn, bf, bl, bw⟩ := b
  obtain ⟨b0, b1, b2, b5, b8, b13, b17, -⟩ := (id bt : b_T t)
  have b11 : ∀ s, s < 36 → t 11 s ≤ 10 := fun s hs => by have := bl.1 s hs; omega
  have c255 : ∀ l, l < t 17 0 → t 18 l ≤ 255 := fun l hl => (bw.2 l hl).1
  have hemp : t 8 0 < 6 → t 11 (6 * t 8 0) = 0 ∧ ∀ g, g < 6 → t 12 (6 * t 8 0 + g) = 10 := fun e6 => ⟨(bl.2.1 (6 * t 8 0) (by omega) (by omega)).1, fun g hg => (bl.2.1 (6 * t 8 0 + g) (by omega) (by omega)).2⟩
  -- behind a fault
  have fin0 : ∀ k j M', stmP t x len tok T i n = .inl (k, j) → q_fs lDq fDq M M' → g_rb M' x len tok T k j → q_G q_mt (L, xs, q_shp) E nX12_readsStatement (d + 8) 0 0 (q_Q (L, xs, q_shp) E Q) 177 [some (.ref 271)] [] M' := by
    intro k j M' e hf g'
    have fin : ∀ y, Q none (q_si M' 279 7 y) := fun y => by
      have hf2 : q_fs [279] [] M' (q_si M' 279 7 y) := q_fs.rf.s1
      exact h0 k j _ e (hf.tr hf2.mono) (g'.fs hf2)
    refine w_at 90 [177] ?_
    refine k_mustSign0 g' ?_
    refine ⟨7, _, by (first | assumption | (simp only [z_nat, z_lit, ← Int32.ofInt_add, ← Int32.ofInt_sub, ← Int32.ofInt_mul]; exact congrArg Int32.ofInt (by omega)) | (simp only [z_nat, z_lit, ← Int32.ofInt_add, ← Int32.ofInt_sub, ← Int32.ofInt_mul]; done) | exact congrArg Int32.ofInt (by omega) | rfl), by (dsimp only; omega), rfl, ?_⟩
    refine ⟨7, _, by (first | assumption | (simp only [z_nat, z_lit, ← Int32.ofInt_add, ← Int32.ofInt_sub, ← Int32.ofInt_mul]; exact congrArg Int32.ofInt (by omega)) | (simp only [z_nat, z_lit, ← Int32.ofInt_add, ← Int32.ofInt_sub, ← Int32.ofInt_mul]; done) | exact congrArg Int32.ofInt (by omega) | rfl), by (dsimp only; omega), rfl, ?_⟩
    exact fin _
  refine w_in 90 [177] ?_
  refine k_isStatementHere g h7 hn (fun hok => bn_t (by decide) ?_) (fun hno => bn_f rfl ?_)
  rotate_left 1
  · exact k_wrongs g 1 (by omega) (fun M2 hf2 g2 => fin0 1 i M2 (by unfold stmP; rw [if_neg hno]) hf2.mono g2)
  have n0 : ¬ (tok i).1 = 0 := by have := hok.1; omega
  refine ⟨7, _, by (first | assumption | (simp only [z_nat, z_lit, ← Int32.ofInt_add, ← Int32.ofInt_sub, ← Int32.ofInt_mul]; exact congrArg Int32.ofInt (by omega)) | (simp only [z_nat, z_lit, ← Int32.ofInt_add, ← Int32.ofInt_sub, ← Int32.ofInt_mul]; done) | exact congrArg Int32.ofInt (by omega) | rfl), by (dsimp only; omega), h7, ?_⟩
  refine z_ne (n : Int) 80 (fun z => ?_) (fun z => ?_)
  rotate_left 1
  · exact k_wrongs g 4 (by omega) (fun M2 hf2 g2 => fin0 4 i M2 (by unfold stmP; rw [if_pos hok, if_pos (Or.inl (by omega))]) hf2.mono g2)
  have n80 : n < 80 := by omega
  have ep : fullT t (tok i).2 → stmP t x len tok T i n = .inl (4, i) := fun f => by
    unfold stmP
    rw [if_pos hok, if_pos (Or.inr f)]
  have eq : ¬ fullT t (tok i).2 → stmP t x len tok T i n = bd (bodP t x len tok T i (tok i).2) (fun t' j => if tok j = (4, 59) then .inr (t', j + 1) else .inl (1, j)) := fun f => by
    unfold stmP
    rw [if_pos hok, if_neg (fun y => y.elim (fun y => by omega) f)]
  have f1 : ∀ t' j M', bodP t x len tok T i (tok i).2 = .inr (t', j) → ¬ fullT t (tok i).2 → q_fs lDq fDq M M' → g_rt M' x len tok T j → dR M' t' → M'.1 279 7 = M.1 279 7 → q_G q_mt (L, xs, q_shp) E nX12_readsStatement (d + 8) 0 0 (q_Q (L, xs, q_shp) E Q) 177 [some (.ref 271)] [] M' := by
    intro t' j M' e nf hf g' d' e7
    refine w_at 90 [177] ?_
    refine k_mustSign g' 59 (by decide) (fun es M2 hf2 g2 => ?_) (fun es M2 hf2 g2 => ?_)
    · have e72 : M2.1 279 7 = nI n := (hf2.p1 279 7).trans (e7.trans h7)
      refine ⟨7, _, by (first | assumption | (simp only [z_nat, z_lit, ← Int32.ofInt_add, ← Int32.ofInt_sub, ← Int32.ofInt_mul]; exact congrArg Int32.ofInt (by omega)) | (simp only [z_nat, z_lit, ← Int32.ofInt_add, ← Int32.ofInt_sub, ← Int32.ofInt_mul]; done) | exact congrArg Int32.ofInt (by omega) | rfl), by (dsimp only; omega), e72, ?_⟩
      refine ⟨7, nI (n + 1), by (first | assumption | (simp only [z_nat, z_lit, ← Int32.ofInt_add, ← Int32.ofInt_sub, ← Int32.ofInt_mul]; exact congrArg Int32.ofInt (by omega)) | (simp only [z_nat, z_lit, ← Int32.ofInt_add, ← Int32.ofInt_sub, ← Int32.ofInt_mul]; done) | exact congrArg Int32.ofInt (by omega) | rfl), by (dsimp only; omega), by (first | assumption | (simp only [z_nat, z_lit, ← Int32.ofInt_add, ← Int32.ofInt_sub, ← Int32.ofInt_mul]; exact congrArg Int32.ofInt (by omega)) | (simp only [z_nat, z_lit, ← Int32.ofInt_add, ← Int32.ofInt_sub, ← Int32.ofInt_mul]; done) | exact congrArg Int32.ofInt (by omega) | rfl), ?_⟩
      have hf3 : q_fs [279] [] M2 (q_si M2 279 7 (nI (n + 1))) := q_fs.rf.s1
      refine h1 t' (j + 1) _ ((eq nf).trans ((bd_ok e).trans (if_pos es))) (hf.tr (hf2.mono.tr hf3.mono)) (g2.fs hf3) (d'.s7 (fun q hq => (q_si_n hq).trans (hf2.p1 279 q)) (fun q => (hf3.p2 281 q).trans (hf2.p2 281 q))) q_si_s
    · have e0 : stmP t x len tok T i n = .inl (1, j) := (eq nf).trans ((bd_ok e).trans (if_neg es))
      have fin : ∀ y, Q none (q_si M2 279 7 y) := fun y => by
        have hf3 : q_fs [279] [] M2 (q_si M2 279 7 y) := q_fs.rf.s1
        exact h0 1 j _ e0 (hf.tr (hf2.mono.tr hf3.mono)) (g2.fs hf3)
      refine ⟨7, _, by (first | assumption | (simp only [z_nat, z_lit, ← Int32.ofInt_add, ← Int32.ofInt_sub, ← Int32.ofInt_mul]; exact congrArg Int32.ofInt (by omega)) | (simp only [z_nat, z_lit, ← Int32.ofInt_add, ← Int32.ofInt_sub, ← Int32.ofInt_mul]; done) | exact congrArg Int32.ofInt (by omega) | rfl), by (dsimp only; omega), rfl, ?_⟩
      refine ⟨7, _, by (first | assumption | (simp only [z_nat, z_lit, ← Int32.ofInt_add, ← Int32.ofInt_sub, ← Int32.ofInt_mul]; exact congrArg Int32.ofInt (by omega)) | (simp only [z_nat, z_lit, ← Int32.ofInt_add, ← Int32.ofInt_sub, ← Int32.ofInt_mul]; done) | exact congrArg Int32.ofInt (by omega) | rfl), by (dsimp only; omega), rfl, ?_⟩
      exact fin _
  have f0 : ∀ k j M', (¬ fullT t (tok i).2 → bodP t x len tok T i (tok i).2 = .inl (k, j)) → (fullT t (tok i).2 → k = 4 ∧ j = i) → q_fs lDq fDq M M' → g_rb M' x len tok T k j → q_G q_mt (L, xs, q_shp) E nX12_readsStatement (d + 8) 0 0 (q_Q (L, xs, q_shp) E Q) 177 [some (.ref 271)] [] M' := by
    intro k j M' e1 e2 hf g'
    by_cases f : fullT t (tok i).2
    · obtain ⟨rfl, rfl⟩ := e2 f
      exact fin0 _ _ M' (ep f) hf g'
    · exact fin0 k j M' ((eq f).trans (bd_no (e1 f))) hf g'
  refine k_isWordHere g 0 (by omega) (by decide +kernel) (fun e => br_f (by decide) ?_) (fun e0 => br_t (by decide) ?_)
  · have hw : (tok i).2 = 0 := by rw [e]
    rw [hw] at f1 f0
    rw [bod_0] at f1 f0
    exact k_readsRounds g e dr bt c255 (hz (hok.2.2.mp hw)) (fun t' j M' e' hf g' d' e7 => f1 t' j M' e' (by unfold fullT; omega) hf g' d' e7) (fun k j M' e1 hf g' e7 => f0 k j M' (fun _ => e1) (fun f => absurd f (by unfold fullT; omega)) hf g')
  refine k_isWordHere g 2 (by omega) (by decide +kernel) (fun e => br_f (by decide) ?_) (fun e2 => br_t (by decide) ?_)
  · have hw : (tok i).2 = 2 := by rw [e]
    rw [hw] at f1 f0
    rw [bod_2] at f1 f0
    exact k_readsJudge g n0 dr bt c255 (fun lt t' j M' e' hf g' d' e7 => f1 t' j M' e' (by unfold fullT; omega) hf g' d' e7) (fun k j M' e1 e2 hf g' e7 => f0 k j M' (fun nf => e1 (by unfold fullT at nf; omega)) (fun f => e2 (by unfold fullT at f; omega)) hf g')
  refine k_isWordHere g 7 (by omega) (by decide +kernel) (fun e => br_f (by decide) ?_) (fun e7 => br_t (by decide) ?_)
  · have hw : (tok i).2 = 7 := by rw [e]
    rw [hw] at f1 f0
    rw [bod_7] at f1 f0
    exact k_readsDive g n0 dr bt bn c255 (fun lt t' j M' e' hf g' d' e7 => f1 t' j M' e' (by unfold fullT; omega) hf g' d' e7) (fun k j M' e1 e2 hf g' e7 => f0 k j M' (fun nf => e1 (by unfold fullT at nf; omega)) (fun f => e2 (by unfold fullT at f; omega)) hf g')
  refine k_isWordHere g 10 (by omega) (by decide +kernel) (fun e => br_f (by decide) ?_) (fun e10 => br_t (by decide) ?_)
  · have hw : (tok i).2 = 10 := by rw [e]
    rw [hw] at f1 f0
    rw [bod_10] at f1 f0
    exact k_readsEntrant (p := 0) (by omega) g n0 dr bt bn c255 hemp (fun lt t' j M' e' hf g' d' e7 => f1 t' j M' e' (by unfold fullT; omega) hf g' d' e7) (fun k j M' e1 e2 hf g' e7 => f0 k j M' (fun nf => e1 (by unfold fullT at nf; omega)) (fun f => e2 (by unfold fullT at f; omega)) hf g')
  refine k_isWordHere g 11 (by omega) (by decide +kernel) (fun e => br_f (by decide) ?_) (fun e11 => br_t (by decide) ?_)
  · have hw : (tok i).2 = 11 := by rw [e]
    rw [hw] at f1 f0
    rw [bod_11] at f1 f0
    exact k_readsEntrant (p := 1) (by omega) g n0 dr bt bn c255 hemp (fun lt t' j M' e' hf g' d' e7 => f1 t' j M' e' (by unfold fullT; omega) hf g' d' e7) (fun k j M' e1 e2 hf g' e7 => f0 k j M' (fun nf => e1 (by unfold fullT at nf; omega)) (fun f => e2 (by unfold fullT at f; omega)) hf g')
  refine k_isWordHere g 12 (by omega) (by decide +kernel) (fun e => br_f (by decide) ?_) (fun e12 => br_t (by decide) ?_)
  · have hw : (tok i).2 = 12 := by rw [e]
    rw [hw] at f1 f0
    rw [bod_12] at f1 f0
    exact k_readsList g e dr bt bn c255 b11 (fun t' j M' e' hf g' d' e7 => f1 t' j M' e' (by unfold fullT; omega) hf g' d' e7) (fun k j M' e1 hf g' e7 => f0 k j M' (fun _ => e1) (fun f => absurd f (by unfold fullT; omega)) hf g')
  refine k_isWordHere g 13 (by omega) (by decide +kernel) (fun e => br_f (by decide) ?_) (fun e13 => br_t (by decide) ?_)
  · have hw : (tok i).2 = 13 := by rw [e]
    rw [hw] at f1 f0
    rw [bod_13] at f1 f0
    exact k_readsForm g n0 dr bt bn c255 (fun t' j M' e' hf g' d' e7 => f1 t' j M' e' (by unfold fullT; omega) hf g' d' e7) (fun k j M' e1 hf g' e7 => f0 k j M' (fun _ => e1) (fun f => absurd f (by unfold fullT; omega)) hf g')
  refine k_isWordHere g 14 (by omega) (by decide +kernel) (fun e => br_f (by decide) ?_) (fun e14 => br_t (by decide) ?_)
  · have hw : (tok i).2 = 14 := by rw [e]
    rw [hw] at f1 f0
    rw [bod_14] at f1 f0
    exact k_readsLaw g n0 dr bt c255 (fun lt t' j M' e' hf g' d' e7 => f1 t' j M' e' (by unfold fullT; omega) hf g' d' e7) (fun k j M' e1 e2 hf g' => f0 k j M' (fun nf => e1 (by unfold fullT at nf; omega)) (fun f => e2 (by unfold fullT at f; omega)) hf g')
  have hw : (tok i).2 = 15 := by
    have et := tk_pr hok.1
    obtain hw | hw | hw | hw | hw | hw | hw | hw | hw := isBg_9 hok.2.1
    · exact absurd (by rw [et, hw]) e0
    · exact absurd (by rw [et, hw]) e2
    · exact absurd (by rw [et, hw]) e7
    · exact absurd (by rw [et, hw]) e10
    · exact absurd (by rw [et, hw]) e11
    · exact absurd (by rw [et, hw]) e12
    · exact absurd (by rw [et, hw]) e13
    · exact absurd (by rw [et, hw]) e14
    · exact hw
  rw [hw] at f1 f0
  rw [bod_15] at f1 f0
  exact k_readsCut g n0 dr bt bc c255 (fun lt t' j M' e' hf g' d' e7 => f1 t' j M' e' (by unfold fullT; omega) hf g' d' e7) (fun k j M' e1 e2 hf g' e7 => f0 k j M' (fun nf => e1 (by unfold fullT at nf; omega)) (fun f => e2 (by unfold fullT at f; omega)) hf g')
end SR
