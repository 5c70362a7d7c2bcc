/-! all STATEMENTS of a MEET: what they say, the class's reading -/
def allP (x : Nat → Nat) (len : Nat) (tok : Nat → Tok) (T : Nat) : Nat → q_T → Nat → Nat → Rs (q_T × Nat)
  | 0, _, i, _ => .inl (1, i)
  | f + 1, t, i, n => if n = 0 ∨ ¬ (tok i).1 = 0 then bd (stmP t x len tok T i n) (fun t' j => allP x len tok T f t' j (n + 1)) else if whP t then .inr ((t, n), i) else .inl (5, i)
theorem bD.up {t : q_T} {i j : Nat} (h : bD t i) (hij : i ≤ j) : bD t j := ⟨h.1, h.2.1, h.2.2.1, h.2.2.2.1, h.2.2.2.2.1, Nat.le_trans h.2.2.2.2.2.1 hij, h.2.2.2.2.2.2⟩
section AL
variable {L : Nat} {xs : Nat → Int32} {E : q_E} {d : Nat} {M : q_M} {t : q_T} {n : sN} {Q : Option Value → q_M → Prop} {P : q_M → Prop}
variable {x : Nat → Nat} {len : Nat} {tok : Nat → Tok} {T : Nat}
theorem stm_bd {t' : q_T} {i n j : Nat} (hT : g_T x len tok T) (h : stmP t x len tok T i n = .inr (t', j)) (b : bD t i) (h0 : n = 0 → t = t_0) (hr : 0 < n → 1 ≤ t 0 0) : bD t' j ∧ i < j ∧ 1 ≤ t' 0 0 ∧ n < 80 := by
  unfold stmP at h
  split at h
  · next hok =>
    split at h
    · cases h
    · next hnf =>
      have nf : ¬ fullT t (tok i).2 := fun f => hnf (Or.inr f)
      have h8 : ¬ 80 ≤ n := fun y => hnf (Or.inl y)
      have n80 : n < 80 := by omega
      obtain ⟨t1, j1, e1, e2⟩ := bd_r h
      have key : bD t1 j1 ∧ i < j1 ∧ 1 ≤ t1 0 0 := by
        obtain hw | hw := Classical.em ((tok i).2 = 0)
        · rw [hw, bod_0] at e1
          rw [h0 (hok.2.2.mp hw)] at e1
          obtain ⟨a1, a2, a3, -⟩ := bD_rounds e1
          exact ⟨a1, a2, a3⟩
        · have np : 0 < n := Nat.pos_of_ne_zero (fun y => hw (hok.2.2.mpr y))
          have r1 := hr np
          obtain h9 | h9 | h9 | h9 | h9 | h9 | h9 | h9 | h9 := isBg_9 hok.2.1
          · exact absurd h9 hw
          · rw [h9] at nf
            rw [h9, bod_2] at e1
            obtain ⟨a1, a2, a3, -⟩ := bD_judge e1 (by unfold fullT at nf; omega) b
            exact ⟨a1, a2, by omega⟩
          · rw [h9] at nf
            rw [h9, bod_7] at e1
            obtain ⟨a1, a2, a3, -⟩ := bD_dive hT e1 (by unfold fullT at nf; omega) b
            exact ⟨a1, a2, by omega⟩
          · rw [h9] at nf
            rw [h9, bod_10] at e1
            obtain ⟨a1, a2, a3⟩ := bD_entr (p := 0) (by omega) hT e1 (by unfold fullT at nf; omega) b
            exact ⟨a1, a2, by omega⟩
          · rw [h9] at nf
            rw [h9, bod_11] at e1
            obtain ⟨a1, a2, a3⟩ := bD_entr (p := 1) (by omega) hT e1 (by unfold fullT at nf; omega) b
            exact ⟨a1, a2, by omega⟩
          · rw [h9, bod_12] at e1
            obtain ⟨a1, a2, a3, -⟩ := bD_list e1 b r1
            exact ⟨a1, a2, by omega⟩
          · rw [h9, bod_13] at e1
            obtain ⟨a1, a2, a3, -⟩ := bD_form e1 b
            exact ⟨a1, a2, by omega⟩
          · rw [h9] at nf
            rw [h9, bod_14] at e1
            obtain ⟨a1, a2, a3, -⟩ := bD_law hT.v9 e1 (by unfold fullT at nf; omega) b
            exact ⟨a1, a2, by omega⟩
          · rw [h9] at nf
            rw [h9, bod_15] at e1
            obtain ⟨a1, a2, a3, -⟩ := bD_cut e1 (by unfold fullT at nf; omega) b
            exact ⟨a1, a2, by omega⟩
      obtain ⟨k1, k2, k3⟩ := key
      by_cases q : tok j1 = (4, 59)
      · have e2 : (.inr (t1, j1 + 1) : Rs q_T) = .inr (t', j) := (if_pos q).symm.trans e2
        cases e2
        exact ⟨k1.up (by omega), by omega, k3, n80⟩
      · have e2 : (.inl (1, j1) : Rs q_T) = .inr (t', j) := (if_neg q).symm.trans e2
        cases e2
  · cases h
theorem all_bd (hT : g_T x len tok T) : ∀ {f n i N j : Nat} {t t' : q_T}, allP x len tok T f t i n = .inr ((t', N), j) → bD t i → (n = 0 → t = t_0) → (0 < n → 1 ≤ t 0 0) → bD t' j ∧ 1 ≤ t' 0 0 ∧ 0 < N ∧ whP t'
  | 0, _, _, _, _, _, _, h, _, _, _ => by cases h
  | f + 1, n, i, N, j, t, t', h, b, h0, hr => by
    have h : (if n = 0 ∨ ¬ (tok i).1 = 0 then bd (stmP t x len tok T i n) (fun t' j => allP x len tok T f t' j (n + 1)) else if whP t then .inr ((t, n), i) else .inl (5, i)) = (.inr ((t', N), j) : Rs (q_T × Nat)) := h
    by_cases q : n = 0 ∨ ¬ (tok i).1 = 0
    · rw [if_pos q] at h
      obtain ⟨t1, j1, e1, e2⟩ := bd_r h
      obtain ⟨s1, s2, s3, s4⟩ := stm_bd hT e1 b h0 hr
      exact all_bd hT e2 s1 (fun z => by omega) (fun _ => s3)
    · rw [if_neg q] at h
      have n0 : 0 < n := Nat.pos_of_ne_zero (fun y => q (Or.inl y))
      by_cases w : whP t
      · rw [if_pos w] at h
        cases h
        exact ⟨b, hr n0, n0, w⟩
      · rw [if_neg w] at h
        cases h
set_option maxRecDepth 100000 in
set_option maxHeartbeats 4000000 in
theorem p_clear1 (hQ : ∀ M', q_fs [] [(35, 3), (35, 5)] M M' → M'.1 35 3 = nI 0 → M'.1 35 5 = nI 0 → Q none M') : q_C q_mt (L, xs, q_shp) E nX1_clear (d) 0 0 [.ref 35] M Q := by
  refine w_in 90 [] ?_
  refine ⟨_, rfl, ?_⟩
  refine ⟨_, rfl, ?_⟩
  exact hQ _ q_fs.rf.s1.s1 rfl rfl
set_option maxRecDepth 100000 in
set_option maxHeartbeats 4000000 in
theorem k2_clearD (hQ : ∀ M', q_fs lDr [] M M' → dC M' t_0 → Q none M') : q_C q_mt (L, xs, q_shp) E nX2_clear (d + 1) 0 0 [.ref 24] M Q := by
  refine w_in 90 [] ?_
  refine ⟨_, rfl, ?_⟩
  refine ⟨_, rfl, ?_⟩
  refine ⟨_, rfl, ?_⟩
  refine ⟨_, rfl, ?_⟩
  refine ⟨_, rfl, ?_⟩
  refine ⟨_, rfl, ?_⟩
  have hf0 : q_fs [] [(24, 0), (24, 1), (24, 2), (24, 5), (24, 9), (24, 16)] M (q_si (q_si (q_si (q_si (q_si (q_si M 24 0 (Int32.ofInt 0)) 24 1 (Int32.ofInt 0)) 24 2 (Int32.ofInt 0)) 24 5 (Int32.ofInt 0)) 24 9 (Int32.ofInt 0)) 24 16 (Int32.ofInt 0)) := q_fs.rf.s1.s1.s1.s1.s1.s1
  have e0 : ∀ k, (k = 0 ∨ k = 1 ∨ k = 2 ∨ k = 5 ∨ k = 9 ∨ k = 16) → (q_si (q_si (q_si (q_si (q_si (q_si M 24 0 (Int32.ofInt 0)) 24 1 (Int32.ofInt 0)) 24 2 (Int32.ofInt 0)) 24 5 (Int32.ofInt 0)) 24 9 (Int32.ofInt 0)) 24 16 (Int32.ofInt 0)).1 24 k = nI 0 := fun k hk => by
    rcases hk with rfl | rfl | rfl | rfl | rfl | rfl <;> rfl
  revert hf0 e0
  generalize q_si (q_si (q_si (q_si (q_si (q_si M 24 0 (Int32.ofInt 0)) 24 1 (Int32.ofInt 0)) 24 2 (Int32.ofInt 0)) 24 5 (Int32.ofInt 0)) 24 9 (Int32.ofInt 0)) 24 16 (Int32.ofInt 0) = M0
  intro hf0 e0
  refine p_clear1 (fun M1 hf1 c3 c5 => ?_)
  refine p_fill_33 (fun M2 hf2 hm2 => ?_)
  refine p_fill_34 (fun M3 hf3 hm3 => ?_)
  have z : ∀ {k y : Nat} {A : Prop}, ¬ k = 12 → y < t_0 k 0 → A := fun hk hy => by
    rw [t_0z hk] at hy
    exact absurd hy (Nat.not_lt_zero _)
  have e1 : ∀ k, (k = 0 ∨ k = 1 ∨ k = 2 ∨ k = 5 ∨ k = 9 ∨ k = 16) → M3.1 24 k = nI 0 := fun k hk => (hf3.p1 24 k).trans ((hf2.p1 24 k).trans ((hf1 24 k (by rcases hk with rfl | rfl | rfl | rfl | rfl | rfl <;> rfl)).1.trans (e0 k hk)))
  refine hQ M3 (hf0.mono.tr (hf1.mono.tr (hf2.mono.tr hf3.mono))) ⟨⟨e1 0 (by omega), e1 1 (by omega), e1 2 (by omega), e1 5 (by omega), e1 9 (by omega), e1 16 (by omega), (hf3.p1 35 5).trans ((hf2.p1 35 5).trans c5), fun j hj => z (by decide) hj, fun j hj => z (by decide) hj, fun j hj => z (by decide) hj, fun j hj => z (by decide) hj, fun j hj => z (by decide) hj⟩, fun s hs => (hf3.p1 33 s).trans (hm2 s hs), fun s hs => hm3 s hs, fun j hj => z (by decide) hj, fun j hj => z (by decide) hj, (hf3.p1 35 3).trans ((hf2.p1 35 3).trans c3), fun l hl => z (by decide) hl⟩
set_option maxRecDepth 100000 in
set_option maxHeartbeats 4000000 in
theorem k2_readAll3 (hT : g_T x len tok T) (gx : g_tx M x len) (gl : g_lx M) (h1 : ∀ t' N i M', allP x len tok T 82 t_0 0 0 = .inr ((t', N), i) → q_fs lDr fTk M M' → N ≤ 80 → g_ct M' x len tok T i → dC M' t' → Q (some (.int (nI N))) M') (h0 : ∀ k i M', allP x len tok T 82 t_0 0 0 = .inl (k, i) → q_fs lDr fTk M M' → g_cf M' x len k i → Q (some (.int (Int32.ofInt (-1)))) M') : q_C q_mt (L, xs, q_shp) E nX3_readAll (d + 82) 0 0 [.ref 42] M Q := by
  have main : ∀ f n i t M', allP x len tok T 82 t_0 0 0 = allP x len tok T f t i n → f + n = 82 → bD t i → (n = 0 → t = t_0) → (0 < n → 1 ≤ t 0 0) → q_fs lDr fTk M M' → g_ct M' x len tok T i → dC M' t → n ≤ 80 → ∀ u, u = nI n → q_G q_mt (L, xs, q_shp) E nX3_readAll (d + 82) 0 0 (q_Q (L, xs, q_shp) E Q) 16 [some (.ref 42), some (.int (u))] [] M' := by
    intro f
    induction f with
    | zero =>
      rintro n i t M' er hn
      intro _ _ _ _ _ _ h80
      omega
    | succ f ih =>
      rintro n i t M' er hfn b hn0 hr hf g dc h80 u rfl
      have er : allP x len tok T 82 t_0 0 0 = (if n = 0 ∨ ¬ (tok i).1 = 0 then bd (stmP t x len tok T i n) (fun t' j => allP x len tok T f t' j (n + 1)) else if whP t then .inr ((t, n), i) else .inl (5, i)) := er
      have k5 := g.tt.k5 i
      have b5 := b.1.2.2.2.1
      have b11 : ∀ s, s < 36 → t 11 s ≤ 10 := fun s hs => by have := b.2.2.2.2.1.1 s hs; omega
      have st : (n = 0 ∨ ¬ (tok i).1 = 0) → q_G q_mt (L, xs, q_shp) E nX3_readAll (d + 82) 0 0 (q_Q (L, xs, q_shp) E Q) 36 [some (.ref 42), some (.int (nI n))] [] M' := by
        intro q
        rw [if_pos q] at er
        refine w_at 90 [16, 36, 71] ?_
        refine k2_mayBegin g dc b.1 h80 (fun hok hnf => br_f (by decide) ?_) (fun k M2 hk hf2 g2 => br_t (by decide) ⟨_, rfl, h0 k i M2 ?_ (hf.tr hf2.mono) g2⟩)
        rotate_left 1
        · rw [er]
          refine bd_no ?_
          unfold stmP
          rcases hk with ⟨ha, rfl⟩ | ⟨ha, hb, rfl⟩
          · rw [if_neg ha]
          · rw [if_pos ha, if_pos hb]
        have es : stmP t x len tok T i n = bd (bodP t x len tok T i (tok i).2) (fun t' j => if tok j = (4, 59) then .inr (t', j + 1) else .inl (1, j)) := by
          unfold stmP
          rw [if_pos hok, if_neg hnf]
        refine k2_readStatement g dc b hok.1 hok.2.1 (fun f => hnf (Or.inr f)) (fun t1 j1 M2 e1 hf2 g2 d2 => br_f (by decide) ?_) (fun k j1 M2 e1 hf2 g2 => br_t (by decide) ⟨_, rfl, h0 k j1 M2 (er.trans (bd_no (es.trans (bd_no e1)))) (hf.tr hf2) g2⟩)
        have es1 := es.trans (bd_ok e1)
        refine k2_takeSign g2 59 (by omega) (fun et M3 hf3 g3 => bn_t (by decide) ?_) (fun et M3 hf3 g3 => bn_f rfl ⟨_, rfl, h0 1 j1 M3 (er.trans (bd_no (es1.trans (if_neg et)))) (hf.tr (hf2.tr hf3.mono)) g3⟩)
        have es2 : stmP t x len tok T i n = .inr (t1, j1 + 1) := es1.trans (if_pos et)
        obtain ⟨s1, s2, s3, s4⟩ := stm_bd g.tt es2 b hn0 hr
        exact ih (n + 1) (j1 + 1) t1 M3 (er.trans (bd_ok es2)) (by omega) s1 (fun z => by omega) (fun _ => s3) (hf.tr (hf2.tr hf3.mono)) g3.2 (d2.fs hf3) (by omega) _ (by (first | assumption | (simp only [z_nat, z_lit, ← Int32.ofInt_add, ← Int32.ofInt_sub, ← Int32.ofInt_mul]; exact congrArg Int32.ofInt (by omega)) | (simp only [z_nat, z_lit, ← Int32.ofInt_add, ← Int32.ofInt_sub, ← Int32.ofInt_mul]; done) | exact congrArg Int32.ofInt (by omega) | rfl))
      refine w_at 90 [16, 36, 71] ?_
      refine z_lt 80 (n : Int) (fun z => by omega) (fun _ => ?_)
      refine z_eq (n : Int) 0 (fun z => st (Or.inl (by omega))) (fun z => ?_)
      refine ⟨_, g.k.1, ?_⟩
      refine z_eq ((tok i).1 : Int) 0 (fun y => ?_) (fun y => st (Or.inr (by omega)))
      have q : ¬ (n = 0 ∨ ¬ (tok i).1 = 0) := by omega
      rw [if_neg q] at er
      refine w_at 90 [16, 36, 71] ?_
      refine k2_isWhole dc b.1 b11 (fun w => bn_t (by decide) ⟨_, rfl, h1 t n i M' (er.trans (if_pos w)) hf h80 g dc⟩) (fun w => bn_f rfl ?_)
      exact k2_refuse g 5 (fun M2 hf2 g2 => ⟨_, rfl, h0 5 i M2 (er.trans (if_neg w)) (hf.tr hf2.mono) g2⟩)
  refine w_in 90 [16, 36, 71] ?_
  refine k2_clearD (fun M1 hf1 d1 => ?_)
  refine k2_start hT (gx.fs hf1) (gl.fs hf1) (fun M2 hf2 g2 => ?_)
  exact main 82 0 0 t_0 M2 rfl rfl bD_0 (fun _ => rfl) (fun z => absurd z (Nat.not_lt_zero _)) (hf1.mono.tr hf2.mono) g2 (d1.fs hf2) (by omega) _ rfl
end AL
