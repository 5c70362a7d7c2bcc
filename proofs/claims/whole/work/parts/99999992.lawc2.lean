/-! how the class reads a LAW: by descent -/
section LD
variable {L : Nat} {xs : Nat → Int32} {E : q_E} {d : Nat} {M : q_M} {t : q_T} {n : sN} {Q : Option Value → q_M → Prop} {P : q_M → Prop}
variable {x : Nat → Nat} {len : Nat} {tok : Nat → Tok} {T : Nat}
/-- what a reader of the class keeps: mi the method, nt what it reads, rk and dp its fuel and depth -/
def lwQ (L : Nat) (xs : Nat → Int32) (E : q_E) (x : Nat → Nat) (len : Nat) (tok : Nat → Tok) (T : Nat) (mi nt rk dp f : Nat) : Prop := ∀ (i o v l base D : Nat) (cs : List Nat) (M : q_M) (Q : Option Value → q_M → Prop) (a : Int32), a = nI o → o ≤ 6 → l < 6 → v ≤ 40 → base + cs.length ≤ i → 12 * (T + 1 - i) + rk ≤ f → 10 * (7 - o) + dp ≤ D → g_ct M x len tok T i → lwC M l base v cs →
  (∀ c v' j M', prs tok f nt i o v = .inr ((c, v'), j) → q_fs lLw fLw M M' → lowL l base M M' → g_ct M' x len tok T j → lwC M' l base v' (cs ++ c) → Q (some (.int 1)) M') →
  (∀ k j M', prs tok f nt i o v = .inl (k, j) → q_fs lLw fLw M M' → wOK M' l → g_cf M' x len k j → Q (some (.int 0)) M') →
  q_C q_mt (L, xs, q_shp) E mi D 0 0 [.ref 35, .ref 3, .int a] M Q
theorem bd_ok {α β : Type} {r : Rs α} {f : α → Nat → Rs β} {a : α} {i : Nat} (h : r = .inr (a, i)) : bd r f = f a i := by rw [h]; rfl
theorem bd_no {α β : Type} {r : Rs α} {f : α → Nat → Rs β} {e : Nat × Nat} (h : r = .inl e) : bd r f = .inl e := by rw [h]; rfl
theorem g_ct.i12 {i : Nat} (g : g_ct M x len tok T i) : i ≤ 1200 ∧ i ≤ T := by
  have := g.tt.1.1
  have := g.tt.2.2.1
  have := g.2.1
  omega
set_option maxRecDepth 100000 in
set_option maxHeartbeats 4000000 in
theorem k2_readTest {f : Nat} (ih : ∀ g, g ≤ f → lwQ L xs E x len tok T nX1_readBoth 2 5 8 g) : lwQ L xs E x len tok T nX1_readTest 0 6 9 (f + 1) := by
  intro i o v l base D cs M Q a ha ho hl hv hb hm hD g lw h1 h0
  subst ha
  obtain ⟨D, rfl⟩ : ∃ D', D = D' + 4 := ⟨D - 4, by omega⟩
  have ht := g.tt.v9
  -- the rest
  have W : ∀ gf, gf ≤ f → ∀ j n v1 cs1 M1, v1 ≤ 40 → base + cs1.length ≤ j → 12 * (T + 1 - j) ≤ gf → n < j → q_fs lLw fLw M M1 → lowL l base M M1 → g_ct M1 x len tok T j → lwC M1 l base v1 cs1 → (∀ c v' j2 M2, prs tok gf 1 j o v1 = .inr ((c, v'), j2) → q_fs lLw fLw M M2 → lowL l base M M2 → g_ct M2 x len tok T j2 → lwC M2 l base v' (cs1 ++ c) → Q (some (.int 1)) M2) → (∀ k j2 M2, prs tok gf 1 j o v1 = .inl (k, j2) → q_fs lLw fLw M M2 → wOK M2 l → g_cf M2 x len k j2 → Q (some (.int 0)) M2) → ∀ u4, u4 = nI n → q_G q_mt (L, xs, q_shp) E nX1_readTest (D + 4) 0 0 (q_Q (L, xs, q_shp) E Q) 10 [some (.ref 35), some (.ref 3), some (.int (nI o)), some (.int (1)), some (.int (u4))] [] M1 := by
    intro gf
    induction gf with
    | zero => intro _ j n v1 cs1 M1 _ _ hm1 _ _ _ g1; have := g1.i12; omega
    | succ gf ihg =>
      rintro hgf j n v1 cs1 M1 hv1 hb1 hm1 hn hf1 lo1 g1 lw1 k1 k0 u4 rfl
      have i12 := g1.i12
      refine w_at 90 [10] ?_
      refine z_le 1200 (n : Int) (fun z => by omega) (fun _ => ?_)
      refine ⟨fun z => absurd z (by decide), fun _ => ?_⟩
      refine k2_isWord g1 18 (by omega) (fun e => br_f (by decide) ?_) (fun e => br_t (by decide) ⟨z_1, ?_⟩)
      · refine k2_adv g1 (by rw [e]; decide) (fun M2 hf2 g2 => ?_)
        have lw2 := lw1.tk hf2
        have ep : prs tok (gf + 1) 1 j o v1 = bd (prs tok gf 2 (j + 1) o v1) (fun a j => bd (prs tok gf 1 j o a.2) (fun b j => .inr ((a.1 ++ 29 :: b.1, b.2), j))) := by rw [prs_1, if_pos e]
        have f2 : q_fs lLw fLw M M2 := hf1.tr hf2.mono
        have lo2 : lowL l base M M2 := lo1.tr (lowL.tk hf2)
        refine ih gf (by omega) (j + 1) o v1 l base (D + 3) cs1 M2 _ _ rfl ho hl hv1 (by omega) (by have := g2.2.2.1; omega) (by omega) g2.2 lw2 (fun c v' j2 M3 er hf3 lo3 g3 lw3 => ?_) (fun k j2 M3 er hf3 w3 g3 => ?_)
        · obtain ⟨⟨p1, p2, p3, p4⟩, p5, p6, -, -, -⟩ := prs_pK ht (by omega) ho hv1 er
          have q1 := (p6 (by omega)).1
          have i3 := g3.i12
          rw [bd_ok er] at ep
          refine k2_write1 (c := 29) lw3 (by rw [List.length_append]; omega) hl (fun M4 hf4 lo4 lw4 => ?_)
          have f4 : q_fs lLw fLw M M4 := (f2.tr hf3).tr hf4.mono
          rw [List.append_assoc] at lw4
          refine ihg (by omega) j2 (n + 1) v' _ M4 p2 ?_ (by omega) (by omega) f4 ((lo2.tr lo3).tr lo4) (g3.fs hf4) lw4 (fun c2 v2 j3 M5 er2 hf5 lo5 g5 lw5 => ?_) (fun k j3 M5 er2 hf5 w5 g5 => ?_) _ (by (first | assumption | (simp only [z_nat, z_lit, ← Int32.ofInt_add, ← Int32.ofInt_sub, ← Int32.ofInt_mul]; exact congrArg Int32.ofInt (by omega)) | (simp only [z_nat, z_lit, ← Int32.ofInt_add, ← Int32.ofInt_sub, ← Int32.ofInt_mul]; done) | exact congrArg Int32.ofInt (by omega) | rfl))
          · rw [List.length_append, List.length_append]
            show base + (cs1.length + (c.length + 1)) ≤ j2
            omega
          · refine k1 (c ++ 29 :: c2) v2 j3 M5 (by rw [ep, bd_ok er2]) hf5 lo5 g5 ?_
            rw [show cs1 ++ (c ++ 29 :: c2) = cs1 ++ (c ++ [29]) ++ c2 by simp]
            exact lw5
          · exact k0 k j3 M5 (by rw [ep, bd_no er2]) hf5 w5 g5
        · rw [bd_no er] at ep
          refine k2_write0 w3 hl (fun M4 hf4 w4 => ?_)
          have f4 : q_fs lLw fLw M M4 := (f2.tr hf3).tr hf4.mono
          have g4 : g_cf M4 x len k j2 := ⟨(hf4.p1 3 7).trans g3.1, (hf4.p1 3 8).trans g3.2⟩
          have q0 := k0 k j2 M4 ep f4 w4 g4
          refine w_at 90 [10] ?_
          exact ⟨fun _ => ⟨z_0, q0⟩, fun _ => ⟨fun _ => ⟨z_0, q0⟩, fun z => absurd rfl z⟩⟩
      · have ep : prs tok (gf + 1) 1 j o v1 = .inr (([], v1), j) := by rw [prs_1, if_neg e]
        refine k1 [] v1 j M1 ep hf1 lo1 g1 ?_
        rw [List.append_nil]
        exact lw1
  have ep := prs_0 (tok := tok) (f := f) (i := i) (o := o) (v := v)
  refine w_in 90 [10] ?_
  refine ih f (Nat.le_refl _) i o v l base (D + 3) cs M _ _ rfl ho hl hv hb (by omega) (by omega) g lw (fun c v' j M1 er hf1 lo1 g1 lw1 => ?_) (fun k j M1 er hf1 w1 g1 => ?_)
  · obtain ⟨⟨p1, p2, p3, p4⟩, p5, p6, -, -, -⟩ := prs_pK ht (by omega) ho hv er
    have q1 := (p6 (by omega)).1
    have i1 := g1.i12
    rw [bd_ok er] at ep
    refine W f (Nat.le_refl _) j 0 v' (cs ++ c) M1 p2 (by rw [List.length_append]; omega) (by omega) (by omega) hf1 lo1 g1 lw1 (fun c2 v2 j2 M2 er2 hf2 lo2 g2 lw2 => ?_) (fun k j2 M2 er2 hf2 w2 g2 => ?_) _ rfl
    · refine h1 (c ++ c2) v2 j2 M2 (by rw [ep, bd_ok er2]) hf2 lo2 g2 ?_
      rw [← List.append_assoc]
      exact lw2
    · exact h0 k j2 M2 (by rw [ep, bd_no er2]) hf2 w2 g2
  · rw [bd_no er] at ep
    have q0 := h0 k j M1 ep hf1 w1 g1
    refine w_at 90 [10] ?_
    exact ⟨fun z => absurd z (by decide), fun _ => ⟨fun _ => ⟨z_0, q0⟩, fun z => absurd rfl z⟩⟩
set_option maxRecDepth 100000 in
set_option maxHeartbeats 4000000 in
theorem k2_readBoth {f : Nat} (ih : ∀ g, g ≤ f → lwQ L xs E x len tok T nX1_readFact 4 4 7 g) : lwQ L xs E x len tok T nX1_readBoth 2 5 8 (f + 1) := by
  intro i o v l base D cs M Q a ha ho hl hv hb hm hD g lw h1 h0
  subst ha
  obtain ⟨D, rfl⟩ : ∃ D', D = D' + 4 := ⟨D - 4, by omega⟩
  have ht := g.tt.v9
  -- the rest
  have W : ∀ gf, gf ≤ f → ∀ j n v1 cs1 M1, v1 ≤ 40 → base + cs1.length ≤ j → 12 * (T + 1 - j) ≤ gf → n < j → q_fs lLw fLw M M1 → lowL l base M M1 → g_ct M1 x len tok T j → lwC M1 l base v1 cs1 → (∀ c v' j2 M2, prs tok gf 3 j o v1 = .inr ((c, v'), j2) → q_fs lLw fLw M M2 → lowL l base M M2 → g_ct M2 x len tok T j2 → lwC M2 l base v' (cs1 ++ c) → Q (some (.int 1)) M2) → (∀ k j2 M2, prs tok gf 3 j o v1 = .inl (k, j2) → q_fs lLw fLw M M2 → wOK M2 l → g_cf M2 x len k j2 → Q (some (.int 0)) M2) → ∀ u4, u4 = nI n → q_G q_mt (L, xs, q_shp) E nX1_readBoth (D + 4) 0 0 (q_Q (L, xs, q_shp) E Q) 10 [some (.ref 35), some (.ref 3), some (.int (nI o)), some (.int (1)), some (.int (u4))] [] M1 := by
    intro gf
    induction gf with
    | zero => intro _ j n v1 cs1 M1 _ _ hm1 _ _ _ g1; have := g1.i12; omega
    | succ gf ihg =>
      rintro hgf j n v1 cs1 M1 hv1 hb1 hm1 hn hf1 lo1 g1 lw1 k1 k0 u4 rfl
      have i12 := g1.i12
      refine w_at 90 [10] ?_
      refine z_le 1200 (n : Int) (fun z => by omega) (fun _ => ?_)
      refine ⟨fun z => absurd z (by decide), fun _ => ?_⟩
      refine k2_isWord g1 19 (by omega) (fun e => br_f (by decide) ?_) (fun e => br_t (by decide) ⟨z_1, ?_⟩)
      · refine k2_adv g1 (by rw [e]; decide) (fun M2 hf2 g2 => ?_)
        have lw2 := lw1.tk hf2
        have ep : prs tok (gf + 1) 3 j o v1 = bd (prs tok gf 4 (j + 1) o v1) (fun a j => bd (prs tok gf 3 j o a.2) (fun b j => .inr ((a.1 ++ 28 :: b.1, b.2), j))) := by rw [prs_3, if_pos e]
        have f2 : q_fs lLw fLw M M2 := hf1.tr hf2.mono
        have lo2 : lowL l base M M2 := lo1.tr (lowL.tk hf2)
        refine ih gf (by omega) (j + 1) o v1 l base (D + 3) cs1 M2 _ _ rfl ho hl hv1 (by omega) (by have := g2.2.2.1; omega) (by omega) g2.2 lw2 (fun c v' j2 M3 er hf3 lo3 g3 lw3 => ?_) (fun k j2 M3 er hf3 w3 g3 => ?_)
        · obtain ⟨⟨p1, p2, p3, p4⟩, p5, p6, -, -, -⟩ := prs_pK ht (by omega) ho hv1 er
          have q1 := (p6 (by omega)).1
          have i3 := g3.i12
          rw [bd_ok er] at ep
          refine k2_write1 (c := 28) lw3 (by rw [List.length_append]; omega) hl (fun M4 hf4 lo4 lw4 => ?_)
          have f4 : q_fs lLw fLw M M4 := (f2.tr hf3).tr hf4.mono
          rw [List.append_assoc] at lw4
          refine ihg (by omega) j2 (n + 1) v' _ M4 p2 ?_ (by omega) (by omega) f4 ((lo2.tr lo3).tr lo4) (g3.fs hf4) lw4 (fun c2 v2 j3 M5 er2 hf5 lo5 g5 lw5 => ?_) (fun k j3 M5 er2 hf5 w5 g5 => ?_) _ (by (first | assumption | (simp only [z_nat, z_lit, ← Int32.ofInt_add, ← Int32.ofInt_sub, ← Int32.ofInt_mul]; exact congrArg Int32.ofInt (by omega)) | (simp only [z_nat, z_lit, ← Int32.ofInt_add, ← Int32.ofInt_sub, ← Int32.ofInt_mul]; done) | exact congrArg Int32.ofInt (by omega) | rfl))
          · rw [List.length_append, List.length_append]
            show base + (cs1.length + (c.length + 1)) ≤ j2
            omega
          · refine k1 (c ++ 28 :: c2) v2 j3 M5 (by rw [ep, bd_ok er2]) hf5 lo5 g5 ?_
            rw [show cs1 ++ (c ++ 28 :: c2) = cs1 ++ (c ++ [28]) ++ c2 by simp]
            exact lw5
          · exact k0 k j3 M5 (by rw [ep, bd_no er2]) hf5 w5 g5
        · rw [bd_no er] at ep
          refine k2_write0 w3 hl (fun M4 hf4 w4 => ?_)
          have f4 : q_fs lLw fLw M M4 := (f2.tr hf3).tr hf4.mono
          have g4 : g_cf M4 x len k j2 := ⟨(hf4.p1 3 7).trans g3.1, (hf4.p1 3 8).trans g3.2⟩
          have q0 := k0 k j2 M4 ep f4 w4 g4
          refine w_at 90 [10] ?_
          exact ⟨fun _ => ⟨z_0, q0⟩, fun _ => ⟨fun _ => ⟨z_0, q0⟩, fun z => absurd rfl z⟩⟩
      · have ep : prs tok (gf + 1) 3 j o v1 = .inr (([], v1), j) := by rw [prs_3, if_neg e]
        refine k1 [] v1 j M1 ep hf1 lo1 g1 ?_
        rw [List.append_nil]
        exact lw1
  have ep := prs_2 (tok := tok) (f := f) (i := i) (o := o) (v := v)
  refine w_in 90 [10] ?_
  refine ih f (Nat.le_refl _) i o v l base (D + 3) cs M _ _ rfl ho hl hv hb (by omega) (by omega) g lw (fun c v' j M1 er hf1 lo1 g1 lw1 => ?_) (fun k j M1 er hf1 w1 g1 => ?_)
  · obtain ⟨⟨p1, p2, p3, p4⟩, p5, p6, -, -, -⟩ := prs_pK ht (by omega) ho hv er
    have q1 := (p6 (by omega)).1
    have i1 := g1.i12
    rw [bd_ok er] at ep
    refine W f (Nat.le_refl _) j 0 v' (cs ++ c) M1 p2 (by rw [List.length_append]; omega) (by omega) (by omega) hf1 lo1 g1 lw1 (fun c2 v2 j2 M2 er2 hf2 lo2 g2 lw2 => ?_) (fun k j2 M2 er2 hf2 w2 g2 => ?_) _ rfl
    · refine h1 (c ++ c2) v2 j2 M2 (by rw [ep, bd_ok er2]) hf2 lo2 g2 ?_
      rw [← List.append_assoc]
      exact lw2
    · exact h0 k j2 M2 (by rw [ep, bd_no er2]) hf2 w2 g2
  · rw [bd_no er] at ep
    have q0 := h0 k j M1 ep hf1 w1 g1
    refine w_at 90 [10] ?_
    exact ⟨fun z => absurd z (by decide), fun _ => ⟨fun _ => ⟨z_0, q0⟩, fun z => absurd rfl z⟩⟩
theorem cS_sign {p : Tok} (h : ¬ addC p = 0) : nI (cS (addC p)) = Int32.ofInt 20000 + nI p.2 := by
  unfold addC at h ⊢
  split at h
  · next q => rw [if_pos q, q]; decide
  · next q =>
    split at h
    · next q2 => rw [if_neg q, if_pos q2, q2]; decide
    · exact absurd rfl h
theorem cS_sign2 {p : Tok} (h : ¬ mulC p = 0) : nI (cS (mulC p)) = Int32.ofInt 20000 + nI p.2 := by
  unfold mulC at h ⊢
  split at h
  · next q => rw [if_pos q, q]; decide
  · next q =>
    split at h
    · next q2 => rw [if_neg q, if_pos q2, q2]; decide
    · next q2 =>
      split at h
      · next q3 => rw [if_neg q, if_neg q2, if_pos q3, q3]; decide
      · exact absurd rfl h
theorem cS_sign3 {p : Tok} (h : ¬ cmpC p = 0) : nI (cS (cmpC p)) = Int32.ofInt 20000 + nI p.2 := by
  unfold cmpC at h ⊢
  split at h
  · next q => rw [if_pos q, q]; decide
  · next q =>
    split at h
    · next q2 => rw [if_neg q, if_pos q2, q2]; decide
    · next q2 =>
      split at h
      · next q3 => rw [if_neg q, if_neg q2, if_pos q3, q3]; decide
      · exact absurd rfl h
set_option maxRecDepth 100000 in
set_option maxHeartbeats 4000000 in
theorem k2_readSum {f : Nat} (ih : ∀ g, g ≤ f → lwQ L xs E x len tok T nX1_readTerm 7 2 5 g) : lwQ L xs E x len tok T nX1_readSum 5 3 6 (f + 1) := by
  intro i o v l base D cs M Q a ha ho hl hv hb hm hD g lw h1 h0
  subst ha
  obtain ⟨D, rfl⟩ : ∃ D', D = D' + 4 := ⟨D - 4, by omega⟩
  have ht := g.tt.v9
  have W : ∀ gf, gf ≤ f → ∀ j n v1 cs1 M1, v1 ≤ 40 → base + cs1.length ≤ j → 12 * (T + 1 - j) ≤ gf → n < j → q_fs lLw fLw M M1 → lowL l base M M1 → g_ct M1 x len tok T j → lwC M1 l base v1 cs1 → (∀ c v' j2 M2, prs tok gf 6 j o v1 = .inr ((c, v'), j2) → q_fs lLw fLw M M2 → lowL l base M M2 → g_ct M2 x len tok T j2 → lwC M2 l base v' (cs1 ++ c) → Q (some (.int 1)) M2) → (∀ k j2 M2, prs tok gf 6 j o v1 = .inl (k, j2) → q_fs lLw fLw M M2 → wOK M2 l → g_cf M2 x len k j2 → Q (some (.int 0)) M2) → ∀ u4 l5, u4 = nI n → q_G q_mt (L, xs, q_shp) E nX1_readSum (D + 4) 0 0 (q_Q (L, xs, q_shp) E Q) 10 [some (.ref 35), some (.ref 3), some (.int (nI o)), some (.int (1)), some (.int (u4)), l5] [] M1 := by
    intro gf
    induction gf with
    | zero => intro _ j n v1 cs1 M1 _ _ hm1 _ _ _ g1; have := g1.i12; omega
    | succ gf ihg =>
      rintro hgf j n v1 cs1 M1 hv1 hb1 hm1 hn hf1 lo1 g1 lw1 k1 k0 u4 l5 rfl
      have i12 := g1.i12
      -- a sign of a sum
      have go : ¬ addC (tok j) = 0 → ∀ l5, q_G q_mt (L, xs, q_shp) E nX1_readSum (D + 4) 0 0 (q_Q (L, xs, q_shp) E Q) 40 [some (.ref 35), some (.ref 3), some (.int (nI o)), some (.int (1)), some (.int (nI n)), l5] [] M1 := by
        intro e l5
        have cb := addC_b e
        have e4 := g1.k.2.1 (by omega)
        refine w_at 90 [10, 40] ?_
        refine ⟨_, e4, ?_⟩
        refine k2_adv g1 (by omega) (fun M2 hf2 g2 => ?_)
        have lw2 := lw1.tk hf2
        have ep : prs tok (gf + 1) 6 j o v1 = bd (prs tok gf 7 (j + 1) o v1) (fun a j2 => bd (prs tok gf 6 j2 o a.2) (fun b j2 => .inr ((a.1 ++ addC (tok j) :: b.1, b.2), j2))) := by rw [prs_6, if_neg e]
        have f2 : q_fs lLw fLw M M2 := hf1.tr hf2.mono
        have lo2 : lowL l base M M2 := lo1.tr (lowL.tk hf2)
        refine ih gf (by omega) (j + 1) o v1 l base (D + 3) cs1 M2 _ _ rfl ho hl hv1 (by omega) (by have := g2.2.2.1; omega) (by omega) g2.2 lw2 (fun c v' j2 M3 er hf3 lo3 g3 lw3 => ?_) (fun k j2 M3 er hf3 w3 g3 => ?_)
        · obtain ⟨⟨p1, p2, p3, p4⟩, p5, -, -, p6, -⟩ := prs_pK ht (by omega) ho hv1 er
          have q1 := (p6 (by omega)).1
          have i3 := g3.i12
          rw [bd_ok er] at ep
          refine k2_write1 (c := addC (tok j)) lw3 (by rw [List.length_append]; omega) hl (fun M4 hf4 lo4 lw4 => ?_) (ha := (cS_sign e).symm)
          have f4 : q_fs lLw fLw M M4 := (f2.tr hf3).tr hf4.mono
          rw [List.append_assoc] at lw4
          refine ihg (by omega) j2 (n + 1) v' _ M4 p2 ?_ (by omega) (by omega) f4 ((lo2.tr lo3).tr lo4) (g3.fs hf4) lw4 (fun c2 v2 j3 M5 er2 hf5 lo5 g5 lw5 => ?_) (fun k j3 M5 er2 hf5 w5 g5 => ?_) _ _ (by (first | assumption | (simp only [z_nat, z_lit, ← Int32.ofInt_add, ← Int32.ofInt_sub, ← Int32.ofInt_mul]; exact congrArg Int32.ofInt (by omega)) | (simp only [z_nat, z_lit, ← Int32.ofInt_add, ← Int32.ofInt_sub, ← Int32.ofInt_mul]; done) | exact congrArg Int32.ofInt (by omega) | rfl))
          · rw [List.length_append, List.length_append]
            show base + (cs1.length + (c.length + 1)) ≤ j2
            omega
          · refine k1 (c ++ addC (tok j) :: c2) v2 j3 M5 (by rw [ep, bd_ok er2]) hf5 lo5 g5 ?_
            rw [show cs1 ++ (c ++ addC (tok j) :: c2) = cs1 ++ (c ++ [addC (tok j)]) ++ c2 by simp]
            exact lw5
          · exact k0 k j3 M5 (by rw [ep, bd_no er2]) hf5 w5 g5
        · rw [bd_no er] at ep
          refine k2_write0 w3 hl (fun M4 hf4 w4 => ?_)
          have f4 : q_fs lLw fLw M M4 := (f2.tr hf3).tr hf4.mono
          have g4 : g_cf M4 x len k j2 := ⟨(hf4.p1 3 7).trans g3.1, (hf4.p1 3 8).trans g3.2⟩
          have q0 := k0 k j2 M4 ep f4 w4 g4
          refine w_at 90 [10] ?_
          exact ⟨fun _ => ⟨z_0, q0⟩, fun _ => ⟨fun _ => ⟨z_0, q0⟩, fun z => absurd rfl z⟩⟩
      refine w_at 90 [10, 40] ?_
      refine z_le 1200 (n : Int) (fun z => by omega) (fun _ => ?_)
      refine ⟨fun z => absurd z (by decide), fun _ => ?_⟩
      refine k2_isSign g1 43 (by omega) (fun e => bn_t (by decide) ?_) (fun e => bn_f rfl ?_)
      · exact go (by unfold addC; rw [if_pos e]; decide) _
      · refine k2_isSign g1 45 (by omega) (fun e' => br_f (by decide) ?_) (fun e' => br_t (by decide) ⟨z_1, ?_⟩)
        · exact go (by unfold addC; rw [if_neg e, if_pos e']; decide) _
        · have ep : prs tok (gf + 1) 6 j o v1 = .inr (([], v1), j) := by rw [prs_6, if_pos (by unfold addC; rw [if_neg e, if_neg e'])]
          refine k1 [] v1 j M1 ep hf1 lo1 g1 ?_
          rw [List.append_nil]
          exact lw1
  have ep := prs_5 (tok := tok) (f := f) (i := i) (o := o) (v := v)
  refine w_in 90 [10] ?_
  refine ih f (Nat.le_refl _) i o v l base (D + 3) cs M _ _ rfl ho hl hv hb (by omega) (by omega) g lw (fun c v' j M1 er hf1 lo1 g1 lw1 => ?_) (fun k j M1 er hf1 w1 g1 => ?_)
  · obtain ⟨⟨p1, p2, p3, p4⟩, p5, -, -, p6, -⟩ := prs_pK ht (by omega) ho hv er
    have q1 := (p6 (by omega)).1
    have i1 := g1.i12
    rw [bd_ok er] at ep
    refine W f (Nat.le_refl _) j 0 v' (cs ++ c) M1 p2 (by rw [List.length_append]; omega) (by omega) (by omega) hf1 lo1 g1 lw1 (fun c2 v2 j2 M2 er2 hf2 lo2 g2 lw2 => ?_) (fun k j2 M2 er2 hf2 w2 g2 => ?_) _ _ rfl
    · refine h1 (c ++ c2) v2 j2 M2 (by rw [ep, bd_ok er2]) hf2 lo2 g2 ?_
      rw [← List.append_assoc]
      exact lw2
    · exact h0 k j2 M2 (by rw [ep, bd_no er2]) hf2 w2 g2
  · rw [bd_no er] at ep
    have q0 := h0 k j M1 ep hf1 w1 g1
    refine w_at 90 [10] ?_
    exact ⟨fun z => absurd z (by decide), fun _ => ⟨fun _ => ⟨z_0, q0⟩, fun z => absurd rfl z⟩⟩
set_option maxRecDepth 100000 in
set_option maxHeartbeats 4000000 in
theorem k2_readTerm {f : Nat} (ih : ∀ g, g ≤ f → lwQ L xs E x len tok T nX1_readValue 9 1 4 g) : lwQ L xs E x len tok T nX1_readTerm 7 2 5 (f + 1) := by
  intro i o v l base D cs M Q a ha ho hl hv hb hm hD g lw h1 h0
  subst ha
  obtain ⟨D, rfl⟩ : ∃ D', D = D' + 4 := ⟨D - 4, by omega⟩
  have ht := g.tt.v9
  have W : ∀ gf, gf ≤ f → ∀ j n v1 cs1 M1, v1 ≤ 40 → base + cs1.length ≤ j → 12 * (T + 1 - j) ≤ gf → n < j → q_fs lLw fLw M M1 → lowL l base M M1 → g_ct M1 x len tok T j → lwC M1 l base v1 cs1 → (∀ c v' j2 M2, prs tok gf 8 j o v1 = .inr ((c, v'), j2) → q_fs lLw fLw M M2 → lowL l base M M2 → g_ct M2 x len tok T j2 → lwC M2 l base v' (cs1 ++ c) → Q (some (.int 1)) M2) → (∀ k j2 M2, prs tok gf 8 j o v1 = .inl (k, j2) → q_fs lLw fLw M M2 → wOK M2 l → g_cf M2 x len k j2 → Q (some (.int 0)) M2) → ∀ u4 l5, u4 = nI n → q_G q_mt (L, xs, q_shp) E nX1_readTerm (D + 4) 0 0 (q_Q (L, xs, q_shp) E Q) 10 [some (.ref 35), some (.ref 3), some (.int (nI o)), some (.int (1)), some (.int (u4)), l5] [] M1 := by
    intro gf
    induction gf with
    | zero => intro _ j n v1 cs1 M1 _ _ hm1 _ _ _ g1; have := g1.i12; omega
    | succ gf ihg =>
      rintro hgf j n v1 cs1 M1 hv1 hb1 hm1 hn hf1 lo1 g1 lw1 k1 k0 u4 l5 rfl
      have i12 := g1.i12
      refine w_at 90 [10] ?_
      refine z_le 1200 (n : Int) (fun z => by omega) (fun _ => ?_)
      refine ⟨fun z => absurd z (by decide), fun _ => ?_⟩
      refine k2_isFactorSign g1 (fun e => br_f (by decide) ?_) (fun e => br_t (by decide) ⟨z_1, ?_⟩)
      · have cb := mulC_b e
        have e4 := g1.k.2.1 (by omega)
        refine ⟨_, e4, ?_⟩
        refine k2_adv g1 (by omega) (fun M2 hf2 g2 => ?_)
        have lw2 := lw1.tk hf2
        have ep : prs tok (gf + 1) 8 j o v1 = bd (prs tok gf 9 (j + 1) o v1) (fun a j2 => bd (prs tok gf 8 j2 o a.2) (fun b j2 => .inr ((a.1 ++ mulC (tok j) :: b.1, b.2), j2))) := by rw [prs_8, if_neg e]
        have f2 : q_fs lLw fLw M M2 := hf1.tr hf2.mono
        have lo2 : lowL l base M M2 := lo1.tr (lowL.tk hf2)
        refine ih gf (by omega) (j + 1) o v1 l base (D + 3) cs1 M2 _ _ rfl ho hl hv1 (by omega) (by have := g2.2.2.1; omega) (by omega) g2.2 lw2 (fun c v' j2 M3 er hf3 lo3 g3 lw3 => ?_) (fun k j2 M3 er hf3 w3 g3 => ?_)
        · obtain ⟨⟨p1, p2, p3, p4⟩, p5, -, -, p6, -⟩ := prs_pK ht (by omega) ho hv1 er
          have q1 := (p6 (by omega)).1
          have i3 := g3.i12
          rw [bd_ok er] at ep
          refine k2_write1 (c := mulC (tok j)) lw3 (by rw [List.length_append]; omega) hl (fun M4 hf4 lo4 lw4 => ?_) (ha := (cS_sign2 e).symm)
          have f4 : q_fs lLw fLw M M4 := (f2.tr hf3).tr hf4.mono
          rw [List.append_assoc] at lw4
          refine ihg (by omega) j2 (n + 1) v' _ M4 p2 ?_ (by omega) (by omega) f4 ((lo2.tr lo3).tr lo4) (g3.fs hf4) lw4 (fun c2 v2 j3 M5 er2 hf5 lo5 g5 lw5 => ?_) (fun k j3 M5 er2 hf5 w5 g5 => ?_) _ _ (by (first | assumption | (simp only [z_nat, z_lit, ← Int32.ofInt_add, ← Int32.ofInt_sub, ← Int32.ofInt_mul]; exact congrArg Int32.ofInt (by omega)) | (simp only [z_nat, z_lit, ← Int32.ofInt_add, ← Int32.ofInt_sub, ← Int32.ofInt_mul]; done) | exact congrArg Int32.ofInt (by omega) | rfl))
          · rw [List.length_append, List.length_append]
            show base + (cs1.length + (c.length + 1)) ≤ j2
            omega
          · refine k1 (c ++ mulC (tok j) :: c2) v2 j3 M5 (by rw [ep, bd_ok er2]) hf5 lo5 g5 ?_
            rw [show cs1 ++ (c ++ mulC (tok j) :: c2) = cs1 ++ (c ++ [mulC (tok j)]) ++ c2 by simp]
            exact lw5
          · exact k0 k j3 M5 (by rw [ep, bd_no er2]) hf5 w5 g5
        · rw [bd_no er] at ep
          refine k2_write0 w3 hl (fun M4 hf4 w4 => ?_)
          have f4 : q_fs lLw fLw M M4 := (f2.tr hf3).tr hf4.mono
          have g4 : g_cf M4 x len k j2 := ⟨(hf4.p1 3 7).trans g3.1, (hf4.p1 3 8).trans g3.2⟩
          have q0 := k0 k j2 M4 ep f4 w4 g4
          refine w_at 90 [10] ?_
          exact ⟨fun _ => ⟨z_0, q0⟩, fun _ => ⟨fun _ => ⟨z_0, q0⟩, fun z => absurd rfl z⟩⟩
      · have ep : prs tok (gf + 1) 8 j o v1 = .inr (([], v1), j) := by rw [prs_8, if_pos e]
        refine k1 [] v1 j M1 ep hf1 lo1 g1 ?_
        rw [List.append_nil]
        exact lw1
  have ep := prs_7 (tok := tok) (f := f) (i := i) (o := o) (v := v)
  refine w_in 90 [10] ?_
  refine ih f (Nat.le_refl _) i o v l base (D + 3) cs M _ _ rfl ho hl hv hb (by omega) (by omega) g lw (fun c v' j M1 er hf1 lo1 g1 lw1 => ?_) (fun k j M1 er hf1 w1 g1 => ?_)
  · obtain ⟨⟨p1, p2, p3, p4⟩, p5, -, -, p6, -⟩ := prs_pK ht (by omega) ho hv er
    have q1 := (p6 (by omega)).1
    have i1 := g1.i12
    rw [bd_ok er] at ep
    refine W f (Nat.le_refl _) j 0 v' (cs ++ c) M1 p2 (by rw [List.length_append]; omega) (by omega) (by omega) hf1 lo1 g1 lw1 (fun c2 v2 j2 M2 er2 hf2 lo2 g2 lw2 => ?_) (fun k j2 M2 er2 hf2 w2 g2 => ?_) _ _ rfl
    · refine h1 (c ++ c2) v2 j2 M2 (by rw [ep, bd_ok er2]) hf2 lo2 g2 ?_
      rw [← List.append_assoc]
      exact lw2
    · exact h0 k j2 M2 (by rw [ep, bd_no er2]) hf2 w2 g2
  · rw [bd_no er] at ep
    have q0 := h0 k j M1 ep hf1 w1 g1
    refine w_at 90 [10] ?_
    exact ⟨fun z => absurd z (by decide), fun _ => ⟨fun _ => ⟨z_0, q0⟩, fun z => absurd rfl z⟩⟩
set_option maxRecDepth 100000 in
set_option maxHeartbeats 4000000 in
theorem k2_readValue {f : Nat} (ih : lwQ L xs E x len tok T nX1_readSum 5 3 6 f) : lwQ L xs E x len tok T nX1_readValue 9 1 4 (f + 1) := by
  intro i o v l base D cs M Q a ha ho hl hv hb hm hD g lw h1 h0
  subst ha
  obtain ⟨D, rfl⟩ : ∃ D', D = D' + 4 := ⟨D - 4, by omega⟩
  have ht := g.tt.v9
  have i12 := g.i12
  have ep := prs_9 (tok := tok) (f := f) (i := i) (o := o) (v := v)
  have wO : wOK M l := lw.w (by omega)
  refine w_in 90 [] ?_
  refine k2_isSign g 40 (by omega) (fun e => br_f (by decide) ?_) (fun e => br_t (by decide) ?_)
  · rw [if_pos e] at ep
    refine z_lt (o : Int) 6 (fun z => ?_) (fun z => ?_)
    · rw [if_neg (by omega)] at ep
      refine k2_adv g (by rw [e]; decide) (fun M1 hf1 g1 => ?_)
      refine ih (i + 1) (o + 1) v l base (D + 3) cs M1 _ _ (by (first | assumption | (simp only [z_nat, z_lit, ← Int32.ofInt_add, ← Int32.ofInt_sub, ← Int32.ofInt_mul]; exact congrArg Int32.ofInt (by omega)) | (simp only [z_nat, z_lit, ← Int32.ofInt_add, ← Int32.ofInt_sub, ← Int32.ofInt_mul]; done) | exact congrArg Int32.ofInt (by omega) | rfl)) (by omega) hl hv (by omega) (by have := g1.2.2.1; omega) (by omega) g1.2 (lw.tk hf1) (fun c v' j M2 er hf2 lo2 g2 lw2 => br_f (by decide) ?_) (fun k j M2 er hf2 w2 g2 => br_t (by decide) ⟨z_0, h0 k j M2 (by rw [ep, bd_no er]) (hf1.mono.tr hf2) w2 g2⟩)
      rw [bd_ok er] at ep
      have i2 := g2.i12
      obtain ⟨⟨p1, p2, p3, p4⟩, -⟩ := prs_pK ht (by omega) (by omega) hv er
      refine k2_takeSign g2 41 (by omega) (fun e' M3 hf3 g3 => br_f (by decide) ⟨z_1, ?_⟩) (fun e' M3 hf3 g3 => br_t (by decide) ⟨z_0, ?_⟩)
      · rw [if_pos e'] at ep
        exact h1 c v' (j + 1) M3 ep ((hf1.mono.tr hf2).tr hf3.mono) (((lowL.tk hf1).tr lo2).tr (lowL.tk hf3)) g3.2 (lw2.tk hf3)
      · rw [if_neg e'] at ep
        exact h0 1 j M3 ep ((hf1.mono.tr hf2).tr hf3.mono) ((lw2.w (by rw [List.length_append]; omega)).tk hf3) g3
    · rw [if_pos (by omega)] at ep
      exact k2_refuse g 4 (fun M1 hf1 g1 => ⟨z_0, h0 4 i M1 ep hf1.mono (wO.tk hf1) g1⟩)
  · rw [if_neg e] at ep
    refine k2_stepOfValue g (fun hv0 => ?_) (fun hv0 => ?_)
    · rw [if_neg hv0] at ep
      have vb := valC_b (ht i) hv0
      have cb : cS (valC (tok i)) ≤ 10007 := by
        unfold cS
        split
        · omega
        · rw [if_pos (by omega)]
          omega
      refine z_ne (cS (valC (tok i)) : Int) (-1) (fun _ => ?_) (fun z => by omega)
      refine ⟨_, lw.2.1, ?_⟩
      refine z_lt (v : Int) 40 (fun z => ?_) (fun z => ?_)
      · rw [if_neg (by omega)] at ep
        refine ⟨_, lw.2.1, ?_⟩
        refine ⟨_, rfl, ?_⟩
        have hf1 : q_fs [] [(35, 4)] M (q_si M 35 4 (nI v + Int32.ofInt 1)) := q_fs.rf.s1
        have lw1 : lwC (q_si M 35 4 (nI v + Int32.ofInt 1)) l base (v + 1) cs := ⟨(hf1.p1 35 3).trans lw.1, by rw [q_si_s]; (first | assumption | (simp only [z_nat, z_lit, ← Int32.ofInt_add, ← Int32.ofInt_sub, ← Int32.ofInt_mul]; exact congrArg Int32.ofInt (by omega)) | (simp only [z_nat, z_lit, ← Int32.ofInt_add, ← Int32.ofInt_sub, ← Int32.ofInt_mul]; done) | exact congrArg Int32.ofInt (by omega) | rfl), (hf1.p1 35 5).trans lw.2.2.1, (hf1.p1 37 l).trans lw.2.2.2.1, fun p hp => (hf1.p1 36 _).trans (lw.2.2.2.2 p hp)⟩
        have nf : ¬ (tok i).1 = 0 := by omega
        have lt := g.tt.lt g.2.1 nf
        have t12 := g.tt.1.1
        have t13 := g.tt.2.2.1
        refine k2_write1 (c := valC (tok i)) lw1 (by omega) hl (fun M2 hf2 lo2 lw2 => ?_)
        refine k2_adv ((g.fs hf1).fs hf2) nf (fun M3 hf3 g3 => ⟨z_1, ?_⟩)
        exact h1 _ _ _ M3 ep ((hf1.mono.tr hf2.mono).tr hf3.mono) (((lowL.tk hf1).tr lo2).tr (lowL.tk hf3)) g3.2 (lw2.tk hf3)
      · rw [if_pos (by omega)] at ep
        exact k2_refuse g 4 (fun M1 hf1 g1 => ⟨z_0, h0 4 i M1 ep hf1.mono (wO.tk hf1) g1⟩)
    · rw [if_pos hv0] at ep
      refine z_ne (-1) (-1) (fun z => absurd rfl z) (fun _ => ?_)
      exact k2_refuse g 1 (fun M1 hf1 g1 => ⟨z_0, h0 1 i M1 ep hf1.mono (wO.tk hf1) g1⟩)
set_option maxRecDepth 100000 in
set_option maxHeartbeats 4000000 in
theorem k2_readFact {f : Nat} (ihT : lwQ L xs E x len tok T nX1_readTest 0 6 9 f) (ihF : lwQ L xs E x len tok T nX1_readFact 4 4 7 f) (ihS : lwQ L xs E x len tok T nX1_readSum 5 3 6 f) : lwQ L xs E x len tok T nX1_readFact 4 4 7 (f + 1) := by
  intro i o v l base D cs M Q a ha ho hl hv hb hm hD g lw h1 h0
  subst ha
  obtain ⟨D, rfl⟩ : ∃ D', D = D' + 4 := ⟨D - 4, by omega⟩
  have ht := g.tt.v9
  have i12 := g.i12
  have ep := prs_4 (tok := tok) (f := f) (i := i) (o := o) (v := v)
  have wO : wOK M l := lw.w (by omega)
  refine w_in 90 [20, 130] ?_
  refine k2_isWord g 20 (by omega) (fun e => bn_t (by decide) ?_) (fun e => bn_f rfl ?_)
  · rw [if_pos e] at ep
    refine w_at 90 [20, 130] ?_
    refine z_lt (o : Int) 6 (fun z => ?_) (fun z => ?_)
    · rw [if_neg (by omega)] at ep
      refine k2_adv g (by rw [e]; decide) (fun M1 hf1 g1 => ?_)
      refine ⟨fun _ => ?_, fun z => absurd z (by decide)⟩
      refine ihF (i + 1) (o + 1) v l base (D + 3) cs M1 _ _ (by (first | assumption | (simp only [z_nat, z_lit, ← Int32.ofInt_add, ← Int32.ofInt_sub, ← Int32.ofInt_mul]; exact congrArg Int32.ofInt (by omega)) | (simp only [z_nat, z_lit, ← Int32.ofInt_add, ← Int32.ofInt_sub, ← Int32.ofInt_mul]; done) | exact congrArg Int32.ofInt (by omega) | rfl)) (by omega) hl hv (by omega) (by have := g1.2.2.1; omega) (by omega) g1.2 (lw.tk hf1) (fun c v' j M2 er hf2 lo2 g2 lw2 => ?_) (fun k j M2 er hf2 w2 g2 => ?_)
      · rw [bd_ok er] at ep
        have i2 := g2.i12
        obtain ⟨⟨p1, p2, p3, p4⟩, -⟩ := prs_pK ht (by omega) (by omega) hv er
        refine k2_write1 (c := 30) lw2 (by rw [List.length_append]; omega) hl (fun M3 hf3 lo3 lw3 => ⟨z_1, ?_⟩)
        rw [List.append_assoc] at lw3
        exact h1 _ _ j M3 ep ((hf1.mono.tr hf2).tr hf3.mono) (((lowL.tk hf1).tr lo2).tr lo3) (g2.fs hf3) lw3
      · rw [bd_no er] at ep
        refine k2_write0 w2 hl (fun M3 hf3 w3 => ⟨z_0, ?_⟩)
        exact h0 k j M3 ep ((hf1.mono.tr hf2).tr hf3.mono) w3 ⟨(hf3.p1 3 7).trans g2.1, (hf3.p1 3 8).trans g2.2⟩
    · rw [if_pos (by omega)] at ep
      exact k2_refuse g 4 (fun M1 hf1 g1 => ⟨z_0, h0 4 i M1 ep hf1.mono (wO.tk hf1) g1⟩)
  · rw [if_neg e] at ep
    refine k2_isSign g 91 (by omega) (fun e' => br_f (by decide) ?_) (fun e' => br_t (by decide) ?_)
    · rw [if_pos e'] at ep
      refine w_at 90 [20, 130] ?_
      refine z_lt (o : Int) 6 (fun z => ?_) (fun z => ?_)
      · rw [if_neg (by omega)] at ep
        refine k2_adv g (by rw [e']; decide) (fun M1 hf1 g1 => ?_)
        refine ⟨fun z => absurd rfl z, fun _ => ?_⟩
        refine ihT (i + 1) (o + 1) v l base (D + 3) cs M1 _ _ (by (first | assumption | (simp only [z_nat, z_lit, ← Int32.ofInt_add, ← Int32.ofInt_sub, ← Int32.ofInt_mul]; exact congrArg Int32.ofInt (by omega)) | (simp only [z_nat, z_lit, ← Int32.ofInt_add, ← Int32.ofInt_sub, ← Int32.ofInt_mul]; done) | exact congrArg Int32.ofInt (by omega) | rfl)) (by omega) hl hv (by omega) (by have := g1.2.2.1; omega) (by omega) g1.2 (lw.tk hf1) (fun c v' j M2 er hf2 lo2 g2 lw2 => br_f (by decide) ?_) (fun k j M2 er hf2 w2 g2 => br_t (by decide) ⟨z_0, h0 k j M2 (by rw [ep, bd_no er]) (hf1.mono.tr hf2) w2 g2⟩)
        rw [bd_ok er] at ep
        have i2 := g2.i12
        obtain ⟨⟨p1, p2, p3, p4⟩, -⟩ := prs_pK ht (by omega) (by omega) hv er
        refine k2_takeSign g2 93 (by omega) (fun e2 M3 hf3 g3 => br_f (by decide) ⟨z_1, ?_⟩) (fun e2 M3 hf3 g3 => br_t (by decide) ⟨z_0, ?_⟩)
        · rw [if_pos e2] at ep
          exact h1 c v' (j + 1) M3 ep ((hf1.mono.tr hf2).tr hf3.mono) (((lowL.tk hf1).tr lo2).tr (lowL.tk hf3)) g3.2 (lw2.tk hf3)
        · rw [if_neg e2] at ep
          exact h0 1 j M3 ep ((hf1.mono.tr hf2).tr hf3.mono) ((lw2.w (by rw [List.length_append]; omega)).tk hf3) g3
      · rw [if_pos (by omega)] at ep
        exact k2_refuse g 4 (fun M1 hf1 g1 => ⟨z_0, h0 4 i M1 ep hf1.mono (wO.tk hf1) g1⟩)
    · rw [if_neg e'] at ep
      refine ihS i o v l base (D + 3) cs M _ _ rfl ho hl hv hb (by omega) (by omega) g lw (fun c v' j M1 er hf1 lo1 g1 lw1 => bn_t (by decide) ?_) (fun k j M1 er hf1 w1 g1 => bn_f rfl ⟨z_0, h0 k j M1 (by rw [ep, bd_no er]) hf1 w1 g1⟩)
      obtain ⟨⟨p1, p2, p3, p4⟩, p5, -, -, p6, -⟩ := prs_pK ht (by omega) ho hv er
      have q1 := (p6 (by omega)).1
      have i1 := g1.i12
      rw [bd_ok er] at ep
      have go : ¬ cmpC (tok j) = 0 → ∀ l3 l4 l5, q_G q_mt (L, xs, q_shp) E nX1_readFact (D + 4) 0 0 (q_Q (L, xs, q_shp) E Q) 130 [some (.ref 35), some (.ref 3), some (.int (nI o)), some (.int (l3)), l4, l5] [] M1 := by
        intro hc l3 l4 l5
        rw [if_neg hc] at ep
        have cb := cmpC_b hc
        have e4 := g1.k.2.1 (by omega)
        refine w_at 90 [130] ?_
        refine ⟨_, e4, ?_⟩
        refine k2_adv g1 (by omega) (fun M2 hf2 g2 => ?_)
        refine ihS (j + 1) o v' l base (D + 3) (cs ++ c) M2 _ _ rfl ho hl p2 (by rw [List.length_append]; omega) (by have := g2.2.2.1; omega) (by omega) g2.2 (lw1.tk hf2) (fun c2 v2 j2 M3 er2 hf3 lo3 g3 lw3 => ?_) (fun k j2 M3 er2 hf3 w3 g3 => ?_)
        · obtain ⟨⟨r1, r2, r3, r4⟩, -⟩ := prs_pK ht (by omega) ho p2 er2
          have i3 := g3.i12
          rw [bd_ok er2] at ep
          refine k2_write1 (c := cmpC (tok j)) lw3 (by rw [List.length_append, List.length_append]; omega) hl (fun M4 hf4 lo4 lw4 => ⟨z_1, ?_⟩) (ha := (cS_sign3 hc).symm)
          refine h1 _ _ j2 M4 ep (((hf1.tr hf2.mono).tr hf3).tr hf4.mono) (((lo1.tr (lowL.tk hf2)).tr lo3).tr lo4) (g3.fs hf4) ?_
          rw [show cs ++ (c ++ (c2 ++ [cmpC (tok j)])) = cs ++ c ++ c2 ++ [cmpC (tok j)] by simp]
          exact lw4
        · rw [bd_no er2] at ep
          refine k2_write0 w3 hl (fun M4 hf4 w4 => ⟨z_0, ?_⟩)
          exact h0 k j2 M4 ep (((hf1.tr hf2.mono).tr hf3).tr hf4.mono) w4 ⟨(hf4.p1 3 7).trans g3.1, (hf4.p1 3 8).trans g3.2⟩
      refine k2_isSign g1 60 (by omega) (fun e2 => bn_t (by decide) ?_) (fun e2 => bn_f rfl ?_)
      · exact go (by unfold cmpC; rw [if_pos e2]; decide) _ _ _
      refine k2_isSign g1 62 (by omega) (fun e3 => bn_t (by decide) ?_) (fun e3 => bn_f rfl ?_)
      · exact go (by unfold cmpC; rw [if_neg e2, if_pos e3]; decide) _ _ _
      refine k2_isSign g1 61 (by omega) (fun e4 => bn_t (by decide) ?_) (fun e4 => bn_f rfl ?_)
      · exact go (by unfold cmpC; rw [if_neg e2, if_neg e3, if_pos e4]; decide) _ _ _
      rw [if_pos (by unfold cmpC; rw [if_neg e2, if_neg e3, if_neg e4])] at ep
      exact k2_refuse g1 1 (fun M2 hf2 g2 => ⟨z_0, h0 1 j M2 ep (hf1.tr hf2.mono) ((lw1.w (by rw [List.length_append]; omega)).tk hf2) g2⟩)
/-- all of them -/
theorem k2_law : ∀ f, ∀ g, g ≤ f → lwQ L xs E x len tok T nX1_readTest 0 6 9 g ∧ lwQ L xs E x len tok T nX1_readBoth 2 5 8 g ∧ lwQ L xs E x len tok T nX1_readFact 4 4 7 g ∧ lwQ L xs E x len tok T nX1_readSum 5 3 6 g ∧ lwQ L xs E x len tok T nX1_readTerm 7 2 5 g ∧ lwQ L xs E x len tok T nX1_readValue 9 1 4 g := by
  have z : ∀ mi nt rk dp, 0 < rk → lwQ L xs E x len tok T mi nt rk dp 0 := fun mi nt rk dp hr i o v l base D cs M Q a _ _ _ _ _ hm => by omega
  intro f
  induction f with
  | zero =>
    intro g hg
    obtain rfl : g = 0 := by omega
    exact ⟨z _ _ _ _ (by omega), z _ _ _ _ (by omega), z _ _ _ _ (by omega), z _ _ _ _ (by omega), z _ _ _ _ (by omega), z _ _ _ _ (by omega)⟩
  | succ f ih =>
    intro g hg
    by_cases q : g = f + 1
    · subst q
      have i0 := ih f (Nat.le_refl _)
      exact ⟨k2_readTest (fun g hg => (ih g hg).2.1), k2_readBoth (fun g hg => (ih g hg).2.2.1), k2_readFact i0.1 i0.2.2.1 i0.2.2.2.1, k2_readSum (fun g hg => (ih g hg).2.2.2.2.1), k2_readTerm (fun g hg => (ih g hg).2.2.2.2.2), k2_readValue i0.2.2.2.1⟩
    · exact ih g (by omega)
end LD
