/-! how the class reads an act, and all of them -/
theorem mkP_11 {tok : Nat → Tok} : ∀ {f i v j : Nat}, f ≤ 11 → mkP tok f i = .inr (v, j) → (f + v = 11 + (j - i) ∧ i < j ∧ v ≤ 11) ∧ ∀ p, p < j - i → (tok (i + p)).1 = 3 ∧ (tok (i + p)).2 ≤ 20
  | 0, _, _, _, _, h => by cases h
  | f + 1, i, v, j, hf, h => by
    have h : (if (tok i).1 = 3 then (if (tok i).2 ≤ 20 then (if (tok (i + 1)).1 = 3 then (if f = 0 then Sum.inl (if (tok (i + 1)).2 ≤ 20 then 4 else 2, i + 1) else mkP tok f (i + 1)) else Sum.inr (11 - f, i + 1)) else Sum.inl (2, i)) else Sum.inl (1, i)) = Sum.inr (v, j) := h
    split at h
    · next q1 =>
      split at h
      · next q2 =>
        split at h
        · split at h
          · cases h
          · obtain ⟨a, b⟩ := mkP_11 (by omega) h
            refine ⟨by omega, fun p hp => ?_⟩
            by_cases q : p = 0
            · subst q
              exact ⟨q1, q2⟩
            · have := b (p - 1) (by omega)
              rw [show i + 1 + (p - 1) = i + p by omega] at this
              exact this
        · cases h
          refine ⟨by omega, fun p hp => ?_⟩
          obtain rfl : p = 0 := by omega
          exact ⟨q1, q2⟩
      · cases h
    · cases h
/-- what an act that was read can be -/
theorem actP_i {t : q_T} {x : Nat → Nat} {len : Nat} {tok : Nat → Tok} {i v m j : Nat} (h : actP t x len tok i = .inr ((v, m), j)) : ∃ j1 j2, detP t x len tok i = .inr (v, j1) ∧ timP tok j1 = .inr (m, j2) ∧ tok j2 = (4, 59) ∧ j = j2 + 1 := by
  unfold actP at h
  split at h
  · cases h
  · next v' j1 e1 =>
    split at h
    · cases h
    · next m' j2 e2 =>
      unfold endP at h
      split at h
      · next q => cases h; exact ⟨j1, j2, e1, e2, q, rfl⟩
      · cases h
theorem actP_v {t : q_T} {x : Nat → Nat} {len : Nat} {tok : Nat → Tok} {i v m j : Nat} (h : actP t x len tok i = .inr ((v, m), j)) (hw : (tok i).2 = 26) : v ≤ 11 := by
  obtain ⟨j1, j2, e1, e2, e3, e4⟩ := actP_i h
  unfold detP at e1
  rw [if_pos hw] at e1
  exact (mkP_11 (by omega) e1).1.2.2
section SD
variable {L : Nat} {xs : Nat → Int32} {E : q_E} {d : Nat} {M : q_M} {t : q_T} {n : sN} {Q : Option Value → q_M → Prop} {P : q_M → Prop}
variable {x : Nat → Nat} {len : Nat} {tok : Nat → Tok} {T : Nat}
/-- the acts ahead of the s-th stand as they were -/
def lowS (s : Nat) (M M' : q_M) : Prop := (∀ k, k < s → M'.1 252 k = M.1 252 k ∧ M'.1 253 k = M.1 253 k ∧ M'.1 254 k = M.1 254 k) ∧ ∀ k, k < 11 * s → M'.1 255 k = M.1 255 k
theorem lowS.rf {s : Nat} : lowS s M M := ⟨fun _ _ => ⟨rfl, rfl, rfl⟩, fun _ _ => rfl⟩
theorem lowS.tr {s : Nat} {M' M'' : q_M} (h : lowS s M M') (h' : lowS s M' M'') : lowS s M M'' := ⟨fun k hk => ⟨(h'.1 k hk).1.trans (h.1 k hk).1, (h'.1 k hk).2.1.trans (h.1 k hk).2.1, (h'.1 k hk).2.2.trans (h.1 k hk).2.2⟩, fun k hk => (h'.2 k hk).trans (h.2 k hk)⟩
theorem lowS.le {s s' : Nat} {M' : q_M} (h : lowS s M M') (hs : s' ≤ s) : lowS s' M M' := ⟨fun k hk => h.1 k (by omega), fun k hk => h.2 k (by omega)⟩
theorem lowS.of {s : Nat} {l : List Nat} {f : List (Nat × Nat)} {M' : q_M} (hf : q_fs l f M M') (o : (l.all (fun a => !(c_rng 252 255 a)) && f.all (fun q => !(c_rng 252 255 q.1))) = true := by exact rfl) : lowS s M M' := ⟨fun k _ => ⟨(hf 252 k (q_out o rfl k)).1, (hf 253 k (q_out o rfl k)).1, (hf 254 k (q_out o rfl k)).1⟩, fun k _ => (hf 255 k (q_out o rfl k)).1⟩
theorem lowS.si {s r : Nat} {v : Int32} (hr : r = 252 ∨ r = 253 ∨ r = 254) : lowS s M (q_si M r s v) := ⟨fun k hk => ⟨q_si_nn (by omega), q_si_nn (by omega), q_si_nn (by omega)⟩, fun k _ => q_si_nn (by omega)⟩
/-- the s-th act so far -/
def newS (s : Nat) (M : q_M) (tok : Nat → Tok) (i v : Nat) : Prop := M.1 252 s = nI (tok i).2 ∧ M.1 253 s = nI v ∧ ((tok i).2 = 26 → ∀ p, p < v → M.1 255 (11 * s + p) = nI (tok (i + 1 + p)).2)
theorem newS.of {s i v : Nat} {l : List Nat} {f : List (Nat × Nat)} {M' : q_M} (h : newS s M tok i v) (hf : q_fs l f M M') (o : (l.all (fun a => !(c_rng 252 253 a || Nat.beq 255 a)) && f.all (fun q => !(c_rng 252 253 q.1 || Nat.beq 255 q.1))) = true := by exact rfl) : newS s M' tok i v := ⟨((hf 252 s (q_out (p := fun a => c_rng 252 253 a || Nat.beq 255 a) o rfl s)).1).trans h.1, ((hf 253 s (q_out (p := fun a => c_rng 252 253 a || Nat.beq 255 a) o rfl s)).1).trans h.2.1, fun z p hp => ((hf 255 _ (q_out (p := fun a => c_rng 252 253 a || Nat.beq 255 a) o rfl _)).1).trans (h.2.2 z p hp)⟩
/-- the entrant by a name token, both sides' names -/
theorem nm_tk {i e : Nat} (hT : g_T x len tok T) (h : (tok i).1 = 2) (hm : nmO t (10 + e)) : (Int64.ofInt (n5 t (10 + e) : Nat) = Int64.ofInt (w5E x (tkS x len i) ((tkR x len (tkS x len i) - tkS x len i)) : Nat) ↔ n5 t (10 + e) = w5E x (tkS x len i) ((tkR x len (tkS x len i) - tkS x len i))) ∧ (Int64.ofInt (n8 t (10 + e) : Nat) = Int64.ofInt (w8E x (tkS x len i) ((tkR x len (tkS x len i) - tkS x len i)) : Nat) ↔ n5 t (10 + e) = w5E x (tkS x len i) ((tkR x len (tkS x len i) - tkS x len i))) := by
  have a := hT.2.1 i
  rw [tk_pr h] at a
  obtain ⟨a1, a2, a3, a4⟩ := a.nm
  have l : ∀ p, p < (tkR x len (tkS x len i) - tkS x len i) → 97 ≤ x (tkS x len i + p) ∧ x (tkS x len i + p) ≤ 122 := fun p hp => lt_tk a1 a2 hp
  have b := nm_b hm
  have c := w5E_60 l
  have e8 := w8E_63 (by omega) l
  refine ⟨y_inj (by omega) (by omega), ?_⟩
  rw [y_inj (by omega) (by omega)]
  exact (w58 (by have := hm.2.1; omega) (by omega) hm.2.2.1 l).symm
set_option maxRecDepth 100000 in
set_option maxHeartbeats 4000000 in
theorem k2_findName {i : Nat} (g : g_ct M x len tok T i) (h : (tok i).1 = 2) (hN : M.1 6 9 = nI (t 8 0)) (h6 : t 8 0 ≤ 6) (nm : ∀ e, e < t 8 0 → nmO t (10 + e) ∧ M.2 12 e = Int64.ofInt (n5 t (10 + e) : Nat)) {v : Int64} (hv : v = Int64.ofInt (w5E x (tkS x len i) ((tkR x len (tkS x len i) - tkS x len i)) : Nat)) (h1 : outE t x len i < t 8 0 → Q (some (.int (nI (outE t x len i)))) M) (h0 : ¬ outE t x len i < t 8 0 → Q (some (.int (Int32.ofInt (-1)))) M) : q_C q_mt (L, xs, q_shp) E nX2_findEntrant (d) 0 0 [.ref 6, .long (v)] M Q := by
  subst hv
  refine k2_findEntrant hN h6 (fun e he => ?_) (fun hn => ?_)
  · have b : outE t x len i = e := outE_un he.1 ((nm_tk g.tt h (nm e he.1).1).1.mp ((nm e he.1).2.symm.trans he.2.1)) (fun j hj z => he.2.2 j hj ((nm j (by have := he.1; omega)).2.trans ((nm_tk g.tt h (nm j (by have := he.1; omega)).1).1.mpr z)))
    rw [← b]
    exact h1 (by rw [b]; exact he.1)
  · refine h0 (fun z => ?_)
    have s := outE_s (t := t) (x := x) (len := len) (j := i)
    exact hn _ z ((nm _ z).2.trans ((nm_tk g.tt h (nm _ z).1).1.mpr (s.2.2 z)))
set_option maxRecDepth 100000 in
set_option maxHeartbeats 4000000 in
theorem k2_readAct {i s : Nat} (g : g_ct M x len tok T i) (hA : isA tok i) (hs : M.1 251 7 = nI s) (h60 : s < 60) (hN : M.1 6 9 = nI (t 8 0)) (h6 : t 8 0 ≤ 6) (nm : ∀ e, e < t 8 0 → nmO t (10 + e) ∧ M.2 12 e = Int64.ofInt (n5 t (10 + e) : Nat)) (h1 : ∀ v j M', detP t x len tok i = .inr (v, j) → q_fs lSc fTk M M' → g_ct M' x len tok T j → lowS s M M' → newS s M' tok i v → Q (some (.int 1)) M') (h0 : ∀ k j M', detP t x len tok i = .inl (k, j) → q_fs lSc fTk M M' → g_cf M' x len k j → Q (some (.int 0)) M') : q_C q_mt (L, xs, q_shp) E nX7_readAct (d + 4) 0 0 [.ref 251] M Q := by
  obtain ⟨hA1, hA2, hA3⟩ := hA
  have e4 := g.k.2.1 (by omega)
  refine w_in 90 [] ?_
  refine ⟨_, hs, ?_⟩
  refine ⟨_, e4, ?_⟩
  refine ⟨s, _, by (first | assumption | (simp only [z_nat, z_lit, ← Int32.ofInt_add, ← Int32.ofInt_sub, ← Int32.ofInt_mul]; exact congrArg Int32.ofInt (by omega)) | (simp only [z_nat, z_lit, ← Int32.ofInt_add, ← Int32.ofInt_sub, ← Int32.ofInt_mul]; done) | exact congrArg Int32.ofInt (by omega) | rfl), by (dsimp only; omega), rfl, ?_⟩
  refine ⟨_, hs, ?_⟩
  refine ⟨s, _, by (first | assumption | (simp only [z_nat, z_lit, ← Int32.ofInt_add, ← Int32.ofInt_sub, ← Int32.ofInt_mul]; exact congrArg Int32.ofInt (by omega)) | (simp only [z_nat, z_lit, ← Int32.ofInt_add, ← Int32.ofInt_sub, ← Int32.ofInt_mul]; done) | exact congrArg Int32.ofInt (by omega) | rfl), by (dsimp only; omega), rfl, ?_⟩
  have fA : q_fs lSc fTk M (q_si (q_si M 252 s (nI (tok i).2)) 253 s (Int32.ofInt 0)) := q_fs.rf.s1.s1
  have lA : lowS s M (q_si (q_si M 252 s (nI (tok i).2)) 253 s (Int32.ofInt 0)) := lowS.tr (lowS.si (Or.inl rfl)) (lowS.si (Or.inr (Or.inl rfl)))
  refine k2_adv (g.fs (show q_fs [252, 253] [] M _ from q_fs.rf.s1.s1)) (by omega) (fun M1 hf1 g1 => ?_)
  have f1 : q_fs lSc fTk M M1 := fA.tr hf1.mono
  have l1 : lowS s M M1 := lA.tr (lowS.of hf1)
  have e7 : M1.1 251 7 = nI s := (f1.p1 251 7).trans hs
  have e252 : M1.1 252 s = nI (tok i).2 := (hf1.p1 252 s).trans ((q_si_nn (by omega)).trans q_si_s)
  have e253 : M1.1 253 s = Int32.ofInt 0 := (hf1.p1 253 s).trans q_si_s
  have g1 := g1.2
  -- a number is wanted
  have num : (tok i).2 = 27 ∨ (tok i).2 = 29 → q_C q_mt (L, xs, q_shp) E nX7_readAward (d + 3) 0 0 [.ref 251] M1 (fun v M' => ∃ x, v = some (.int x) ∧ (x = 0 ∨ x = 1) ∧ Q (some (.int x)) M') := by
    intro hw
    have ed : detP t x len tok i = numP tok (i + 1) 0 20 := by
      unfold detP
      rw [if_neg (by omega), if_pos hw]
    refine w_in 90 [] ?_
    refine k2_takeNumber g1 0 20 (by omega) (by omega) (fun v nv ev hv M2 hf2 g2 => bn_t (by decide) ?_) (fun k nk hk M2 hf2 g2 => bn_f rfl ⟨z_0, _, rfl, z_0, h0 k _ M2 (ed.trans nk) (f1.tr hf2.mono) g2⟩)
    have e72 : M2.1 251 7 = nI s := (hf2.p1 251 7).trans e7
    refine ⟨_, e72, ?_⟩
    refine ⟨_, g2.1, ?_⟩
    refine ⟨s, _, by (first | assumption | (simp only [z_nat, z_lit, ← Int32.ofInt_add, ← Int32.ofInt_sub, ← Int32.ofInt_mul]; exact congrArg Int32.ofInt (by omega)) | (simp only [z_nat, z_lit, ← Int32.ofInt_add, ← Int32.ofInt_sub, ← Int32.ofInt_mul]; done) | exact congrArg Int32.ofInt (by omega) | rfl), by (dsimp only; omega), rfl, ?_⟩
    have hf3 : q_fs [253] [] M2 (q_si M2 253 s (nI v)) := q_fs.rf.s1
    refine ⟨z_1, _, rfl, z_1, h1 v _ _ (ed.trans nv) ((f1.tr hf2.mono).s1) (g2.2.fs hf3) ((l1.tr (lowS.of hf2)).tr (lowS.si (Or.inr (Or.inl rfl)))) ⟨?_, q_si_s, fun z => by omega⟩⟩
    exact (q_si_nn (by omega)).trans ((hf2.p1 252 s).trans e252)
  have b01 : ∀ {A : Prop} {x : Int32}, (x = 0 ∨ x = 1) → A → (x = 0 ∨ x = 1) ∧ A := fun h a => ⟨h, a⟩
  obtain hw | hw | hw | hw | hw | hw | hw | hw : (tok i).2 = 26 ∨ (tok i).2 = 27 ∨ (tok i).2 = 28 ∨ (tok i).2 = 29 ∨ (tok i).2 = 30 ∨ (tok i).2 = 31 ∨ (tok i).2 = 32 ∨ (tok i).2 = 33 := by omega
  · have e2 := e252
    rw [hw] at e2
    refine ⟨_, e7, ?_⟩
    refine ⟨s, _, by (first | assumption | (simp only [z_nat, z_lit, ← Int32.ofInt_add, ← Int32.ofInt_sub, ← Int32.ofInt_mul]; exact congrArg Int32.ofInt (by omega)) | (simp only [z_nat, z_lit, ← Int32.ofInt_add, ← Int32.ofInt_sub, ← Int32.ofInt_mul]; done) | exact congrArg Int32.ofInt (by omega) | rfl), by (dsimp only; omega), e2, ?_⟩
    refine ⟨fun z => absurd z (by decide), sw_at 0 (by decide) rfl ?_⟩
    have ed : detP t x len tok i = mkP tok 11 (i + 1) := by
      unfold detP
      rw [if_pos hw]
    refine k2_readMarks g1 e7 h60 (fun v j M2 em hv hj hf2 g2 h253 hs2 h252 h254 h255 ha => ⟨z_1, h1 v j M2 (ed.trans em) (f1.tr hf2) g2 (l1.tr ⟨fun k hk => ⟨by rw [h252], h253 k (by omega), by rw [h254]⟩, h255⟩) ⟨by rw [h252]; exact e252, hs2, fun _ => ha⟩⟩) (fun k j M2 em hf2 g2 => ⟨z_0, h0 k j M2 (ed.trans em) (f1.tr hf2) g2⟩)
  · have e2 := e252
    rw [hw] at e2
    refine ⟨_, e7, ?_⟩
    refine ⟨s, _, by (first | assumption | (simp only [z_nat, z_lit, ← Int32.ofInt_add, ← Int32.ofInt_sub, ← Int32.ofInt_mul]; exact congrArg Int32.ofInt (by omega)) | (simp only [z_nat, z_lit, ← Int32.ofInt_add, ← Int32.ofInt_sub, ← Int32.ofInt_mul]; done) | exact congrArg Int32.ofInt (by omega) | rfl), by (dsimp only; omega), e2, ?_⟩
    refine ⟨fun z => absurd z (by decide), sw_at 1 (by decide) rfl ?_⟩
    exact (num (Or.inl hw)).mono (fun v M' ⟨y, hy, hb, hq⟩ => by subst hy; exact ⟨hb, hq⟩)
  · have e2 := e252
    rw [hw] at e2
    refine ⟨_, e7, ?_⟩
    refine ⟨s, _, by (first | assumption | (simp only [z_nat, z_lit, ← Int32.ofInt_add, ← Int32.ofInt_sub, ← Int32.ofInt_mul]; exact congrArg Int32.ofInt (by omega)) | (simp only [z_nat, z_lit, ← Int32.ofInt_add, ← Int32.ofInt_sub, ← Int32.ofInt_mul]; done) | exact congrArg Int32.ofInt (by omega) | rfl), by (dsimp only; omega), e2, ?_⟩
    refine ⟨fun z => absurd z (by decide), sw_at 2 (by decide) rfl ?_⟩
    refine ⟨z_1, h1 0 (i + 1) M1 ?_ f1 g1 l1 ⟨e252, e253, fun z => by omega⟩⟩
    unfold detP
    rw [if_neg (by omega), if_neg (by omega), if_neg (by omega), if_neg (by omega)]
  · have e2 := e252
    rw [hw] at e2
    refine ⟨_, e7, ?_⟩
    refine ⟨s, _, by (first | assumption | (simp only [z_nat, z_lit, ← Int32.ofInt_add, ← Int32.ofInt_sub, ← Int32.ofInt_mul]; exact congrArg Int32.ofInt (by omega)) | (simp only [z_nat, z_lit, ← Int32.ofInt_add, ← Int32.ofInt_sub, ← Int32.ofInt_mul]; done) | exact congrArg Int32.ofInt (by omega) | rfl), by (dsimp only; omega), e2, ?_⟩
    refine ⟨fun z => absurd z (by decide), sw_at 3 (by decide) rfl ?_⟩
    exact (num (Or.inr hw)).mono (fun v M' ⟨y, hy, hb, hq⟩ => by subst hy; exact ⟨hb, hq⟩)
  · have e2 := e252
    rw [hw] at e2
    refine ⟨_, e7, ?_⟩
    refine ⟨s, _, by (first | assumption | (simp only [z_nat, z_lit, ← Int32.ofInt_add, ← Int32.ofInt_sub, ← Int32.ofInt_mul]; exact congrArg Int32.ofInt (by omega)) | (simp only [z_nat, z_lit, ← Int32.ofInt_add, ← Int32.ofInt_sub, ← Int32.ofInt_mul]; done) | exact congrArg Int32.ofInt (by omega) | rfl), by (dsimp only; omega), e2, ?_⟩
    refine ⟨fun z => absurd z (by decide), sw_at 4 (by decide) rfl ?_⟩
    have ed : detP t x len tok i = (if tok (i + 1) = (1, 4) then .inr (0, i + 2) else if tok (i + 1) = (1, 5) then .inr (1, i + 2) else .inl (1, i + 1)) := by
      unfold detP
      rw [if_neg (by omega), if_neg (by omega), if_pos hw]
    refine w_in 90 [] ?_
    refine k2_isWord g1 4 (by omega) (fun e => bn_t (by decide) ?_) (fun e => bn_f rfl ?_)
    · rw [if_pos e] at ed
      refine ⟨_, e7, ?_⟩
      refine k2_isWord g1 4 (by omega) (fun _ => br_f (by decide) ?_) (fun z => absurd e z)
      refine ⟨s, _, by (first | assumption | (simp only [z_nat, z_lit, ← Int32.ofInt_add, ← Int32.ofInt_sub, ← Int32.ofInt_mul]; exact congrArg Int32.ofInt (by omega)) | (simp only [z_nat, z_lit, ← Int32.ofInt_add, ← Int32.ofInt_sub, ← Int32.ofInt_mul]; done) | exact congrArg Int32.ofInt (by omega) | rfl), by (dsimp only; omega), rfl, ?_⟩
      refine k2_adv (g1.fs (show q_fs [253] [] M1 _ from q_fs.rf.s1)) (by rw [e]; decide) (fun M2 hf2 g2 => ⟨z_1, z_1, h1 0 _ M2 ed ((f1.s1).tr hf2.mono) g2.2 ((l1.tr (lowS.si (Or.inr (Or.inl rfl)))).tr (lowS.of hf2)) ⟨?_, (hf2.p1 253 s).trans q_si_s, fun z => by omega⟩⟩)
      exact (hf2.p1 252 s).trans ((q_si_nn (by omega)).trans e252)
    · rw [if_neg e] at ed
      refine k2_isWord g1 5 (by omega) (fun e' => bn_t (by decide) ?_) (fun e' => bn_f rfl ?_)
      · rw [if_pos e'] at ed
        refine ⟨_, e7, ?_⟩
        refine k2_isWord g1 4 (by omega) (fun z => absurd z e) (fun _ => br_t (by decide) ?_)
        refine ⟨s, _, by (first | assumption | (simp only [z_nat, z_lit, ← Int32.ofInt_add, ← Int32.ofInt_sub, ← Int32.ofInt_mul]; exact congrArg Int32.ofInt (by omega)) | (simp only [z_nat, z_lit, ← Int32.ofInt_add, ← Int32.ofInt_sub, ← Int32.ofInt_mul]; done) | exact congrArg Int32.ofInt (by omega) | rfl), by (dsimp only; omega), rfl, ?_⟩
        refine k2_adv (g1.fs (show q_fs [253] [] M1 _ from q_fs.rf.s1)) (by rw [e']; decide) (fun M2 hf2 g2 => ⟨z_1, z_1, h1 1 _ M2 ed ((f1.s1).tr hf2.mono) g2.2 ((l1.tr (lowS.si (Or.inr (Or.inl rfl)))).tr (lowS.of hf2)) ⟨?_, (hf2.p1 253 s).trans q_si_s, fun z => by omega⟩⟩)
        exact (hf2.p1 252 s).trans ((q_si_nn (by omega)).trans e252)
      · rw [if_neg e'] at ed
        exact k2_refuse g1 1 (fun M2 hf2 g2 => ⟨z_0, z_0, h0 1 _ M2 ed (f1.tr hf2.mono) g2⟩)
  · have e2 := e252
    rw [hw] at e2
    refine ⟨_, e7, ?_⟩
    refine ⟨s, _, by (first | assumption | (simp only [z_nat, z_lit, ← Int32.ofInt_add, ← Int32.ofInt_sub, ← Int32.ofInt_mul]; exact congrArg Int32.ofInt (by omega)) | (simp only [z_nat, z_lit, ← Int32.ofInt_add, ← Int32.ofInt_sub, ← Int32.ofInt_mul]; done) | exact congrArg Int32.ofInt (by omega) | rfl), by (dsimp only; omega), e2, ?_⟩
    refine ⟨fun z => absurd z (by decide), sw_at 5 (by decide) rfl ?_⟩
    refine ⟨z_1, h1 0 (i + 1) M1 ?_ f1 g1 l1 ⟨e252, e253, fun z => by omega⟩⟩
    unfold detP
    rw [if_neg (by omega), if_neg (by omega), if_neg (by omega), if_neg (by omega)]
  · have e2 := e252
    rw [hw] at e2
    refine ⟨_, e7, ?_⟩
    refine ⟨s, _, by (first | assumption | (simp only [z_nat, z_lit, ← Int32.ofInt_add, ← Int32.ofInt_sub, ← Int32.ofInt_mul]; exact congrArg Int32.ofInt (by omega)) | (simp only [z_nat, z_lit, ← Int32.ofInt_add, ← Int32.ofInt_sub, ← Int32.ofInt_mul]; done) | exact congrArg Int32.ofInt (by omega) | rfl), by (dsimp only; omega), e2, ?_⟩
    refine ⟨fun z => absurd z (by decide), sw_at 6 (by decide) rfl ?_⟩
    refine ⟨z_1, h1 0 (i + 1) M1 ?_ f1 g1 l1 ⟨e252, e253, fun z => by omega⟩⟩
    unfold detP
    rw [if_neg (by omega), if_neg (by omega), if_neg (by omega), if_neg (by omega)]
  · have e2 := e252
    rw [hw] at e2
    refine ⟨_, e7, ?_⟩
    refine ⟨s, _, by (first | assumption | (simp only [z_nat, z_lit, ← Int32.ofInt_add, ← Int32.ofInt_sub, ← Int32.ofInt_mul]; exact congrArg Int32.ofInt (by omega)) | (simp only [z_nat, z_lit, ← Int32.ofInt_add, ← Int32.ofInt_sub, ← Int32.ofInt_mul]; done) | exact congrArg Int32.ofInt (by omega) | rfl), by (dsimp only; omega), e2, ?_⟩
    refine ⟨fun z => absurd z (by decide), sw_at 7 (by decide) rfl ?_⟩
    have ed : detP t x len tok i = (if (tok (i + 1)).1 = 2 then (if outE t x len (i + 1) < t 8 0 then .inr (outE t x len (i + 1), i + 2) else .inl (3, i + 1)) else .inl (1, i + 1)) := by
      unfold detP
      rw [if_neg (by omega), if_neg (by omega), if_neg (by omega), if_pos hw]
    have k5 := g1.tt.k5 (i + 1)
    refine w_in 90 [] ?_
    refine ⟨_, g1.k.1, ?_⟩
    refine z_eq ((tok (i + 1)).1 : Int) 2 (fun z => ?_) (fun z => ?_)
    · have z : (tok (i + 1)).1 = 2 := by omega
      rw [if_pos z] at ed
      have n1 : ∀ e, e < t 8 0 → nmO t (10 + e) ∧ M1.2 12 e = Int64.ofInt (n5 t (10 + e) : Nat) := fun e he => ⟨(nm e he).1, (f1.p2 12 e).trans (nm e he).2⟩
      refine ⟨_, e7, ?_⟩
      refine ⟨_, g1.k.nm z, ?_⟩
      refine k2_findName g1 z ((f1.p1 6 9).trans hN) h6 n1 rfl (fun y => ?_) (fun y => ?_)
      · rw [if_pos y] at ed
        refine ⟨s, _, by (first | assumption | (simp only [z_nat, z_lit, ← Int32.ofInt_add, ← Int32.ofInt_sub, ← Int32.ofInt_mul]; exact congrArg Int32.ofInt (by omega)) | (simp only [z_nat, z_lit, ← Int32.ofInt_add, ← Int32.ofInt_sub, ← Int32.ofInt_mul]; done) | exact congrArg Int32.ofInt (by omega) | rfl), by (dsimp only; omega), rfl, ?_⟩
        refine ⟨_, e7, ?_⟩
        refine ⟨s, _, by (first | assumption | (simp only [z_nat, z_lit, ← Int32.ofInt_add, ← Int32.ofInt_sub, ← Int32.ofInt_mul]; exact congrArg Int32.ofInt (by omega)) | (simp only [z_nat, z_lit, ← Int32.ofInt_add, ← Int32.ofInt_sub, ← Int32.ofInt_mul]; done) | exact congrArg Int32.ofInt (by omega) | rfl), by (dsimp only; omega), q_si_s, ?_⟩
        refine z_ne (outE t x len (i + 1) : Int) (-1) (fun _ => ?_) (fun y => by omega)
        refine k2_adv (g1.fs (show q_fs [253] [] M1 _ from q_fs.rf.s1)) (by omega) (fun M2 hf2 g2 => ⟨z_1, z_1, h1 _ _ M2 ed ((f1.s1).tr hf2.mono) g2.2 ((l1.tr (lowS.si (Or.inr (Or.inl rfl)))).tr (lowS.of hf2)) ⟨?_, (hf2.p1 253 s).trans q_si_s, fun z => by omega⟩⟩)
        exact (hf2.p1 252 s).trans ((q_si_nn (by omega)).trans e252)
      · rw [if_neg y] at ed
        refine ⟨s, _, by (first | assumption | (simp only [z_nat, z_lit, ← Int32.ofInt_add, ← Int32.ofInt_sub, ← Int32.ofInt_mul]; exact congrArg Int32.ofInt (by omega)) | (simp only [z_nat, z_lit, ← Int32.ofInt_add, ← Int32.ofInt_sub, ← Int32.ofInt_mul]; done) | exact congrArg Int32.ofInt (by omega) | rfl), by (dsimp only; omega), rfl, ?_⟩
        refine ⟨_, e7, ?_⟩
        refine ⟨s, _, by (first | assumption | (simp only [z_nat, z_lit, ← Int32.ofInt_add, ← Int32.ofInt_sub, ← Int32.ofInt_mul]; exact congrArg Int32.ofInt (by omega)) | (simp only [z_nat, z_lit, ← Int32.ofInt_add, ← Int32.ofInt_sub, ← Int32.ofInt_mul]; done) | exact congrArg Int32.ofInt (by omega) | rfl), by (dsimp only; omega), q_si_s, ?_⟩
        refine z_ne (-1) (-1) (fun z => absurd rfl z) (fun _ => ?_)
        exact k2_refuse (g1.fs (show q_fs [253] [] M1 _ from q_fs.rf.s1)) 3 (fun M2 hf2 g2 => ⟨z_0, z_0, h0 3 _ M2 ed ((f1.s1).tr hf2.mono) g2⟩)
    · rw [if_neg (by omega)] at ed
      exact k2_refuse g1 1 (fun M2 hf2 g2 => ⟨z_0, z_0, h0 1 _ M2 ed (f1.tr hf2.mono) g2⟩)
set_option maxRecDepth 100000 in
set_option maxHeartbeats 4000000 in
theorem k2_readTimes {i s : Nat} (g : g_ct M x len tok T i) (hs : M.1 251 7 = nI s) (h60 : s < 60) (h1 : ∀ m j M', timP tok i = .inr (m, j) → q_fs [254] fTk M M' → g_ct M' x len tok T j → lowS s M M' → M'.1 254 s = nI m → Q (some (.int 1)) M') (h0 : ∀ k j M', timP tok i = .inl (k, j) → q_fs [254] fTk M M' → g_cf M' x len k j → Q (some (.int 0)) M') : q_C q_mt (L, xs, q_shp) E nX7_readTimes (d + 3) 0 0 [.ref 251] M Q := by
  have fA : q_fs [254] fTk M (q_si M 254 s (Int32.ofInt 1)) := q_fs.rf.s1
  have gA : g_ct (q_si M 254 s (Int32.ofInt 1)) x len tok T i := g.fs (show q_fs [254] [] M _ from q_fs.rf.s1)
  have lA : lowS s M (q_si M 254 s (Int32.ofInt 1)) := lowS.si (Or.inr (Or.inr rfl))
  refine w_in 90 [] ?_
  refine ⟨_, hs, ?_⟩
  refine ⟨s, _, by (first | assumption | (simp only [z_nat, z_lit, ← Int32.ofInt_add, ← Int32.ofInt_sub, ← Int32.ofInt_mul]; exact congrArg Int32.ofInt (by omega)) | (simp only [z_nat, z_lit, ← Int32.ofInt_add, ← Int32.ofInt_sub, ← Int32.ofInt_mul]; done) | exact congrArg Int32.ofInt (by omega) | rfl), by (dsimp only; omega), rfl, ?_⟩
  refine k2_isWord gA 25 (by omega) (fun e => bn_t (by decide) ?_) (fun e => bn_f rfl ?_)
  · have ed : timP tok i = numP tok (i + 1) 1 20 := by
      unfold timP
      rw [if_pos e]
    refine k2_adv gA (by rw [e]; decide) (fun M1 hf1 g1 => ?_)
    refine k2_takeNumber g1.2 1 20 (by omega) (by omega) (fun v nv ev hv M2 hf2 g2 => bn_t (by decide) ?_) (fun k nk hk M2 hf2 g2 => bn_f rfl ⟨z_0, h0 k _ M2 (ed.trans nk) ((fA.tr hf1.mono).tr hf2.mono) g2⟩)
    have f2 : q_fs [254] fTk M M2 := (fA.tr hf1.mono).tr hf2.mono
    have e7 : M2.1 251 7 = nI s := (f2.p1 251 7).trans hs
    refine ⟨_, e7, ?_⟩
    refine ⟨_, g2.1, ?_⟩
    refine ⟨s, _, by (first | assumption | (simp only [z_nat, z_lit, ← Int32.ofInt_add, ← Int32.ofInt_sub, ← Int32.ofInt_mul]; exact congrArg Int32.ofInt (by omega)) | (simp only [z_nat, z_lit, ← Int32.ofInt_add, ← Int32.ofInt_sub, ← Int32.ofInt_mul]; done) | exact congrArg Int32.ofInt (by omega) | rfl), by (dsimp only; omega), rfl, ?_⟩
    exact ⟨z_1, h1 v _ _ (ed.trans nv) f2.s1 (g2.2.fs (show q_fs [254] [] M2 _ from q_fs.rf.s1)) (((lA.tr (lowS.of hf1)).tr (lowS.of hf2)).tr (lowS.si (Or.inr (Or.inr rfl)))) q_si_s⟩
  · have ed : timP tok i = .inr (1, i) := by
      unfold timP
      rw [if_neg e]
    exact ⟨z_1, h1 1 i _ ed fA gA lA q_si_s⟩
/-- all acts that were read -/
def scC (M : q_M) (t : q_T) (x : Nat → Nat) (len : Nat) (tok : Nat → Tok) (n : Nat) (a : Nat → Nat) : Prop := a 0 = 0 ∧ ∀ k, k < n → isA tok (a k) ∧ ∃ v m, actP t x len tok (a k) = .inr ((v, m), a (k + 1)) ∧ newS k M tok (a k) v ∧ M.1 254 k = nI m
/-- how the reading ends -/
def scX (t : q_T) (x : Nat → Nat) (len : Nat) (tok : Nat → Tok) (n i k j : Nat) : Prop := ¬ (tok i).1 = 0 ∧ ((¬ isA tok i ∧ k = 1 ∧ j = i) ∨ (isA tok i ∧ n = 60 ∧ k = 4 ∧ j = i) ∨ (isA tok i ∧ n < 60 ∧ actP t x len tok i = .inl (k, j)))
set_option maxRecDepth 100000 in
set_option maxHeartbeats 4000000 in
theorem k2_mayBegin7 {i s : Nat} (g : g_ct M x len tok T i) (hs : M.1 251 7 = nI s) (h60 : s ≤ 60) (h1 : isA tok i → s < 60 → Q (some (.int 1)) M) (h0 : ∀ k M', ((¬ isA tok i ∧ k = 1) ∨ (isA tok i ∧ s = 60 ∧ k = 4)) → q_fs [] fTk M M' → g_cf M' x len k i → Q (some (.int 0)) M') : q_C q_mt (L, xs, q_shp) E nX7_mayBegin (d + 2) 0 0 [.ref 251] M Q := by
  have k5 := g.tt.k5 i
  refine w_in 90 [] ?_
  refine ⟨_, g.k.1, ?_⟩
  refine z_ne ((tok i).1 : Int) 1 (fun z => ?_) (fun z => ?_)
  · exact k2_refuse g 1 (fun M' hf g' => ⟨z_0, h0 1 M' (Or.inl ⟨fun y => z (by rw [y.1]; rfl), rfl⟩) hf g'⟩)
  · have z : (tok i).1 = 1 := by omega
    have e4 := g.k.2.1 (by omega)
    have wv := g.tt.wv (tk_pr z)
    refine ⟨_, e4, ?_⟩
    have no : ¬ isA tok i → q_C q_mt (L, xs, q_shp) E nX7_isAct (d + 1) 0 0 [.int (nI (tok i).2)] M (fun v M' => v = some (.int 0) ∧ M' = M) := by
      intro y
      refine w_in 90 [] ?_
      refine ⟨fun _ => ⟨z_0, rfl, rfl⟩, sw_no ?_⟩
      rw [z_nat, z_toInt (by omega)]
      refine Or.inl ?_
      refine Classical.byContradiction (fun w => y ⟨z, by omega, by omega⟩)
    have ys : isA tok i → q_C q_mt (L, xs, q_shp) E nX7_isAct (d + 1) 0 0 [.int (nI (tok i).2)] M (fun v M' => v = some (.int 1) ∧ M' = M) := by
      rintro ⟨y1, y2, y3⟩
      obtain hw | hw | hw | hw | hw | hw | hw | hw : (tok i).2 = 26 ∨ (tok i).2 = 27 ∨ (tok i).2 = 28 ∨ (tok i).2 = 29 ∨ (tok i).2 = 30 ∨ (tok i).2 = 31 ∨ (tok i).2 = 32 ∨ (tok i).2 = 33 := by omega
      · rw [hw]
        refine w_in 90 [] ?_
        exact ⟨fun z => absurd z (by decide), sw_at 0 (by decide) rfl ⟨z_1, rfl, rfl⟩⟩
      · rw [hw]
        refine w_in 90 [] ?_
        exact ⟨fun z => absurd z (by decide), sw_at 1 (by decide) rfl ⟨z_1, rfl, rfl⟩⟩
      · rw [hw]
        refine w_in 90 [] ?_
        exact ⟨fun z => absurd z (by decide), sw_at 2 (by decide) rfl ⟨z_1, rfl, rfl⟩⟩
      · rw [hw]
        refine w_in 90 [] ?_
        exact ⟨fun z => absurd z (by decide), sw_at 3 (by decide) rfl ⟨z_1, rfl, rfl⟩⟩
      · rw [hw]
        refine w_in 90 [] ?_
        exact ⟨fun z => absurd z (by decide), sw_at 4 (by decide) rfl ⟨z_1, rfl, rfl⟩⟩
      · rw [hw]
        refine w_in 90 [] ?_
        exact ⟨fun z => absurd z (by decide), sw_at 5 (by decide) rfl ⟨z_1, rfl, rfl⟩⟩
      · rw [hw]
        refine w_in 90 [] ?_
        exact ⟨fun z => absurd z (by decide), sw_at 6 (by decide) rfl ⟨z_1, rfl, rfl⟩⟩
      · rw [hw]
        refine w_in 90 [] ?_
        exact ⟨fun z => absurd z (by decide), sw_at 7 (by decide) rfl ⟨z_1, rfl, rfl⟩⟩
    rcases Classical.em (isA tok i) with q | q
    · refine (ys q).mono (fun v M' h => ?_)
      obtain ⟨rfl, rfl⟩ := h
      refine bn_t (by decide) ?_
      refine ⟨_, hs, ?_⟩
      refine z_lt (s : Int) 60 (fun y => ⟨z_1, h1 q (by omega)⟩) (fun y => ?_)
      exact k2_refuse g 4 (fun M' hf g' => br_t (by decide) ⟨z_0, h0 4 M' (Or.inr ⟨q, by omega, rfl⟩) hf g'⟩)
    · refine (no q).mono (fun v M' h => ?_)
      obtain ⟨rfl, rfl⟩ := h
      refine bn_f rfl ?_
      exact k2_refuse g 1 (fun M' hf g' => ⟨z_0, h0 1 M' (Or.inl ⟨q, rfl⟩) hf g'⟩)
set_option maxRecDepth 100000 in
set_option maxHeartbeats 4000000 in
theorem k2_readAll7 (hT : g_T x len tok T) (gx : g_tx M x len) (gl : g_lx M) (hN : M.1 6 9 = nI (t 8 0)) (h6 : t 8 0 ≤ 6) (nm : ∀ e, e < t 8 0 → nmO t (10 + e) ∧ M.2 12 e = Int64.ofInt (n5 t (10 + e) : Nat)) (h1 : ∀ n a M', n ≤ 60 → scC M' t x len tok n a → (tok (a n)).1 = 0 → q_fs lSc fSc M M' → M'.1 251 7 = nI n → M'.1 3 7 = Int32.ofInt 0 → M'.1 3 8 = Int32.ofInt (-1) → Q (some (.int 1)) M') (h0 : ∀ n a M1 M' k j, n ≤ 60 → scC M1 t x len tok n a → a n ≤ T → scX t x len tok n (a n) k j → q_fs lSc fSc M M' → g_cf M' x len k j → Q (some (.int 0)) M') : q_C q_mt (L, xs, q_shp) E nX7_readAll (d + 6) 0 0 [.ref 251] M Q := by
  have main : ∀ f n a M', n + f = 60 → scC M' t x len tok n a → q_fs lSc fSc M M' → g_ct M' x len tok T (a n) → M'.1 251 7 = nI n → q_G q_mt (L, xs, q_shp) E nX7_readAll (d + 6) 0 0 (q_Q (L, xs, q_shp) E Q) 12 [some (.ref 251)] [] M' := by
    intro f
    induction f with
    | zero =>
      intro n a M' hn hc hf g hs
      have hn : n = 60 := by omega
      subst hn
      have k5 := g.tt.k5 (a 60)
      refine w_at 90 [12] ?_
      refine ⟨_, hs, ?_⟩
      refine ⟨fun z => absurd z (by decide), fun _ => ?_⟩
      refine ⟨_, g.k.1, ?_⟩
      refine z_eq ((tok (a 60)).1 : Int) 0 (fun z => ⟨z_1, h1 60 a M' (by omega) hc (by omega) hf hs g.2.2.2.2.1.1 g.2.2.2.2.1.2⟩) (fun z => ?_)
      refine k2_mayBegin7 g hs (by omega) (fun _ y => by omega) (fun k M2 hk hf2 g2 => br_t (by decide) ⟨z_0, h0 60 a M' M2 k _ (by omega) hc g.2.1 ⟨by omega, ?_⟩ (hf.tr hf2.mono) g2⟩)
      rcases hk with ⟨y1, y2⟩ | ⟨y1, y2, y3⟩
      · exact Or.inl ⟨y1, y2, rfl⟩
      · exact Or.inr (Or.inl ⟨y1, rfl, y3, rfl⟩)
    | succ f ih =>
      intro n a M' hn hc hf g hs
      have k5 := g.tt.k5 (a n)
      refine w_at 90 [12] ?_
      refine ⟨_, hs, ?_⟩
      refine z_lt 60 (n : Int) (fun z => by omega) (fun _ => ?_)
      refine ⟨_, g.k.1, ?_⟩
      refine z_eq ((tok (a n)).1 : Int) 0 (fun z => ⟨z_1, h1 n a M' (by omega) hc (by omega) hf hs g.2.2.2.2.1.1 g.2.2.2.2.1.2⟩) (fun z => ?_)
      have fail : ∀ k j M2, actP t x len tok (a n) = .inl (k, j) → isA tok (a n) → q_fs lSc fSc M M2 → g_cf M2 x len k j → Q (some (.int 0)) M2 := fun k j M2 e y hf2 g2 => h0 n a M' M2 k j (by omega) hc g.2.1 ⟨by omega, Or.inr (Or.inr ⟨y, by omega, e⟩)⟩ hf2 g2
      refine k2_mayBegin7 g hs (by omega) (fun hA _ => br_f (by decide) ?_) (fun k M2 hk hf2 g2 => br_t (by decide) ⟨z_0, h0 n a M' M2 k _ (by omega) hc g.2.1 ⟨by omega, ?_⟩ (hf.tr hf2.mono) g2⟩)
      · have n1 : ∀ e, e < t 8 0 → nmO t (10 + e) ∧ M'.2 12 e = Int64.ofInt (n5 t (10 + e) : Nat) := fun e he => ⟨(nm e he).1, (hf.p2 12 e).trans (nm e he).2⟩
        refine k2_readAct g hA hs (by omega) ((hf.p1 6 9).trans hN) h6 n1 (fun v j M2 ed hf2 g2 lo2 ne2 => br_f (by decide) ?_) (fun k j M2 ed hf2 g2 => br_t (by decide) ⟨z_0, fail k j M2 (by unfold actP; rw [ed]) hA (hf.tr hf2.mono) g2⟩)
        have s2 : M2.1 251 7 = nI n := (hf2.p1 251 7).trans hs
        refine k2_readTimes g2 s2 (by omega) (fun m j2 M3 et hf3 g3 lo3 e3 => br_f (by decide) ?_) (fun k j2 M3 et hf3 g3 => br_t (by decide) ⟨z_0, fail k j2 M3 (by unfold actP; rw [ed]; dsimp only; rw [et]) hA ((hf.tr hf2.mono).tr hf3.mono) g3⟩)
        have s3 : M3.1 251 7 = nI n := (hf3.p1 251 7).trans s2
        have ea : actP t x len tok (a n) = endP tok (v, m) j2 := by
          unfold actP
          rw [ed]
          dsimp only
          rw [et]
        refine k2_takeSign g3 59 (by omega) (fun e M4 hf4 g4 => bn_t (by decide) ?_) (fun e M4 hf4 g4 => bn_f rfl ⟨z_0, fail 1 j2 M4 (by rw [ea]; unfold endP; rw [if_neg e]) hA (((hf.tr hf2.mono).tr hf3.mono).tr hf4.mono) g4⟩)
        have s4 : M4.1 251 7 = nI n := (hf4.p1 251 7).trans s3
        have f4 : q_fs lSc fSc M M4 := ((hf.tr hf2.mono).tr hf3.mono).tr hf4.mono
        have lo4 : lowS n M' M4 := (lo2.tr lo3).tr (lowS.of hf4)
        have ne4 : newS n M4 tok (a n) v := (ne2.of hf3).of hf4
        have ea : actP t x len tok (a n) = .inr ((v, m), j2 + 1) := by
          rw [ea]
          unfold endP
          rw [if_pos e]
        refine ⟨_, s4, ?_⟩
        refine ⟨_, rfl, ?_⟩
        have hf5 : q_fs [] [(251, 7)] M4 (q_si M4 251 7 (nI n + Int32.ofInt 1)) := q_fs.rf.s1
        obtain ⟨b, e1, e2⟩ : ∃ b : Nat → Nat, (∀ k, k ≤ n → b k = a k) ∧ b (n + 1) = j2 + 1 := ⟨fun q => if q = n + 1 then j2 + 1 else a q, fun k hk => if_neg (by omega), if_pos rfl⟩
        refine ih (n + 1) b _ (by omega) ⟨(e1 0 (by omega)).trans hc.1, fun k hk => ?_⟩ f4.s1 (by rw [e2]; exact g4.2.fs hf5) (by rw [q_si_s]; (first | assumption | (simp only [z_nat, z_lit, ← Int32.ofInt_add, ← Int32.ofInt_sub, ← Int32.ofInt_mul]; exact congrArg Int32.ofInt (by omega)) | (simp only [z_nat, z_lit, ← Int32.ofInt_add, ← Int32.ofInt_sub, ← Int32.ofInt_mul]; done) | exact congrArg Int32.ofInt (by omega) | rfl))
        rw [e1 k (by omega)]
        by_cases q : k = n
        · subst q
          rw [e2]
          exact ⟨hA, v, m, ea, ne4.of hf5, (hf5.p1 254 k).trans ((hf4.p1 254 k).trans e3)⟩
        · obtain ⟨c1, v', m', c2, c3, c4⟩ := hc.2 k (by omega)
          rw [e1 (k + 1) (by omega)]
          have lo5 : lowS n M' (q_si M4 251 7 (nI n + Int32.ofInt 1)) := lo4.tr (lowS.of hf5)
          have l5 := lo5.1 k (by omega)
          have vb : (tok (a k)).2 = 26 → v' ≤ 11 := fun z => actP_v c2 z
          exact ⟨c1, v', m', c2, ⟨l5.1.trans c3.1, l5.2.1.trans c3.2.1, fun z p hp => (lo5.2 _ (by have := vb z; omega)).trans (c3.2.2 z p hp)⟩, l5.2.2.trans c4⟩
      · rcases hk with ⟨y1, y2⟩ | ⟨y1, y2, y3⟩
        · exact Or.inl ⟨y1, y2, rfl⟩
        · omega
  refine w_in 90 [12] ?_
  refine ⟨_, rfl, ?_⟩
  have hf0 : q_fs lSc fSc M (q_si M 251 7 (Int32.ofInt 0)) := q_fs.rf.s1
  refine k2_start hT (gx.fs hf0) (gl.fs hf0) (fun M1 hf1 g1 => ?_)
  exact main 60 0 (fun _ => 0) M1 (by omega) ⟨rfl, fun k hk => by omega⟩ (hf0.tr hf1.mono) g1 ((hf1.p1 251 7).trans q_si_s)
end SD
