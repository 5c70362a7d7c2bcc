/-! how the reference reads an act: whole -/
section SF
variable {L : Nat} {xs : Nat → Int32} {E : q_E} {d : Nat} {M : q_M} {t : q_T} {n : sN} {Q : Option Value → q_M → Prop} {P : q_M → Prop}
variable {x : Nat → Nat} {len : Nat} {tok : Nat → Tok} {T : Nat}
abbrev fSr : List (Nat × Nat) := [(271, 8), (271, 9), (271, 10), (271, 45)]
abbrev lSr : List Nat := [295, 296, 297, 298]
def lowR (s : Nat) (M M' : q_M) : Prop := (∀ k, k < s → M'.1 295 k = M.1 295 k ∧ M'.1 296 k = M.1 296 k ∧ M'.1 297 k = M.1 297 k) ∧ ∀ k, k < 11 * s → M'.1 298 k = M.1 298 k
theorem lowR.tr {s : Nat} {M' M'' : q_M} (h : lowR s M M') (h' : lowR s M' M'') : lowR s M M'' := ⟨fun k hk => ⟨(h'.1 k hk).1.trans (h.1 k hk).1, (h'.1 k hk).2.1.trans (h.1 k hk).2.1, (h'.1 k hk).2.2.trans (h.1 k hk).2.2⟩, fun k hk => (h'.2 k hk).trans (h.2 k hk)⟩
theorem lowR.of {s : Nat} {l : List Nat} {f : List (Nat × Nat)} {M' : q_M} (hf : q_fs l f M M') (o : (l.all (fun a => !(c_rng 295 298 a)) && f.all (fun q => !(c_rng 295 298 q.1))) = true := by exact rfl) : lowR s M M' := ⟨fun k _ => ⟨(hf 295 k (q_out o rfl k)).1, (hf 296 k (q_out o rfl k)).1, (hf 297 k (q_out o rfl k)).1⟩, fun k _ => (hf 298 k (q_out o rfl k)).1⟩
theorem lowR.si {s r : Nat} {v : Int32} (hr : r = 295 ∨ r = 296 ∨ r = 297) : lowR s M (q_si M r s v) := ⟨fun k hk => ⟨q_si_nn (by omega), q_si_nn (by omega), q_si_nn (by omega)⟩, fun k _ => q_si_nn (by omega)⟩
def newR (s : Nat) (M : q_M) (tok : Nat → Tok) (i v : Nat) : Prop := M.1 295 s = nI ((tok i).2 - 26) ∧ M.1 296 s = nI v ∧ ((tok i).2 = 26 → ∀ p, p < v → M.1 298 (11 * s + p) = nI (tok (i + 1 + p)).2)
theorem newR.of {s i v : Nat} {l : List Nat} {f : List (Nat × Nat)} {M' : q_M} (h : newR s M tok i v) (hf : q_fs l f M M') (o : (l.all (fun a => !(c_rng 295 296 a || Nat.beq 298 a)) && f.all (fun q => !(c_rng 295 296 q.1 || Nat.beq 298 q.1))) = true := by exact rfl) : newR s M' tok i v := ⟨((hf 295 s (q_out (p := fun a => c_rng 295 296 a || Nat.beq 298 a) o rfl s)).1).trans h.1, ((hf 296 s (q_out (p := fun a => c_rng 295 296 a || Nat.beq 298 a) o rfl s)).1).trans h.2.1, fun z p hp => ((hf 298 _ (q_out (p := fun a => c_rng 295 296 a || Nat.beq 298 a) o rfl _)).1).trans (h.2.2 z p hp)⟩
/-- a name that stands for itself -/
theorem nm_0 {i : Nat} (hT : g_T x len tok T) (h : (tok i).1 = 2) : ¬ Int64.ofInt (w8E x (tkS x len i) ((tkR x len (tkS x len i) - tkS x len i)) : Nat) = 0 := by
  have a := hT.2.1 i
  rw [tk_pr h] at a
  obtain ⟨a1, a2, a3, a4⟩ := a.nm
  have l : ∀ p, p < (tkR x len (tkS x len i) - tkS x len i) → 97 ≤ x (tkS x len i + p) ∧ x (tkS x len i + p) ≤ 122 := fun p hp => lt_tk a1 a2 hp
  have s1 := (tk_step a1).1
  intro y
  have y : Int64.ofInt (w8E x (tkS x len i) ((tkR x len (tkS x len i) - tkS x len i)) : Nat) = Int64.ofInt ((0 : Nat) : Int) := y
  rw [y_inj (w8E_63 (by omega) l) (by omega)] at y
  have := (w8E_inj (y := x) (j := 0) (m := 0) (by omega) (by omega) l (fun p hp => by omega) y).1
  omega
set_option maxRecDepth 100000 in
set_option maxHeartbeats 4000000 in
theorem k_nameOut {i : Nat} (g : g_rt M x len tok T i) (h : (tok i).1 = 2) (h6 : t 8 0 ≤ 6) (nm : ∀ e, e < t 8 0 → nmO t (10 + e) ∧ M.2 282 (10 + e) = Int64.ofInt (n8 t (10 + e) : Nat)) {v : Int64} (hv : v = Int64.ofInt (w8E x (tkS x len i) ((tkR x len (tkS x len i) - tkS x len i)) : Nat)) (h1 : outE t x len i < t 8 0 → Q (some (.int (nI (outE t x len i)))) M) (h0 : ¬ outE t x len i < t 8 0 → Q (some (.int (Int32.ofInt (-1)))) M) {a b : Int32} (ha : a = nI 10 := by (first | assumption | (simp only [z_nat, z_lit, ← Int32.ofInt_add, ← Int32.ofInt_sub, ← Int32.ofInt_mul]; exact congrArg Int32.ofInt (by omega)) | (simp only [z_nat, z_lit, ← Int32.ofInt_add, ← Int32.ofInt_sub, ← Int32.ofInt_mul]; done) | exact congrArg Int32.ofInt (by omega) | rfl)) (hb : b = nI (t 8 0) := by (first | assumption | (simp only [z_nat, z_lit, ← Int32.ofInt_add, ← Int32.ofInt_sub, ← Int32.ofInt_mul]; exact congrArg Int32.ofInt (by omega)) | (simp only [z_nat, z_lit, ← Int32.ofInt_add, ← Int32.ofInt_sub, ← Int32.ofInt_mul]; done) | exact congrArg Int32.ofInt (by omega) | rfl)) : q_C q_mt (L, xs, q_shp) E nX12_namedOf (d) 0 0 [.ref 271, .int (a), .int (b), .long (v)] M Q := by
  subst hv ha hb
  have v0 := nm_0 g.tt h
  refine k_namedOf 10 (t 8 0) (by omega) (fun e _ he => ?_) (fun hn => ?_)
  · have b : outE t x len i = e := outE_un he.1 ((nm_tk g.tt h (nm e he.1).1).2.mp ((nm e he.1).2.symm.trans he.2.1)) (fun j hj z => he.2.2 j hj ((nm j (by have := he.1; omega)).2.trans ((nm_tk g.tt h (nm j (by have := he.1; omega)).1).2.mpr z)))
    rw [← b]
    exact h1 (by rw [b]; exact he.1)
  · refine h0 (fun z => ?_)
    have s := outE_s (t := t) (x := x) (len := len) (j := i)
    rcases hn with hn | hn
    · exact v0 hn
    · exact hn _ z ((nm _ z).2.trans ((nm_tk g.tt h (nm _ z).1).2.mpr (s.2.2 z)))
theorem timP_f {j k i : Nat} (h : timP tok j = .inl (k, i)) : i = j + 1 ∧ tok j = (1, 25) := by
  unfold timP at h
  split at h
  · next q => exact ⟨(numP_f h).1, q⟩
  · cases h
set_option maxRecDepth 100000 in
set_option maxHeartbeats 4000000 in
theorem k_readsAct {i s : Nat} (g : g_rt M x len tok T i) (hs : M.1 271 45 = nI s) (h60 : s ≤ 60) (h4 : M.1 280 4 = nI (t 8 0)) (h6 : t 8 0 ≤ 6) (nm : ∀ e, e < t 8 0 → nmO t (10 + e) ∧ M.2 282 (10 + e) = Int64.ofInt (n8 t (10 + e) : Nat)) (h1 : ∀ v m j M', isA tok i → s < 60 → actP t x len tok i = .inr ((v, m), j) → q_fs lSr fSr M M' → g_rt M' x len tok T j → M'.1 271 45 = nI (s + 1) → lowR s M M' → newR s M' tok i v → M'.1 297 s = nI m → Q none M') (h0 : ∀ k j M', (¬ (tok i).1 = 0 → scX t x len tok s i k j) → q_fs lSr fSr M M' → g_rb M' x len tok T k j → Q none M') : q_C q_mt (L, xs, q_shp) E nX12_readsAct (d + 6) 0 0 [.ref 271] M Q := by
  have i12 := g.i12
  refine w_in 90 [177] ?_
  refine k_actHere g (fun w ew hw => ?_) (fun hn => ?_)
  rotate_left 1
  · refine ⟨fun z => absurd rfl z, fun _ => ?_⟩
    exact k_wrongs g 1 (by omega) (fun M2 hf2 g2 => h0 1 i M2 (fun z => ⟨z, Or.inl ⟨hn, rfl, rfl⟩⟩) hf2.mono g2)
  have hA : isA tok i := by
    unfold isA
    rw [ew]
    exact ⟨rfl, by show 26 ≤ 26 + w; omega, by show 26 + w ≤ 33; omega⟩
  have e2 : (tok i).2 = 26 + w := by rw [ew]
  refine z_ne (w : Int) (-1) (fun _ => ?_) (fun z => by omega)
  refine ⟨_, hs, ?_⟩
  refine z_ne (s : Int) 60 (fun hs60 => ?_) (fun z => ?_)
  rotate_left 1
  · exact k_wrongs g 4 (by omega) (fun M2 hf2 g2 => h0 4 i M2 (fun z' => ⟨z', Or.inr (Or.inl ⟨hA, by omega, rfl, rfl⟩)⟩) hf2.mono g2)
  have s60 : s < 60 := by omega
  have no : ∀ k j M', actP t x len tok i = .inl (k, j) → q_fs lSr fSr M M' → g_rb M' x len tok T k j → Q none M' := fun k j M' e hf g' => h0 k j M' (fun z' => ⟨z', Or.inr (Or.inr ⟨hA, s60, e⟩)⟩) hf g'
  -- the end behind a fault
  have bad : ∀ k j M', actP t x len tok i = .inl (k, j) → q_fs lSr fSr M M' → M'.1 271 45 = nI s → g_rb M' x len tok T k j → ∀ l1, q_G q_mt (L, xs, q_shp) E nX12_readsAct (d + 6) 0 0 (q_Q (L, xs, q_shp) E Q) 177 [some (.ref 271), l1] [] M' := by
    intro k j M' e hf e45 g' l1
    refine w_at 90 [177] ?_
    refine ⟨_, e45, ?_⟩
    refine k_takesWord0 g' (fun M2 hf2 g2 => br_t (by decide) ?_)
    have e45' : M2.1 271 45 = nI s := (hf2.p1 271 45).trans e45
    refine ⟨s, _, by (first | assumption | (simp only [z_nat, z_lit, ← Int32.ofInt_add, ← Int32.ofInt_sub, ← Int32.ofInt_mul]; exact congrArg Int32.ofInt (by omega)) | (simp only [z_nat, z_lit, ← Int32.ofInt_add, ← Int32.ofInt_sub, ← Int32.ofInt_mul]; done) | exact congrArg Int32.ofInt (by omega) | rfl), by (dsimp only; omega), rfl, ?_⟩
    have g3 : g_rb (q_si M2 297 s (Int32.ofInt 1)) x len tok T k j := g2.fs (show q_fs [297] [] M2 _ from q_fs.rf.s1)
    refine k_mustSign0 g3 ?_
    refine ⟨_, e45', ?_⟩
    refine ⟨_, rfl, ?_⟩
    exact no k j _ e ((hf.tr hf2.mono).s1.s1) (g3.fs (show q_fs [] [(271, 45)] _ _ from q_fs.rf.s1))
  -- the end where the detail was read
  have fine : ∀ v j1 M', detP t x len tok i = .inr (v, j1) → q_fs lSr fSr M M' → M'.1 271 45 = nI s → g_rt M' x len tok T j1 → lowR s M M' → newR s M' tok i v → ∀ l1, q_G q_mt (L, xs, q_shp) E nX12_readsAct (d + 6) 0 0 (q_Q (L, xs, q_shp) E Q) 177 [some (.ref 271), l1] [] M' := by
    intro v j1 M' ed hf e45 g' lo ne l1
    have ea : ∀ m j2, timP tok j1 = .inr (m, j2) → actP t x len tok i = endP tok (v, m) j2 := fun m j2 et => by
      unfold actP
      rw [ed]
      dsimp only
      rw [et]
    refine w_at 90 [177] ?_
    refine ⟨_, e45, ?_⟩
    refine k_takesWord g' 25 (by omega) (by decide +kernel) (fun e M2 hf2 g2 => br_f (by decide) ?_) (fun e M2 hf2 g2 => br_t (by decide) ?_)
    · have et : timP tok j1 = numP tok (j1 + 1) 1 20 := by
        unfold timP
        rw [if_pos e]
      refine k_numberHere g2 1 20 (by omega) (by omega) (fun m nm' em hm M3 hf3 g3 => ?_) (fun k nk hk M3 hf3 g3 => ?_)
      · have f3 : q_fs lSr fSr M M3 := (hf.tr hf2.mono).tr hf3.mono
        have e45' : M3.1 271 45 = nI s := (hf3.p1 271 45).trans ((hf2.p1 271 45).trans e45)
        refine ⟨s, _, by (first | assumption | (simp only [z_nat, z_lit, ← Int32.ofInt_add, ← Int32.ofInt_sub, ← Int32.ofInt_mul]; exact congrArg Int32.ofInt (by omega)) | (simp only [z_nat, z_lit, ← Int32.ofInt_add, ← Int32.ofInt_sub, ← Int32.ofInt_mul]; done) | exact congrArg Int32.ofInt (by omega) | rfl), by (dsimp only; omega), rfl, ?_⟩
        have g4 : g_rt (q_si M3 297 s (nI m)) x len tok T (j1 + 1 + 1) := g3.fs (show q_fs [297] [] M3 _ from q_fs.rf.s1)
        have lo4 : lowR s M (q_si M3 297 s (nI m)) := ((lo.tr (lowR.of hf2)).tr (lowR.of hf3)).tr (lowR.si (Or.inr (Or.inr rfl)))
        have ne4 : newR s (q_si M3 297 s (nI m)) tok i v := ((ne.of hf2).of hf3).of (show q_fs [297] [] M3 _ from q_fs.rf.s1)
        have ea := ea m _ (et.trans nm')
        refine k_mustSign g4 59 (by decide) (fun e' M5 hf5 g5 => ?_) (fun e' M5 hf5 g5 => ?_)
        · have e45'' : M5.1 271 45 = nI s := (hf5.p1 271 45).trans e45'
          refine ⟨_, e45'', ?_⟩
          refine ⟨_, rfl, ?_⟩
          have hf6 : q_fs [] [(271, 45)] M5 (q_si M5 271 45 (nI s + Int32.ofInt 1)) := q_fs.rf.s1
          refine h1 v m _ _ hA s60 (by rw [ea]; unfold endP; rw [if_pos e']) ((f3.s1.tr hf5.mono).s1) (g5.fs hf6) (by rw [q_si_s]; (first | assumption | (simp only [z_nat, z_lit, ← Int32.ofInt_add, ← Int32.ofInt_sub, ← Int32.ofInt_mul]; exact congrArg Int32.ofInt (by omega)) | (simp only [z_nat, z_lit, ← Int32.ofInt_add, ← Int32.ofInt_sub, ← Int32.ofInt_mul]; done) | exact congrArg Int32.ofInt (by omega) | rfl)) ((lo4.tr (lowR.of hf5)).tr (lowR.of hf6)) ((ne4.of hf5).of hf6) ?_
          exact (hf6.p1 297 s).trans ((hf5.p1 297 s).trans q_si_s)
        · have e45'' : M5.1 271 45 = nI s := (hf5.p1 271 45).trans e45'
          refine ⟨_, e45'', ?_⟩
          refine ⟨_, rfl, ?_⟩
          exact no 1 _ _ (by rw [ea]; unfold endP; rw [if_neg e']) ((f3.s1.tr hf5.mono).s1) (g5.fs (show q_fs [] [(271, 45)] _ _ from q_fs.rf.s1))
      · have f3 : q_fs lSr fSr M M3 := (hf.tr hf2.mono).tr hf3.mono
        have e45' : M3.1 271 45 = nI s := (hf3.p1 271 45).trans ((hf2.p1 271 45).trans e45)
        refine ⟨s, _, by (first | assumption | (simp only [z_nat, z_lit, ← Int32.ofInt_add, ← Int32.ofInt_sub, ← Int32.ofInt_mul]; exact congrArg Int32.ofInt (by omega)) | (simp only [z_nat, z_lit, ← Int32.ofInt_add, ← Int32.ofInt_sub, ← Int32.ofInt_mul]; done) | exact congrArg Int32.ofInt (by omega) | rfl), by (dsimp only; omega), rfl, ?_⟩
        have g4 : g_rb (q_si M3 297 s (Int32.ofInt 1)) x len tok T k (j1 + 1) := g3.fs (show q_fs [297] [] M3 _ from q_fs.rf.s1)
        refine k_mustSign0 g4 ?_
        refine ⟨_, e45', ?_⟩
        refine ⟨_, rfl, ?_⟩
        exact no k _ _ (by unfold actP; rw [ed]; dsimp only; rw [et, nk]) (f3.s1.s1) (g4.fs (show q_fs [] [(271, 45)] _ _ from q_fs.rf.s1))
    · have et : timP tok j1 = .inr (1, j1) := by
        unfold timP
        rw [if_neg e]
      have f2 : q_fs lSr fSr M M2 := hf.tr hf2.mono
      have e45' : M2.1 271 45 = nI s := (hf2.p1 271 45).trans e45
      refine ⟨s, _, by (first | assumption | (simp only [z_nat, z_lit, ← Int32.ofInt_add, ← Int32.ofInt_sub, ← Int32.ofInt_mul]; exact congrArg Int32.ofInt (by omega)) | (simp only [z_nat, z_lit, ← Int32.ofInt_add, ← Int32.ofInt_sub, ← Int32.ofInt_mul]; done) | exact congrArg Int32.ofInt (by omega) | rfl), by (dsimp only; omega), rfl, ?_⟩
      have g4 : g_rt (q_si M2 297 s (Int32.ofInt 1)) x len tok T j1 := g2.fs (show q_fs [297] [] M2 _ from q_fs.rf.s1)
      have lo4 : lowR s M (q_si M2 297 s (Int32.ofInt 1)) := (lo.tr (lowR.of hf2)).tr (lowR.si (Or.inr (Or.inr rfl)))
      have ne4 : newR s (q_si M2 297 s (Int32.ofInt 1)) tok i v := (ne.of hf2).of (show q_fs [297] [] M2 _ from q_fs.rf.s1)
      have ea := ea 1 _ et
      refine k_mustSign g4 59 (by decide) (fun e' M5 hf5 g5 => ?_) (fun e' M5 hf5 g5 => ?_)
      · have e45'' : M5.1 271 45 = nI s := (hf5.p1 271 45).trans e45'
        refine ⟨_, e45'', ?_⟩
        refine ⟨_, rfl, ?_⟩
        have hf6 : q_fs [] [(271, 45)] M5 (q_si M5 271 45 (nI s + Int32.ofInt 1)) := q_fs.rf.s1
        refine h1 v 1 _ _ hA s60 (by rw [ea]; unfold endP; rw [if_pos e']) ((f2.s1.tr hf5.mono).s1) (g5.fs hf6) (by rw [q_si_s]; (first | assumption | (simp only [z_nat, z_lit, ← Int32.ofInt_add, ← Int32.ofInt_sub, ← Int32.ofInt_mul]; exact congrArg Int32.ofInt (by omega)) | (simp only [z_nat, z_lit, ← Int32.ofInt_add, ← Int32.ofInt_sub, ← Int32.ofInt_mul]; done) | exact congrArg Int32.ofInt (by omega) | rfl)) ((lo4.tr (lowR.of hf5)).tr (lowR.of hf6)) ((ne4.of hf5).of hf6) ?_
        exact (hf6.p1 297 s).trans ((hf5.p1 297 s).trans q_si_s)
      · have e45'' : M5.1 271 45 = nI s := (hf5.p1 271 45).trans e45'
        refine ⟨_, e45'', ?_⟩
        refine ⟨_, rfl, ?_⟩
        exact no 1 _ _ (by rw [ea]; unfold endP; rw [if_neg e']) ((f2.s1.tr hf5.mono).s1) (g5.fs (show q_fs [] [(271, 45)] _ _ from q_fs.rf.s1))
  have eb : ∀ k j, detP t x len tok i = .inl (k, j) → actP t x len tok i = .inl (k, j) := fun k j e => by
    unfold actP
    rw [e]
  have i12 : i + 1 ≤ 1200 := by
    have := g.tt.lt g.2.1 (tk_n0 ew (by decide))
    have := g.tt.1.1
    have := g.tt.2.2.1
    omega
  refine ⟨_, g.2.2.1, ?_⟩
  refine ⟨_, rfl, ?_⟩
  refine ⟨_, hs, ?_⟩
  refine ⟨s, _, by (first | assumption | (simp only [z_nat, z_lit, ← Int32.ofInt_add, ← Int32.ofInt_sub, ← Int32.ofInt_mul]; exact congrArg Int32.ofInt (by omega)) | (simp only [z_nat, z_lit, ← Int32.ofInt_add, ← Int32.ofInt_sub, ← Int32.ofInt_mul]; done) | exact congrArg Int32.ofInt (by omega) | rfl), by (dsimp only; omega), rfl, ?_⟩
  have fA : q_fs lSr fSr M (q_si (q_si M 271 8 (nI i + Int32.ofInt 1)) 295 s (nI w)) := q_fs.rf.s1.s1
  have gA : g_rt (q_si (q_si M 271 8 (nI i + Int32.ofInt 1)) 295 s (nI w)) x len tok T (i + 1) := (g.nx (tk_n0 ew (by decide)) (by (first | assumption | (simp only [z_nat, z_lit, ← Int32.ofInt_add, ← Int32.ofInt_sub, ← Int32.ofInt_mul]; exact congrArg Int32.ofInt (by omega)) | (simp only [z_nat, z_lit, ← Int32.ofInt_add, ← Int32.ofInt_sub, ← Int32.ofInt_mul]; done) | exact congrArg Int32.ofInt (by omega) | rfl))).fs (show q_fs [295] [] _ _ from q_fs.rf.s1)
  have lA : lowR s M (q_si (q_si M 271 8 (nI i + Int32.ofInt 1)) 295 s (nI w)) := (lowR.of (show q_fs [] [(271, 8)] M _ from q_fs.rf.s1)).tr (lowR.si (Or.inl rfl))
  have e95 : (q_si (q_si M 271 8 (nI i + Int32.ofInt 1)) 295 s (nI w)).1 295 s = nI ((tok i).2 - 26) := by rw [q_si_s, e2, show 26 + w - 26 = w by omega]
  have eA : (q_si (q_si M 271 8 (nI i + Int32.ofInt 1)) 295 s (nI w)).1 271 45 = nI s := hs
  revert fA gA lA e95 eA
  generalize q_si (q_si M 271 8 (nI i + Int32.ofInt 1)) 295 s (nI w) = MA
  intro fA gA lA e95 eA
  -- a detail of 0
  have nul : (¬ w = 0 ∧ ¬ w = 1 ∧ ¬ w = 3 ∧ ¬ w = 4 ∧ ¬ w = 7) → ∀ l1, q_G q_mt (L, xs, q_shp) E nX12_readsAct (d + 6) 0 0 (q_Q (L, xs, q_shp) E Q) 177 [some (.ref 271), l1] [] (q_si MA 296 s (Int32.ofInt 0)) := by
    intro hw l1
    refine fine 0 (i + 1) _ ?_ fA.s1 (by exact eA) (gA.fs (show q_fs [296] [] MA _ from q_fs.rf.s1)) (lA.tr (lowR.si (Or.inr (Or.inl rfl)))) ⟨(q_si_nn (by omega)).trans e95, q_si_s, fun z => by omega⟩ l1
    unfold detP
    rw [if_neg (by omega), if_neg (by omega), if_neg (by omega), if_neg (by omega)]
  -- a number
  have num : (w = 1 ∨ w = 3) → detP t x len tok i = numP tok (i + 1) 0 20 := fun hw => by
    unfold detP
    rw [if_neg (by omega), if_pos (by omega)]
  obtain rfl | rfl | rfl | rfl | rfl | rfl | rfl | rfl : w = 0 ∨ w = 1 ∨ w = 2 ∨ w = 3 ∨ w = 4 ∨ w = 5 ∨ w = 6 ∨ w = 7 := by omega
  · refine ⟨fun z => absurd z (by decide), sw_at 0 (by decide) rfl ?_⟩
    have ed : detP t x len tok i = mkP tok 11 (i + 1) := by
      unfold detP
      rw [if_pos (by omega)]
    refine ⟨_, eA, ?_⟩
    refine k_readsAwards gA eA s60 (fun v j M2 em hf2 g2 lo2 ha2 => ?_) (fun k j M2 r em hf2 g2 => ?_)
    · refine ⟨s, _, by (first | assumption | (simp only [z_nat, z_lit, ← Int32.ofInt_add, ← Int32.ofInt_sub, ← Int32.ofInt_mul]; exact congrArg Int32.ofInt (by omega)) | (simp only [z_nat, z_lit, ← Int32.ofInt_add, ← Int32.ofInt_sub, ← Int32.ofInt_mul]; done) | exact congrArg Int32.ofInt (by omega) | rfl), by (dsimp only; omega), rfl, ?_⟩
      refine fine v j _ (ed.trans em) ((fA.tr hf2.mono).s1) (by exact (hf2.p1 271 45).trans eA) (g2.fs (show q_fs [296] [] M2 _ from q_fs.rf.s1)) ((lA.tr ⟨fun k hk => ⟨hf2.p1 295 k, hf2.p1 296 k, hf2.p1 297 k⟩, lo2⟩).tr (lowR.si (Or.inr (Or.inl rfl)))) ⟨(q_si_nn (by omega)).trans ((hf2.p1 295 s).trans e95), q_si_s, fun _ p hp => (q_si_nn (by omega)).trans (ha2 p hp)⟩ _
    · refine ⟨s, _, by (first | assumption | (simp only [z_nat, z_lit, ← Int32.ofInt_add, ← Int32.ofInt_sub, ← Int32.ofInt_mul]; exact congrArg Int32.ofInt (by omega)) | (simp only [z_nat, z_lit, ← Int32.ofInt_add, ← Int32.ofInt_sub, ← Int32.ofInt_mul]; done) | exact congrArg Int32.ofInt (by omega) | rfl), by (dsimp only; omega), rfl, ?_⟩
      exact bad k j _ (eb k j (ed.trans em)) ((fA.tr hf2.mono).s1) (by exact (hf2.p1 271 45).trans eA) (g2.fs (show q_fs [296] [] M2 _ from q_fs.rf.s1)) _
  · refine ⟨fun z => absurd z (by decide), sw_at 1 (by decide) rfl ?_⟩
    refine ⟨_, eA, ?_⟩
    refine k_numberHere gA 0 20 (by omega) (by omega) (fun v nv ev hv M2 hf2 g2 => ?_) (fun k nk hk M2 hf2 g2 => ?_)
    · refine ⟨s, _, by (first | assumption | (simp only [z_nat, z_lit, ← Int32.ofInt_add, ← Int32.ofInt_sub, ← Int32.ofInt_mul]; exact congrArg Int32.ofInt (by omega)) | (simp only [z_nat, z_lit, ← Int32.ofInt_add, ← Int32.ofInt_sub, ← Int32.ofInt_mul]; done) | exact congrArg Int32.ofInt (by omega) | rfl), by (dsimp only; omega), rfl, ?_⟩
      refine fine v _ _ ((num (Or.inl rfl)).trans nv) ((fA.tr hf2.mono).s1) (by exact (hf2.p1 271 45).trans eA) (g2.fs (show q_fs [296] [] M2 _ from q_fs.rf.s1)) ((lA.tr (lowR.of hf2)).tr (lowR.si (Or.inr (Or.inl rfl)))) ⟨(q_si_nn (by omega)).trans ((hf2.p1 295 s).trans e95), q_si_s, fun z => by omega⟩ _
    · refine ⟨s, _, by (first | assumption | (simp only [z_nat, z_lit, ← Int32.ofInt_add, ← Int32.ofInt_sub, ← Int32.ofInt_mul]; exact congrArg Int32.ofInt (by omega)) | (simp only [z_nat, z_lit, ← Int32.ofInt_add, ← Int32.ofInt_sub, ← Int32.ofInt_mul]; done) | exact congrArg Int32.ofInt (by omega) | rfl), by (dsimp only; omega), rfl, ?_⟩
      exact bad k _ _ (eb k _ ((num (Or.inl rfl)).trans nk)) ((fA.tr hf2.mono).s1) (by exact (hf2.p1 271 45).trans eA) (g2.fs (show q_fs [296] [] M2 _ from q_fs.rf.s1)) _
  · refine ⟨fun z => absurd z (by decide), sw_at 2 (by decide) rfl ?_⟩
    refine ⟨_, eA, ?_⟩
    refine ⟨s, _, by (first | assumption | (simp only [z_nat, z_lit, ← Int32.ofInt_add, ← Int32.ofInt_sub, ← Int32.ofInt_mul]; exact congrArg Int32.ofInt (by omega)) | (simp only [z_nat, z_lit, ← Int32.ofInt_add, ← Int32.ofInt_sub, ← Int32.ofInt_mul]; done) | exact congrArg Int32.ofInt (by omega) | rfl), by (dsimp only; omega), rfl, ?_⟩
    exact nul (by omega) _
  · refine ⟨fun z => absurd z (by decide), sw_at 3 (by decide) rfl ?_⟩
    refine ⟨_, eA, ?_⟩
    refine k_numberHere gA 0 20 (by omega) (by omega) (fun v nv ev hv M2 hf2 g2 => ?_) (fun k nk hk M2 hf2 g2 => ?_)
    · refine ⟨s, _, by (first | assumption | (simp only [z_nat, z_lit, ← Int32.ofInt_add, ← Int32.ofInt_sub, ← Int32.ofInt_mul]; exact congrArg Int32.ofInt (by omega)) | (simp only [z_nat, z_lit, ← Int32.ofInt_add, ← Int32.ofInt_sub, ← Int32.ofInt_mul]; done) | exact congrArg Int32.ofInt (by omega) | rfl), by (dsimp only; omega), rfl, ?_⟩
      refine fine v _ _ ((num (Or.inr rfl)).trans nv) ((fA.tr hf2.mono).s1) (by exact (hf2.p1 271 45).trans eA) (g2.fs (show q_fs [296] [] M2 _ from q_fs.rf.s1)) ((lA.tr (lowR.of hf2)).tr (lowR.si (Or.inr (Or.inl rfl)))) ⟨(q_si_nn (by omega)).trans ((hf2.p1 295 s).trans e95), q_si_s, fun z => by omega⟩ _
    · refine ⟨s, _, by (first | assumption | (simp only [z_nat, z_lit, ← Int32.ofInt_add, ← Int32.ofInt_sub, ← Int32.ofInt_mul]; exact congrArg Int32.ofInt (by omega)) | (simp only [z_nat, z_lit, ← Int32.ofInt_add, ← Int32.ofInt_sub, ← Int32.ofInt_mul]; done) | exact congrArg Int32.ofInt (by omega) | rfl), by (dsimp only; omega), rfl, ?_⟩
      exact bad k _ _ (eb k _ ((num (Or.inr rfl)).trans nk)) ((fA.tr hf2.mono).s1) (by exact (hf2.p1 271 45).trans eA) (g2.fs (show q_fs [296] [] M2 _ from q_fs.rf.s1)) _
  · refine ⟨fun z => absurd z (by decide), sw_at 4 (by decide) rfl ?_⟩
    have ed : detP t x len tok i = (if tok (i + 1) = (1, 4) then .inr (0, i + 2) else if tok (i + 1) = (1, 5) then .inr (1, i + 2) else .inl (1, i + 1)) := by
      unfold detP
      rw [if_neg (by omega), if_neg (by omega), if_pos (by omega)]
    refine ⟨_, eA, ?_⟩
    refine w_in 90 [] ?_
    refine k_takesWord gA 4 (by omega) (by decide +kernel) (fun e M2 hf2 g2 => br_f (by decide) ⟨_, rfl, ?_⟩) (fun e M2 hf2 g2 => br_t (by decide) ?_)
    · rw [if_pos e] at ed
      refine ⟨s, _, by (first | assumption | (simp only [z_nat, z_lit, ← Int32.ofInt_add, ← Int32.ofInt_sub, ← Int32.ofInt_mul]; exact congrArg Int32.ofInt (by omega)) | (simp only [z_nat, z_lit, ← Int32.ofInt_add, ← Int32.ofInt_sub, ← Int32.ofInt_mul]; done) | exact congrArg Int32.ofInt (by omega) | rfl), by (dsimp only; omega), rfl, ?_⟩
      refine fine 0 _ _ ed ((fA.tr hf2.mono).s1) (by exact (hf2.p1 271 45).trans eA) (g2.fs (show q_fs [296] [] M2 _ from q_fs.rf.s1)) ((lA.tr (lowR.of hf2)).tr (lowR.si (Or.inr (Or.inl rfl)))) ⟨(q_si_nn (by omega)).trans ((hf2.p1 295 s).trans e95), q_si_s, fun z => by omega⟩ _
    · rw [if_neg e] at ed
      refine k_mustWord g2 5 (by omega) (by decide +kernel) (fun e' M3 hf3 g3 => ⟨_, rfl, ?_⟩) (fun e' M3 hf3 g3 => ⟨_, rfl, ?_⟩)
      · rw [if_pos e'] at ed
        refine ⟨s, _, by (first | assumption | (simp only [z_nat, z_lit, ← Int32.ofInt_add, ← Int32.ofInt_sub, ← Int32.ofInt_mul]; exact congrArg Int32.ofInt (by omega)) | (simp only [z_nat, z_lit, ← Int32.ofInt_add, ← Int32.ofInt_sub, ← Int32.ofInt_mul]; done) | exact congrArg Int32.ofInt (by omega) | rfl), by (dsimp only; omega), rfl, ?_⟩
        refine fine 1 _ _ ed (((fA.tr hf2.mono).tr hf3.mono).s1) (by exact (hf3.p1 271 45).trans ((hf2.p1 271 45).trans eA)) (g3.fs (show q_fs [296] [] M3 _ from q_fs.rf.s1)) (((lA.tr (lowR.of hf2)).tr (lowR.of hf3)).tr (lowR.si (Or.inr (Or.inl rfl)))) ⟨(q_si_nn (by omega)).trans ((hf3.p1 295 s).trans ((hf2.p1 295 s).trans e95)), q_si_s, fun z => by omega⟩ _
      · rw [if_neg e'] at ed
        refine ⟨s, _, by (first | assumption | (simp only [z_nat, z_lit, ← Int32.ofInt_add, ← Int32.ofInt_sub, ← Int32.ofInt_mul]; exact congrArg Int32.ofInt (by omega)) | (simp only [z_nat, z_lit, ← Int32.ofInt_add, ← Int32.ofInt_sub, ← Int32.ofInt_mul]; done) | exact congrArg Int32.ofInt (by omega) | rfl), by (dsimp only; omega), rfl, ?_⟩
        exact bad 1 _ _ (eb 1 _ ed) (((fA.tr hf2.mono).tr hf3.mono).s1) (by exact (hf3.p1 271 45).trans ((hf2.p1 271 45).trans eA)) (g3.fs (show q_fs [296] [] M3 _ from q_fs.rf.s1)) _
  · refine ⟨fun z => absurd z (by decide), sw_at 5 (by decide) rfl ?_⟩
    refine ⟨_, eA, ?_⟩
    refine ⟨s, _, by (first | assumption | (simp only [z_nat, z_lit, ← Int32.ofInt_add, ← Int32.ofInt_sub, ← Int32.ofInt_mul]; exact congrArg Int32.ofInt (by omega)) | (simp only [z_nat, z_lit, ← Int32.ofInt_add, ← Int32.ofInt_sub, ← Int32.ofInt_mul]; done) | exact congrArg Int32.ofInt (by omega) | rfl), by (dsimp only; omega), rfl, ?_⟩
    exact nul (by omega) _
  · refine ⟨fun z => absurd z (by decide), sw_at 6 (by decide) rfl ?_⟩
    refine ⟨_, eA, ?_⟩
    refine ⟨s, _, by (first | assumption | (simp only [z_nat, z_lit, ← Int32.ofInt_add, ← Int32.ofInt_sub, ← Int32.ofInt_mul]; exact congrArg Int32.ofInt (by omega)) | (simp only [z_nat, z_lit, ← Int32.ofInt_add, ← Int32.ofInt_sub, ← Int32.ofInt_mul]; done) | exact congrArg Int32.ofInt (by omega) | rfl), by (dsimp only; omega), rfl, ?_⟩
    exact nul (by omega) _
  · refine ⟨fun z => absurd z (by decide), sw_at 7 (by decide) rfl ?_⟩
    have ed : detP t x len tok i = (if (tok (i + 1)).1 = 2 then (if outE t x len (i + 1) < t 8 0 then .inr (outE t x len (i + 1), i + 2) else .inl (3, i + 1)) else .inl (1, i + 1)) := by
      unfold detP
      rw [if_neg (by omega), if_neg (by omega), if_neg (by omega), if_pos (by omega)]
    have o6 := (outE_s (t := t) (x := x) (len := len) (j := i + 1)).1
    refine ⟨_, eA, ?_⟩
    refine w_in 90 [] ?_
    refine k_isNameHere gA (fun e => bn_t (by decide) ?_) (fun e => bn_f rfl ?_)
    · rw [if_pos e] at ed
      have n1 : ∀ e, e < t 8 0 → nmO t (10 + e) ∧ MA.2 282 (10 + e) = Int64.ofInt (n8 t (10 + e) : Nat) := fun e he => ⟨(nm e he).1, (fA.p2 282 _).trans (nm e he).2⟩
      have e28 : MA.1 280 4 = nI (t 8 0) := (fA.p1 280 4).trans h4
      have e76 := (gA.k.2.2.2.1 e).2.1
      refine ⟨4, _, by (first | assumption | (simp only [z_nat, z_lit, ← Int32.ofInt_add, ← Int32.ofInt_sub, ← Int32.ofInt_mul]; exact congrArg Int32.ofInt (by omega)) | (simp only [z_nat, z_lit, ← Int32.ofInt_add, ← Int32.ofInt_sub, ← Int32.ofInt_mul]; done) | exact congrArg Int32.ofInt (by omega) | rfl), by (dsimp only; omega), e28, ?_⟩
      refine ⟨_, gA.2.2.1, ?_⟩
      refine ⟨i + 1, _, by (first | assumption | (simp only [z_nat, z_lit, ← Int32.ofInt_add, ← Int32.ofInt_sub, ← Int32.ofInt_mul]; exact congrArg Int32.ofInt (by omega)) | (simp only [z_nat, z_lit, ← Int32.ofInt_add, ← Int32.ofInt_sub, ← Int32.ofInt_mul]; done) | exact congrArg Int32.ofInt (by omega) | rfl), by (dsimp only; omega), e76, ?_⟩
      refine k_nameOut gA e h6 n1 rfl (fun y => ?_) (fun y => ?_)
      · rw [if_pos y] at ed
        refine z_ne (outE t x len (i + 1) : Int) (-1) (fun _ => ?_) (fun y => by omega)
        refine ⟨_, gA.2.2.1, ?_⟩
        refine ⟨_, rfl, ?_⟩
        refine ⟨_, rfl, ?_⟩
        refine ⟨s, _, by (first | assumption | (simp only [z_nat, z_lit, ← Int32.ofInt_add, ← Int32.ofInt_sub, ← Int32.ofInt_mul]; exact congrArg Int32.ofInt (by omega)) | (simp only [z_nat, z_lit, ← Int32.ofInt_add, ← Int32.ofInt_sub, ← Int32.ofInt_mul]; done) | exact congrArg Int32.ofInt (by omega) | rfl), by (dsimp only; omega), rfl, ?_⟩
        refine fine _ _ _ ed ((fA.s1).s1) (by exact eA) ((gA.nx (by omega) (by (first | assumption | (simp only [z_nat, z_lit, ← Int32.ofInt_add, ← Int32.ofInt_sub, ← Int32.ofInt_mul]; exact congrArg Int32.ofInt (by omega)) | (simp only [z_nat, z_lit, ← Int32.ofInt_add, ← Int32.ofInt_sub, ← Int32.ofInt_mul]; done) | exact congrArg Int32.ofInt (by omega) | rfl))).fs (show q_fs [296] [] _ _ from q_fs.rf.s1)) ((lA.tr (lowR.of (show q_fs [] [(271, 8)] MA _ from q_fs.rf.s1))).tr (lowR.si (Or.inr (Or.inl rfl)))) ⟨(q_si_nn (by omega)).trans ((q_si_nn (by omega)).trans e95), q_si_s, fun z => by omega⟩ _
      · rw [if_neg y] at ed
        refine z_ne (-1) (-1) (fun z => absurd rfl z) (fun _ => ?_)
        refine k_wrongs gA 3 (by omega) (fun M2 hf2 g2 => ⟨_, rfl, ?_⟩)
        refine ⟨s, _, by (first | assumption | (simp only [z_nat, z_lit, ← Int32.ofInt_add, ← Int32.ofInt_sub, ← Int32.ofInt_mul]; exact congrArg Int32.ofInt (by omega)) | (simp only [z_nat, z_lit, ← Int32.ofInt_add, ← Int32.ofInt_sub, ← Int32.ofInt_mul]; done) | exact congrArg Int32.ofInt (by omega) | rfl), by (dsimp only; omega), rfl, ?_⟩
        exact bad 3 _ _ (eb 3 _ ed) ((fA.tr hf2.mono).s1) (by exact (hf2.p1 271 45).trans eA) (g2.fs (show q_fs [296] [] M2 _ from q_fs.rf.s1)) _
    · rw [if_neg e] at ed
      refine k_wrongs gA 1 (by omega) (fun M2 hf2 g2 => ⟨_, rfl, ?_⟩)
      refine ⟨s, _, by (first | assumption | (simp only [z_nat, z_lit, ← Int32.ofInt_add, ← Int32.ofInt_sub, ← Int32.ofInt_mul]; exact congrArg Int32.ofInt (by omega)) | (simp only [z_nat, z_lit, ← Int32.ofInt_add, ← Int32.ofInt_sub, ← Int32.ofInt_mul]; done) | exact congrArg Int32.ofInt (by omega) | rfl), by (dsimp only; omega), rfl, ?_⟩
      exact bad 1 _ _ (eb 1 _ ed) ((fA.tr hf2.mono).s1) (by exact (hf2.p1 271 45).trans eA) (g2.fs (show q_fs [296] [] M2 _ from q_fs.rf.s1)) _
end SF
