/-! a SCRIPT's acts: the pure picture, and how the class reads them -/
def mkP (tok : Nat → Tok) : Nat → Nat → Rs Nat
  | 0, _ => .inl (1, 0)
  | f + 1, i => if (tok i).1 = 3 then (if (tok i).2 ≤ 20 then (if (tok (i + 1)).1 = 3 then (if f = 0 then .inl (if (tok (i + 1)).2 ≤ 20 then 4 else 2, i + 1) else mkP tok f (i + 1)) else .inr (11 - f, i + 1)) else .inl (2, i)) else .inl (1, i)
/-- the entrant whose name is the j-th token; none: as many as there are -/
def outE (t : q_T) (x : Nat → Nat) (len j : Nat) : Nat := rnE (fun e => !decide (n5 t (10 + e) = w5E x (tkS x len j) ((tkR x len (tkS x len j) - tkS x len j)))) id (t 8 0) 0
theorem outE_s {t : q_T} {x : Nat → Nat} {len j : Nat} : outE t x len j ≤ t 8 0 ∧ (∀ e, e < outE t x len j → ¬ n5 t (10 + e) = w5E x (tkS x len j) ((tkR x len (tkS x len j) - tkS x len j))) ∧ (outE t x len j < t 8 0 → n5 t (10 + outE t x len j) = w5E x (tkS x len j) ((tkR x len (tkS x len j) - tkS x len j))) := by
  obtain ⟨s1, s2, s3, s4⟩ := rnE_s (f := fun e => !decide (n5 t (10 + e) = w5E x (tkS x len j) ((tkR x len (tkS x len j) - tkS x len j)))) (x := id) (k := t 8 0) (i := 0)
  have e : outE t x len j = rnE (fun e => !decide (n5 t (10 + e) = w5E x (tkS x len j) ((tkR x len (tkS x len j) - tkS x len j)))) id (t 8 0) 0 := rfl
  rw [← e] at s1 s2 s3 s4
  refine ⟨by omega, fun k hk z => ?_, fun hl => ?_⟩
  · have := s3 k (Nat.zero_le _) hk
    rw [Bool.not_eq_true', decide_eq_false_iff_not] at this
    exact this z
  · have := s4 (by omega)
    rw [Bool.not_eq_false', decide_eq_true_iff] at this
    exact this
theorem outE_un {t : q_T} {x : Nat → Nat} {len j e : Nat} (he : e < t 8 0) (h1 : n5 t (10 + e) = w5E x (tkS x len j) ((tkR x len (tkS x len j) - tkS x len j))) (h2 : ∀ i, i < e → ¬ n5 t (10 + i) = w5E x (tkS x len j) ((tkR x len (tkS x len j) - tkS x len j))) : outE t x len j = e := by
  obtain ⟨s1, s2, s3⟩ := outE_s (t := t) (x := x) (len := len) (j := j)
  rcases Nat.lt_trichotomy (outE t x len j) e with z | z | z
  · exact absurd (s3 (by omega)) (h2 _ z)
  · exact z
  · exact absurd h1 (s2 e z)
def detP (t : q_T) (x : Nat → Nat) (len : Nat) (tok : Nat → Tok) (i : Nat) : Rs Nat := if (tok i).2 = 26 then mkP tok 11 (i + 1) else if (tok i).2 = 27 ∨ (tok i).2 = 29 then numP tok (i + 1) 0 20 else if (tok i).2 = 30 then (if tok (i + 1) = (1, 4) then .inr (0, i + 2) else if tok (i + 1) = (1, 5) then .inr (1, i + 2) else .inl (1, i + 1)) else if (tok i).2 = 33 then (if (tok (i + 1)).1 = 2 then (if outE t x len (i + 1) < t 8 0 then .inr (outE t x len (i + 1), i + 2) else .inl (3, i + 1)) else .inl (1, i + 1)) else .inr (0, i + 1)
def timP (tok : Nat → Tok) (j : Nat) : Rs Nat := if tok j = (1, 25) then numP tok (j + 1) 1 20 else .inr (1, j)
def endP (tok : Nat → Tok) (vm : Nat × Nat) (j : Nat) : Rs (Nat × Nat) := if tok j = (4, 59) then .inr (vm, j + 1) else .inl (1, j)
/-- whether an act begins -/
def isA (tok : Nat → Tok) (i : Nat) : Prop := (tok i).1 = 1 ∧ 26 ≤ (tok i).2 ∧ (tok i).2 ≤ 33
def actP (t : q_T) (x : Nat → Nat) (len : Nat) (tok : Nat → Tok) (i : Nat) : Rs (Nat × Nat) := match detP t x len tok i with
  | .inl e => .inl e
  | .inr (v, j) => match timP tok j with
    | .inl e => .inl e
    | .inr (m, j2) => endP tok (v, m) j2
section SC
variable {L : Nat} {xs : Nat → Int32} {E : q_E} {d : Nat} {M : q_M} {t : q_T} {n : sN} {Q : Option Value → q_M → Prop} {P : q_M → Prop}
variable {x : Nat → Nat} {len : Nat} {tok : Nat → Tok} {T : Nat}
theorem mkP_s {f i : Nat} (h1 : (tok i).1 = 3) (h2 : (tok i).2 ≤ 20) : mkP tok (f + 1) i = if (tok (i + 1)).1 = 3 then (if f = 0 then .inl (if (tok (i + 1)).2 ≤ 20 then 4 else 2, i + 1) else mkP tok f (i + 1)) else .inr (11 - f, i + 1) := by
  show (if (tok i).1 = 3 then _ else _) = _
  rw [if_pos h1, if_pos h2]
theorem numP_t {i v : Nat} {lo hi : Int} {j : Nat} (h : numP tok i lo hi = .inr (v, j)) : (tok i).1 = 3 ∧ (tok i).2 = v ∧ lo ≤ v ∧ v ≤ hi ∧ j = i + 1 := by
  unfold numP at h
  split at h
  · next q =>
    split at h
    · next q2 => cases h; exact ⟨q, rfl, q2.1, q2.2, rfl⟩
    · cases h
  · cases h
theorem numP_f {i k j : Nat} {lo hi : Int} (h : numP tok i lo hi = .inl (k, j)) : j = i ∧ (k = 1 ∨ k = 2) ∧ (k = 1 → ¬ (tok i).1 = 3) ∧ (k = 2 → (tok i).1 = 3 ∧ ¬ (lo ≤ (tok i).2 ∧ (tok i).2 ≤ hi)) := by
  unfold numP at h
  split at h
  · next q =>
    split at h
    · cases h
    · next q2 => cases h; exact ⟨rfl, Or.inr rfl, fun z => absurd z (by decide), fun _ => ⟨q, q2⟩⟩
  · next q => cases h; exact ⟨rfl, Or.inl rfl, fun _ => q, fun z => absurd z (by decide)⟩
abbrev fSc : List (Nat × Nat) := [(3, 3), (3, 4), (3, 5), (3, 6), (3, 7), (3, 8), (3, 9), (3, 10), (251, 7)]
abbrev lSc : List Nat := [252, 253, 254, 255]
set_option maxRecDepth 100000 in
set_option maxHeartbeats 4000000 in
theorem k2_readMarks {i s : Nat} (g : g_ct M x len tok T i) (hs : M.1 251 7 = nI s) (h60 : s < 60) (h1 : ∀ v j M', mkP tok 11 i = .inr (v, j) → v ≤ 11 → j = i + v → q_fs lSc fTk M M' → g_ct M' x len tok T j → (∀ k, ¬ k = s → M'.1 253 k = M.1 253 k) → M'.1 253 s = nI v → M'.1 252 = M.1 252 → M'.1 254 = M.1 254 → (∀ k, k < 11 * s → M'.1 255 k = M.1 255 k) → (∀ p, p < v → M'.1 255 (11 * s + p) = nI (tok (i + p)).2) → Q (some (.int 1)) M') (h0 : ∀ k j M', mkP tok 11 i = .inl (k, j) → q_fs lSc fTk M M' → g_cf M' x len k j → Q (some (.int 0)) M') : q_C q_mt (L, xs, q_shp) E nX7_readMarks (d + 3) 0 0 [.ref 251] M Q := by
  have main : ∀ f c M', c + f = 10 → mkP tok 11 i = mkP tok (f + 1) (i + c) → q_fs [255] fTk M M' → g_ct M' x len tok T (i + c) → (∀ k, k < 11 * s → M'.1 255 k = M.1 255 k) → (∀ p, p < c → M'.1 255 (11 * s + p) = nI (tok (i + p)).2) → ∀ u, u = nI c → q_G q_mt (L, xs, q_shp) E nX7_readMarks (d + 3) 0 0 (q_Q (L, xs, q_shp) E Q) 2 [some (.ref 251), some (.int (u))] [] M' := by
    intro f
    induction f with
    | zero =>
      rintro c M' hc em hf g' hold ha u rfl
      have hc : c = 10 := by omega
      subst hc
      refine w_at 90 [2] ?_
      refine k2_takeNumber g' 0 20 (by omega) (by omega) (fun v nv ev hv M2 hf2 g2 => bn_t (by decide) ?_) (fun k nk hk M2 hf2 g2 => bn_f rfl ⟨z_0, ?_⟩)
      · have f2 : q_fs [255] fTk M M2 := hf.tr hf2.mono
        have e7 : M2.1 251 7 = nI s := (f2.p1 251 7).trans hs
        have em : mkP tok 11 i = if (tok (i + 10 + 1)).1 = 3 then (if 0 = 0 then .inl (if (tok (i + 10 + 1)).2 ≤ 20 then 4 else 2, i + 10 + 1) else mkP tok 0 (i + 10 + 1)) else .inr (11 - 0, i + 10 + 1) := em.trans (mkP_s (by rw [ev]) (by rw [ev]; show v ≤ 20; omega))
        refine ⟨_, e7, ?_⟩
        refine ⟨_, g2.1, ?_⟩
        refine ⟨11 * s + 10, _, by (first | assumption | (simp only [z_nat, z_lit, ← Int32.ofInt_add, ← Int32.ofInt_sub, ← Int32.ofInt_mul]; exact congrArg Int32.ofInt (by omega)) | (simp only [z_nat, z_lit, ← Int32.ofInt_add, ← Int32.ofInt_sub, ← Int32.ofInt_mul]; done) | exact congrArg Int32.ofInt (by omega) | rfl), by (dsimp only; omega), rfl, ?_⟩
        refine ⟨fun _ => ?_, fun z => absurd (by decide) z⟩
        have f3 : q_fs lSc fTk M (q_si M2 255 (11 * s + 10) (nI v)) := f2.mono.s1
        have g3 : g_ct (q_si (q_si M2 255 (11 * s + 10) (nI v)) 253 s (Int32.ofInt 11)) x len tok T (i + 10 + 1) := g2.2.fs (show q_fs [253, 255] [] M2 _ from q_fs.rf.s1.s1)
        refine ⟨_, e7, ?_⟩
        refine ⟨s, Int32.ofInt 11, by (first | assumption | (simp only [z_nat, z_lit, ← Int32.ofInt_add, ← Int32.ofInt_sub, ← Int32.ofInt_mul]; exact congrArg Int32.ofInt (by omega)) | (simp only [z_nat, z_lit, ← Int32.ofInt_add, ← Int32.ofInt_sub, ← Int32.ofInt_mul]; done) | exact congrArg Int32.ofInt (by omega) | rfl), by (dsimp only; omega), by (first | assumption | (simp only [z_nat, z_lit, ← Int32.ofInt_add, ← Int32.ofInt_sub, ← Int32.ofInt_mul]; exact congrArg Int32.ofInt (by omega)) | (simp only [z_nat, z_lit, ← Int32.ofInt_add, ← Int32.ofInt_sub, ← Int32.ofInt_mul]; done) | exact congrArg Int32.ofInt (by omega) | rfl), ?_⟩
        have k5 := g3.tt.k5 (i + 10 + 1)
        have v9 := g3.tt.v9 (i + 10 + 1)
        refine ⟨_, g3.k.1, ?_⟩
        refine z_ne ((tok (i + 10 + 1)).1 : Int) 3 (fun z => ⟨z_1, ?_⟩) (fun z => ?_)
        · have z : ¬ (tok (i + 10 + 1)).1 = 3 := by omega
          rw [if_neg z] at em
          refine h1 11 (i + 10 + 1) _ em (by omega) rfl f3.s1 g3 (fun k hk => ?_) ?_ ?_ ?_ (fun k hk => ?_) (fun p hp => ?_)
          · rw [q_si_n hk]
            exact (q_si_nn (by omega)).trans (f2.p1 253 k)
          · exact q_si_s
          · funext k
            exact (q_si_nn (by omega)).trans ((q_si_nn (by omega)).trans (f2.p1 252 k))
          · funext k
            exact (q_si_nn (by omega)).trans ((q_si_nn (by omega)).trans (f2.p1 254 k))
          · exact (q_si_nn (by omega)).trans ((q_si_n (by omega)).trans ((hf2.p1 255 k).trans (hold k hk)))
          · rw [q_si_nn (by omega)]
            by_cases q : p = 10
            · subst q
              rw [q_si_s, ev]
            · rw [q_si_n (by omega)]
              exact (hf2.p1 255 _).trans (ha p (by omega))
        · have z : (tok (i + 10 + 1)).1 = 3 := by omega
          rw [if_pos z, if_pos rfl] at em
          have e4 := g3.k.2.1 (by omega)
          refine ⟨_, e4, ?_⟩
          refine z_le ((tok (i + 10 + 1)).2 : Int) 20 (fun y => ?_) (fun y => ?_)
          · rw [if_pos (show (tok (i + 10 + 1)).2 ≤ 20 by omega)] at em
            exact k2_refuse g3 4 (fun M4 hf4 g4 => ⟨z_0, h0 4 _ M4 em (f3.s1.tr hf4.mono) g4⟩)
          · rw [if_neg (show ¬ (tok (i + 10 + 1)).2 ≤ 20 by omega)] at em
            exact k2_refuse g3 2 (fun M4 hf4 g4 => ⟨z_0, h0 2 _ M4 em (f3.s1.tr hf4.mono) g4⟩)
      · refine h0 k (i + 10) M2 ?_ (hf.mono.tr hf2.mono) g2
        rw [em]
        obtain ⟨n1, n2, n3, n4⟩ := numP_f nk
        show (if (tok (i + 10)).1 = 3 then _ else _) = _
        rcases n2 with rfl | rfl
        · rw [if_neg (n3 rfl)]
        · have := n4 rfl
          rw [if_pos this.1, if_neg (by omega)]
    | succ f ih =>
      rintro c M' hc em hf g' hold ha u rfl
      refine w_at 90 [2] ?_
      refine k2_takeNumber g' 0 20 (by omega) (by omega) (fun v nv ev hv M2 hf2 g2 => bn_t (by decide) ?_) (fun k nk hk M2 hf2 g2 => bn_f rfl ⟨z_0, ?_⟩)
      · have f2 : q_fs [255] fTk M M2 := hf.tr hf2.mono
        have e7 : M2.1 251 7 = nI s := (f2.p1 251 7).trans hs
        have em : mkP tok 11 i = if (tok (i + c + 1)).1 = 3 then (if f + 1 = 0 then .inl (if (tok (i + c + 1)).2 ≤ 20 then 4 else 2, i + c + 1) else mkP tok (f + 1) (i + c + 1)) else .inr (11 - (f + 1), i + c + 1) := em.trans (mkP_s (by rw [ev]) (by rw [ev]; show v ≤ 20; omega))
        refine ⟨_, e7, ?_⟩
        refine ⟨_, g2.1, ?_⟩
        refine ⟨11 * s + c, _, by (first | assumption | (simp only [z_nat, z_lit, ← Int32.ofInt_add, ← Int32.ofInt_sub, ← Int32.ofInt_mul]; exact congrArg Int32.ofInt (by omega)) | (simp only [z_nat, z_lit, ← Int32.ofInt_add, ← Int32.ofInt_sub, ← Int32.ofInt_mul]; done) | exact congrArg Int32.ofInt (by omega) | rfl), by (dsimp only; omega), rfl, ?_⟩
        refine z_le 11 ((c : Int) + 1) (fun z => by omega) (fun _ => ?_)
        have f3 : q_fs [255] fTk M (q_si M2 255 (11 * s + c) (nI v)) := f2.s1
        have g3 : g_ct (q_si M2 255 (11 * s + c) (nI v)) x len tok T (i + c + 1) := g2.2.fs (show q_fs [255] [] M2 _ from q_fs.rf.s1)
        have hold3 : ∀ k, k < 11 * s → (q_si M2 255 (11 * s + c) (nI v)).1 255 k = M.1 255 k := fun k hk => (q_si_n (by omega)).trans ((hf2.p1 255 k).trans (hold k hk))
        have ha3 : ∀ p, p < c + 1 → (q_si M2 255 (11 * s + c) (nI v)).1 255 (11 * s + p) = nI (tok (i + p)).2 := fun p hp => by
          by_cases q : p = c
          · subst q
            rw [q_si_s, ev]
          · rw [q_si_n (by omega)]
            exact (hf2.p1 255 _).trans (ha p (by omega))
        have k5 := g3.tt.k5 (i + c + 1)
        refine ⟨_, g3.k.1, ?_⟩
        refine z_eq ((tok (i + c + 1)).1 : Int) 3 (fun z => ?_) (fun z => ?_)
        · rw [if_pos (show (tok (i + c + 1)).1 = 3 by omega), if_neg (by omega)] at em
          exact ih (c + 1) _ (by omega) em f3 g3 hold3 ha3 _ (by (first | assumption | (simp only [z_nat, z_lit, ← Int32.ofInt_add, ← Int32.ofInt_sub, ← Int32.ofInt_mul]; exact congrArg Int32.ofInt (by omega)) | (simp only [z_nat, z_lit, ← Int32.ofInt_add, ← Int32.ofInt_sub, ← Int32.ofInt_mul]; done) | exact congrArg Int32.ofInt (by omega) | rfl))
        · have z : ¬ (tok (i + c + 1)).1 = 3 := by omega
          rw [if_neg z] at em
          have g4 : g_ct (q_si (q_si M2 255 (11 * s + c) (nI v)) 253 s (nI (c + 1))) x len tok T (i + c + 1) := g2.2.fs (show q_fs [253, 255] [] M2 _ from q_fs.rf.s1.s1)
          refine ⟨_, e7, ?_⟩
          refine ⟨s, nI (c + 1), by (first | assumption | (simp only [z_nat, z_lit, ← Int32.ofInt_add, ← Int32.ofInt_sub, ← Int32.ofInt_mul]; exact congrArg Int32.ofInt (by omega)) | (simp only [z_nat, z_lit, ← Int32.ofInt_add, ← Int32.ofInt_sub, ← Int32.ofInt_mul]; done) | exact congrArg Int32.ofInt (by omega) | rfl), by (dsimp only; omega), by (first | assumption | (simp only [z_nat, z_lit, ← Int32.ofInt_add, ← Int32.ofInt_sub, ← Int32.ofInt_mul]; exact congrArg Int32.ofInt (by omega)) | (simp only [z_nat, z_lit, ← Int32.ofInt_add, ← Int32.ofInt_sub, ← Int32.ofInt_mul]; done) | exact congrArg Int32.ofInt (by omega) | rfl), ?_⟩
          refine ⟨_, g4.k.1, ?_⟩
          refine z_ne ((tok (i + c + 1)).1 : Int) 3 (fun _ => ⟨z_1, ?_⟩) (fun y => by omega)
          refine h1 (c + 1) (i + c + 1) _ (by rw [em, show 11 - (f + 1) = c + 1 by omega]) (by omega) (by omega) f3.mono.s1 g4 (fun k hk => ?_) ?_ ?_ ?_ (fun k hk => ?_) (fun p hp => ?_)
          · rw [q_si_n hk]
            exact f3.p1 253 k
          · exact q_si_s
          · funext k
            exact (q_si_nn (by omega)).trans (f3.p1 252 k)
          · funext k
            exact (q_si_nn (by omega)).trans (f3.p1 254 k)
          · exact (q_si_nn (by omega)).trans (hold3 k hk)
          · exact (q_si_nn (by omega)).trans (ha3 p hp)
      · refine h0 k (i + c) M2 ?_ (hf.mono.tr hf2.mono) g2
        rw [em]
        obtain ⟨n1, n2, n3, n4⟩ := numP_f nk
        show (if (tok (i + c)).1 = 3 then _ else _) = _
        rcases n2 with rfl | rfl
        · rw [if_neg (n3 rfl)]
        · have := n4 rfl
          rw [if_pos this.1, if_neg (by omega)]
  refine w_in 90 [2] ?_
  exact main 10 0 M (by omega) rfl q_fs.rf g (fun _ _ => rfl) (fun p hp => by omega) _ rfl
end SC
