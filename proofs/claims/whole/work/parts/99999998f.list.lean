/-! the STATEMENT list -/
def lsP (t0 : q_T) (x : Nat → Nat) (len : Nat) (tok : Nat → Tok) (e : Nat) : Nat → Nat → Nat → q_T → Rs q_T
  | 0, _, i, t => .inr (t, i)
  | f + 1, r, i, t => if (tok i).1 = 2 then (if fnE t0 x len 0 (t0 5 0) i < t0 5 0 ∧ ∀ r', r' < r → ¬ t 11 (6 * e + r') = fnE t0 x len 0 (t0 5 0) i + 1 then lsP t0 x len tok e f (r + 1) (i + 1) (upT t 11 (6 * e + r) (fnE t0 x len 0 (t0 5 0) i + 1)) else .inl (3, i)) else .inl (1, i)
def listP (t : q_T) (x : Nat → Nat) (len : Nat) (tok : Nat → Tok) (i : Nat) : Rs q_T := bd (etP t x len tok (i + 1)) (fun e j => if t 11 (6 * e) = 0 then lsP t x len tok e (t 0 0) 0 (j + 1) t else .inl (3, j))
theorem nmO_eq {t t' : q_T} {j : Nat} (h1 : t' 30 j = t 30 j) (h2 : t' (31 + j) = t (31 + j)) (h : nmO t j) : nmO t' j := by
  unfold nmO at h ⊢
  rw [h1, h2]
  exact h
section LI
variable {L : Nat} {xs : Nat → Int32} {E : q_E} {d : Nat} {M : q_M} {t : q_T} {n : sN} {Q : Option Value → q_M → Prop} {P : q_M → Prop}
variable {x : Nat → Nat} {len : Nat} {tok : Nat → Tok} {T : Nat}
set_option maxRecDepth 100000 in
set_option maxHeartbeats 4000000 in
theorem k2_isListed {e r dv : Nat} {t1 : q_T} {a b c : Int32} (he : e < 6) (hr : r ≤ 6) (hd : dv < 10) (hL : ∀ s, s < 36 → M.1 33 s = Int32.ofInt ((t1 11 s : Int) - 1)) (hb : ∀ s, s < 36 → t1 11 s ≤ 10) (h1 : (¬ ∀ r', r' < r → ¬ t1 11 (6 * e + r') = dv + 1) → Q (some (.int 1)) M) (h0 : (∀ r', r' < r → ¬ t1 11 (6 * e + r') = dv + 1) → Q (some (.int 0)) M) (ha : a = nI (6 * e) := by (first | assumption | (simp only [z_nat, z_lit, ← Int32.ofInt_add, ← Int32.ofInt_sub, ← Int32.ofInt_mul]; exact congrArg Int32.ofInt (by omega)) | (simp only [z_nat, z_lit, ← Int32.ofInt_add, ← Int32.ofInt_sub, ← Int32.ofInt_mul]; done) | exact congrArg Int32.ofInt (by omega) | rfl)) (hbb : b = nI (6 * e + r) := by (first | assumption | (simp only [z_nat, z_lit, ← Int32.ofInt_add, ← Int32.ofInt_sub, ← Int32.ofInt_mul]; exact congrArg Int32.ofInt (by omega)) | (simp only [z_nat, z_lit, ← Int32.ofInt_add, ← Int32.ofInt_sub, ← Int32.ofInt_mul]; done) | exact congrArg Int32.ofInt (by omega) | rfl)) (hc : c = nI dv := by (first | assumption | (simp only [z_nat, z_lit, ← Int32.ofInt_add, ← Int32.ofInt_sub, ← Int32.ofInt_mul]; exact congrArg Int32.ofInt (by omega)) | (simp only [z_nat, z_lit, ← Int32.ofInt_add, ← Int32.ofInt_sub, ← Int32.ofInt_mul]; done) | exact congrArg Int32.ofInt (by omega) | rfl)) : q_C q_mt (L, xs, q_shp) E nX3_isListed (d) 0 0 [.ref 42, .int (a), .int (b), .int (c)] M Q := by
  subst ha hbb hc
  have W := lp_up (W := fun k => (∀ r', r' < k → ¬ t1 11 (6 * e + r') = dv + 1) → ∀ u, u = nI (6 * e + k) → q_G q_mt (L, xs, q_shp) E nX3_isListed (d) 0 0 (q_Q (L, xs, q_shp) E Q) 3 [some (.ref 42), some (.int (nI (6 * e))), some (.int (nI (6 * e + r))), some (.int (nI dv)), some (.int (u))] [] M) r ?_ ?_ 0 (Nat.zero_le _)
  · refine w_in 90 [3] ?_
    exact W (fun r' hr' => absurd hr' (Nat.not_lt_zero _)) _ (by rw [Nat.add_zero])
  · rintro hj u rfl
    refine w_at 90 [3] ?_
    exact z_le ((6 * e + r : Nat) : Int) (6 * e + r : Nat) (fun _ => ⟨z_0, h0 hj⟩) (fun z => by omega)
  · rintro k hk ih hj u rfl
    have bb := hb (6 * e + k) (by omega)
    have ll := hL (6 * e + k) (by omega)
    refine w_at 90 [3] ?_
    refine z_le ((6 * e + r : Nat) : Int) (6 * e + k : Nat) (fun z => by omega) (fun _ => ?_)
    refine ⟨6 * e + k, _, by (first | assumption | (simp only [z_nat, z_lit, ← Int32.ofInt_add, ← Int32.ofInt_sub, ← Int32.ofInt_mul]; exact congrArg Int32.ofInt (by omega)) | (simp only [z_nat, z_lit, ← Int32.ofInt_add, ← Int32.ofInt_sub, ← Int32.ofInt_mul]; done) | exact congrArg Int32.ofInt (by omega) | rfl), by (dsimp only; omega), ll, ?_⟩
    refine z_ne ((t1 11 (6 * e + k) : Int) - 1) dv (fun z => ?_) (fun z => ⟨z_1, h1 (fun y => y k hk (by omega))⟩)
    refine ih (fun r' hr' y => ?_) _ (by (first | assumption | (simp only [z_nat, z_lit, ← Int32.ofInt_add, ← Int32.ofInt_sub, ← Int32.ofInt_mul]; exact congrArg Int32.ofInt (by omega)) | (simp only [z_nat, z_lit, ← Int32.ofInt_add, ← Int32.ofInt_sub, ← Int32.ofInt_mul]; done) | exact congrArg Int32.ofInt (by omega) | rfl))
    by_cases q : r' = k
    · subst q
      omega
    · exact hj r' (by omega) y
set_option maxRecDepth 100000 in
set_option maxHeartbeats 4000000 in
theorem k2_readList {i : Nat} (g : g_ct M x len tok T (i + 1)) (h : dC M t) (bt : b_T t) (bn : bNm t) (b11 : ∀ s, s < 36 → t 11 s ≤ 10) (h1 : ∀ t' j M', listP t x len tok i = .inr (t', j) → q_fs lDr fTk M M' → g_ct M' x len tok T j → dC M' t' → Q (some (.int 1)) M') (h0 : ∀ k j M', listP t x len tok i = .inl (k, j) → q_fs lDr fTk M M' → g_cf M' x len k j → Q (some (.int 0)) M') : q_C q_mt (L, xs, q_shp) E nX3_readList (d + 4) 0 0 [.ref 42] M Q := by
  have e6 := bt.2.2.2.2.1
  have d10 := bt.2.2.2.1
  have r6 := bt.1
  refine w_in 90 [48] ?_
  refine k2_takeEntrant g h bt bn (fun e ne z2 he => ?_) (fun k M1 nk hf1 g1 => ?_)
  rotate_left 1
  · exact z_ne (-1) (-1) (fun w => absurd rfl w) (fun _ => ⟨z_0, h0 k _ M1 (bd_no nk) hf1.mono g1⟩)
  have ep : listP t x len tok i = if t 11 (6 * e) = 0 then lsP t x len tok e (t 0 0) 0 (i + 1 + 1) t else .inl (3, i + 1) := bd_ok ne
  have l0 := h.2.1 (6 * e) (by omega)
  have b0 := b11 (6 * e) (by omega)
  refine z_ne (e : Int) (-1) (fun _ => ?_) (fun w => by omega)
  refine ⟨6 * e, _, by (first | assumption | (simp only [z_nat, z_lit, ← Int32.ofInt_add, ← Int32.ofInt_sub, ← Int32.ofInt_mul]; exact congrArg Int32.ofInt (by omega)) | (simp only [z_nat, z_lit, ← Int32.ofInt_add, ← Int32.ofInt_sub, ← Int32.ofInt_mul]; done) | exact congrArg Int32.ofInt (by omega) | rfl), by (dsimp only; omega), l0, ?_⟩
  refine z_eq ((t 11 (6 * e) : Int) - 1) (-1) (fun w => ?_) (fun w => ?_)
  rotate_left 1
  · rw [if_neg (by omega)] at ep
    exact k2_refuse g 3 (fun M1 hf1 g1 => ⟨z_0, h0 3 _ M1 ep hf1.mono g1⟩)
  rw [if_pos (by omega)] at ep
  have main : ∀ f r j t1 M1, r + f = t 0 0 → lsP t x len tok e (t 0 0) 0 (i + 1 + 1) t = lsP t x len tok e f r j t1 → (∀ k, ¬ k = 11 → t1 k = t k) → (∀ s, s < 36 → t1 11 s ≤ 10) → q_fs [33] fTk M M1 → g_ct M1 x len tok T j → (∀ s, s < 36 → M1.1 33 s = Int32.ofInt ((t1 11 s : Int) - 1)) → ∀ u2 u l4, u2 = nI (6 * e) → u = nI r → q_G q_mt (L, xs, q_shp) E nX3_readList (d + 4) 0 0 (q_Q (L, xs, q_shp) E Q) 48 [some (.ref 42), some (.int (nI e)), some (.int (u2)), some (.int (u)), l4] [] M1 := by
    intro f
    induction f with
    | zero =>
      rintro r j t1 M1 hg ef hr hb1 hf1 g1 hL u2 u l4 rfl rfl
      obtain rfl : r = t 0 0 := by omega
      have c0 : M1.1 24 0 = nI (t 0 0) := (hf1.p1 24 0).trans h.1.1
      refine w_at 90 [48] ?_
      refine ⟨_, c0, ?_⟩
      exact z_le (t 0 0 : Int) (t 0 0) (fun _ => ⟨z_1, h1 t1 j M1 (ep.trans ef) hf1.mono g1 (h.list hL hr hf1)⟩) (fun z => by omega)
    | succ f ih =>
      rintro r j t1 M1 hg ef hr hb1 hf1 g1 hL u2 u l4 rfl rfl
      have c0 : M1.1 24 0 = nI (t 0 0) := (hf1.p1 24 0).trans h.1.1
      have k5 := g1.tt.k5 j
      have s1 := (fnE_s (t := t) (x := x) (len := len) (o := 0) (N := t 5 0) (j := j)).1
      have ef : lsP t x len tok e (t 0 0) 0 (i + 1 + 1) t = if (tok j).1 = 2 then (if fnE t x len 0 (t 5 0) j < t 5 0 ∧ ∀ r', r' < r → ¬ t1 11 (6 * e + r') = fnE t x len 0 (t 5 0) j + 1 then lsP t x len tok e f (r + 1) (j + 1) (upT t1 11 (6 * e + r) (fnE t x len 0 (t 5 0) j + 1)) else .inl (3, j)) else .inl (1, j) := ef
      have dc1 : dC M1 t1 := h.list hL hr hf1
      have eN : ∀ {e' : Nat}, n5 t1 e' = n5 t e' := fun {e'} => n5_eq (by rw [hr 30 (by omega)]) (hr _ (by omega))
      refine w_at 90 [48] ?_
      refine ⟨_, c0, ?_⟩
      refine z_le (t 0 0 : Int) r (fun z => by omega) (fun _ => ?_)
      refine ⟨_, g1.k.1, ?_⟩
      refine z_eq ((tok j).1 : Int) 2 (fun z => ?_) (fun z => ?_)
      · have z : (tok j).1 = 2 := by omega
        rw [if_pos z] at ef
        have bn1 : bNm t1 := ⟨fun i' hi' => by rw [hr 5 (by omega)] at hi'; exact nmO_eq (by rw [hr 30 (by omega)]) (hr _ (by omega)) (bn.1 i' hi'), fun i' hi' => by rw [hr 8 (by omega)] at hi'; exact nmO_eq (by rw [hr 30 (by omega)]) (hr _ (by omega)) (bn.2 i' hi')⟩
        have fe : fnE t1 x len 0 (t1 5 0) j = fnE t x len 0 (t 5 0) j := by
          unfold fnE
          rw [hr 5 (by omega)]
          congr 1
          funext e'
          rw [eN]
        refine ⟨_, g1.k.nm z, ?_⟩
        refine k2_findDiveD g1 z dc1 (by rw [hr 5 (by omega)]; exact d10) bn1 rfl (fun y => ?_) (fun y => ?_)
        · rw [fe, hr 5 (by omega)] at y
          rw [fe]
          refine z_eq (fnE t x len 0 (t 5 0) j : Int) (-1) (fun w => by omega) (fun _ => ?_)
          refine k2_isListed (e := e) (r := r) (dv := fnE t x len 0 (t 5 0) j) (by omega) (by omega) (by omega) hL hb1 (fun w => br_f (by decide) ?_) (fun w => br_t (by decide) ?_)
          · rw [if_neg (fun w' => w w'.2)] at ef
            exact k2_refuse g1 3 (fun M2 hf2 g2 => ⟨z_0, h0 3 _ M2 (ep.trans ef) (hf1.mono.tr hf2.mono) g2⟩)
          · rw [if_pos ⟨y, w⟩] at ef
            refine ⟨6 * e + r, _, by (first | assumption | (simp only [z_nat, z_lit, ← Int32.ofInt_add, ← Int32.ofInt_sub, ← Int32.ofInt_mul]; exact congrArg Int32.ofInt (by omega)) | (simp only [z_nat, z_lit, ← Int32.ofInt_add, ← Int32.ofInt_sub, ← Int32.ofInt_mul]; done) | exact congrArg Int32.ofInt (by omega) | rfl), by (dsimp only; omega), rfl, ?_⟩
            have hf3 : q_fs [33] [] M1 (q_si M1 33 (6 * e + r) (nI (fnE t x len 0 (t 5 0) j))) := q_fs.rf.s1
            refine k2_adv (g1.fs hf3) (by omega) (fun M4 hf4 g4 => ?_)
            refine ih (r + 1) (j + 1) _ M4 (by omega) ef (fun k hk => by rw [upT_r hk]; exact hr k hk) (fun s hs => ?_) ((hf1.tr hf3.mono).tr hf4.mono) g4.2 (fun s hs => ?_) _ _ _ rfl (by (first | assumption | (simp only [z_nat, z_lit, ← Int32.ofInt_add, ← Int32.ofInt_sub, ← Int32.ofInt_mul]; exact congrArg Int32.ofInt (by omega)) | (simp only [z_nat, z_lit, ← Int32.ofInt_add, ← Int32.ofInt_sub, ← Int32.ofInt_mul]; done) | exact congrArg Int32.ofInt (by omega) | rfl))
            · by_cases q : s = 6 * e + r
              · subst q
                rw [upT_s]
                omega
              · rw [upT_n (fun w => q w.2)]
                exact hb1 s hs
            · by_cases q : s = 6 * e + r
              · subst q
                rw [upT_s]
                refine (hf4.p1 33 _).trans (q_si_s.trans ?_)
                (first | assumption | (simp only [z_nat, z_lit, ← Int32.ofInt_add, ← Int32.ofInt_sub, ← Int32.ofInt_mul]; exact congrArg Int32.ofInt (by omega)) | (simp only [z_nat, z_lit, ← Int32.ofInt_add, ← Int32.ofInt_sub, ← Int32.ofInt_mul]; done) | exact congrArg Int32.ofInt (by omega) | rfl)
              · rw [upT_n (fun w => q w.2)]
                exact (hf4.p1 33 _).trans ((q_si_n q).trans (hL s hs))
        · rw [fe, hr 5 (by omega)] at y
          rw [if_neg (fun w => y w.1)] at ef
          refine z_eq (-1) (-1) (fun _ => ?_) (fun w => absurd rfl w)
          exact k2_refuse g1 3 (fun M2 hf2 g2 => ⟨z_0, h0 3 _ M2 (ep.trans ef) (hf1.mono.tr hf2.mono) g2⟩)
      · rw [if_neg (by omega)] at ef
        exact k2_refuse g1 1 (fun M2 hf2 g2 => ⟨z_0, h0 1 _ M2 (ep.trans ef) (hf1.mono.tr hf2.mono) g2⟩)
  refine k2_adv g (by omega) (fun M1 hf1 g1 => ?_)
  exact main (t 0 0) 0 (i + 1 + 1) t M1 (by omega) rfl (fun _ _ => rfl) b11 hf1.mono g1.2 (fun s hs => (hf1.p1 33 s).trans (h.2.1 s hs)) _ _ _ (by (first | assumption | (simp only [z_nat, z_lit, ← Int32.ofInt_add, ← Int32.ofInt_sub, ← Int32.ofInt_mul]; exact congrArg Int32.ofInt (by omega)) | (simp only [z_nat, z_lit, ← Int32.ofInt_add, ← Int32.ofInt_sub, ← Int32.ofInt_mul]; done) | exact congrArg Int32.ofInt (by omega) | rfl)) rfl
set_option maxRecDepth 100000 in
set_option maxHeartbeats 4000000 in
theorem k_isListed {e r dv : Nat} {t1 : q_T} {a b c : Int32} (he : e < 6) (hr : r ≤ 6) (hd : dv < 10) (hL : ∀ r', r' < r → M.1 279 (62 + 6 * e + r') = Int32.ofInt ((t1 11 (6 * e + r') : Int) - 1)) (hb : ∀ s, s < 36 → t1 11 s ≤ 10) (h1 : (¬ ∀ r', r' < r → ¬ t1 11 (6 * e + r') = dv + 1) → Q (some (.int 1)) M) (h0 : (∀ r', r' < r → ¬ t1 11 (6 * e + r') = dv + 1) → Q (some (.int 0)) M) (ha : a = nI e := by (first | assumption | (simp only [z_nat, z_lit, ← Int32.ofInt_add, ← Int32.ofInt_sub, ← Int32.ofInt_mul]; exact congrArg Int32.ofInt (by omega)) | (simp only [z_nat, z_lit, ← Int32.ofInt_add, ← Int32.ofInt_sub, ← Int32.ofInt_mul]; done) | exact congrArg Int32.ofInt (by omega) | rfl)) (hbb : b = nI r := by (first | assumption | (simp only [z_nat, z_lit, ← Int32.ofInt_add, ← Int32.ofInt_sub, ← Int32.ofInt_mul]; exact congrArg Int32.ofInt (by omega)) | (simp only [z_nat, z_lit, ← Int32.ofInt_add, ← Int32.ofInt_sub, ← Int32.ofInt_mul]; done) | exact congrArg Int32.ofInt (by omega) | rfl)) (hc : c = nI dv := by (first | assumption | (simp only [z_nat, z_lit, ← Int32.ofInt_add, ← Int32.ofInt_sub, ← Int32.ofInt_mul]; exact congrArg Int32.ofInt (by omega)) | (simp only [z_nat, z_lit, ← Int32.ofInt_add, ← Int32.ofInt_sub, ← Int32.ofInt_mul]; done) | exact congrArg Int32.ofInt (by omega) | rfl)) : q_C q_mt (L, xs, q_shp) E nX12_isListed (d) 0 0 [.ref 271, .int (a), .int (b), .int (c)] M Q := by
  subst ha hbb hc
  have W := lp_up (W := fun k => (∀ r', r' < k → ¬ t1 11 (6 * e + r') = dv + 1) → ∀ u, u = nI k → q_G q_mt (L, xs, q_shp) E nX12_isListed (d) 0 0 (q_Q (L, xs, q_shp) E Q) 3 [some (.ref 271), some (.int (nI e)), some (.int (nI r)), some (.int (nI dv)), some (.int (u))] [] M) r ?_ ?_ 0 (Nat.zero_le _)
  · refine w_in 90 [3] ?_
    exact W (fun r' hr' => absurd hr' (Nat.not_lt_zero _)) _ rfl
  · rintro hj u rfl
    refine w_at 90 [3] ?_
    exact z_le (r : Int) r (fun _ => ⟨z_0, h0 hj⟩) (fun z => by omega)
  · rintro k hk ih hj u rfl
    have bb := hb (6 * e + k) (by omega)
    have ll := hL k hk
    refine w_at 90 [3] ?_
    refine z_le (r : Int) k (fun z => by omega) (fun _ => ?_)
    refine ⟨62 + 6 * e + k, _, by (first | assumption | (simp only [z_nat, z_lit, ← Int32.ofInt_add, ← Int32.ofInt_sub, ← Int32.ofInt_mul]; exact congrArg Int32.ofInt (by omega)) | (simp only [z_nat, z_lit, ← Int32.ofInt_add, ← Int32.ofInt_sub, ← Int32.ofInt_mul]; done) | exact congrArg Int32.ofInt (by omega) | rfl), by (dsimp only; omega), ll, ?_⟩
    refine z_ne ((t1 11 (6 * e + k) : Int) - 1) dv (fun z => ?_) (fun z => ⟨z_1, h1 (fun y => y k hk (by omega))⟩)
    refine ih (fun r' hr' y => ?_) _ (by (first | assumption | (simp only [z_nat, z_lit, ← Int32.ofInt_add, ← Int32.ofInt_sub, ← Int32.ofInt_mul]; exact congrArg Int32.ofInt (by omega)) | (simp only [z_nat, z_lit, ← Int32.ofInt_add, ← Int32.ofInt_sub, ← Int32.ofInt_mul]; done) | exact congrArg Int32.ofInt (by omega) | rfl))
    by_cases q : r' = k
    · subst q
      omega
    · exact hj r' (by omega) y
-- a fault that leaves the place
set_option maxRecDepth 100000 in
set_option maxHeartbeats 4000000 in
theorem k_wrongs8 {i : Nat} (g : g_rt M x len tok T i) {a : Int32} (k : Nat) (hk : 1 ≤ k ∧ k ≤ 5) (hQ : ∀ M', q_fs [] [(271, 9), (271, 10)] M M' → g_rb M' x len tok T k i → Q none M') (ha : a = nI k := by (first | assumption | (simp only [z_nat, z_lit, ← Int32.ofInt_add, ← Int32.ofInt_sub, ← Int32.ofInt_mul]; exact congrArg Int32.ofInt (by omega)) | (simp only [z_nat, z_lit, ← Int32.ofInt_add, ← Int32.ofInt_sub, ← Int32.ofInt_mul]; done) | exact congrArg Int32.ofInt (by omega) | rfl)) : q_C q_mt (L, xs, q_shp) E nX12_wrongs (d + 1) 0 0 [.ref 271, .int (a)] M Q := by
  subst ha
  have i12 := g.i12
  have ht := g.k.1
  refine w_in 90 [] ?_
  refine ⟨_, g.2.2.1, ?_⟩
  refine ⟨i, _, by (first | assumption | (simp only [z_nat, z_lit, ← Int32.ofInt_add, ← Int32.ofInt_sub, ← Int32.ofInt_mul]; exact congrArg Int32.ofInt (by omega)) | (simp only [z_nat, z_lit, ← Int32.ofInt_add, ← Int32.ofInt_sub, ← Int32.ofInt_mul]; done) | exact congrArg Int32.ofInt (by omega) | rfl), by (dsimp only; omega), ht, ?_⟩
  refine w_in 90 [] ?_
  refine ⟨_, g.2.2.2.1, ?_⟩
  refine z_ne 0 0 (fun z => absurd rfl z) (fun _ => ?_)
  refine ⟨_, rfl, ?_⟩
  refine ⟨_, rfl, ?_⟩
  have hf : q_fs [] [(271, 9), (271, 10)] M (q_si (q_si M 271 9 (nI k)) 271 10 (nI (tkS x len i))) := q_fs.rf.s1.s1
  exact hQ _ hf ⟨g.1.fs hf, hk, ⟨i, g.2.2.1, i12⟩, rfl, rfl⟩
set_option maxRecDepth 100000 in
set_option maxHeartbeats 4000000 in
theorem k_entrantHere8 {i : Nat} (g : g_rt M x len tok T i) (dr : dR M t) (bt : b_T t) (bn : bNm t) (h1 : ∀ e, etP t x len tok i = .inr (e, i) → (tok i).1 = 2 → e < t 8 0 → Q (some (.int (nI e))) M) (h0 : ∀ k M', etP t x len tok i = .inl (k, i) → q_fs [] [(271, 9), (271, 10)] M M' → g_rb M' x len tok T k i → Q (some (.int (Int32.ofInt (-1)))) M') : q_C q_mt (L, xs, q_shp) E nX12_entrantHere (d + 2) 0 0 [.ref 271] M Q := by
  have i12 := g.i12
  have e6 := bt.2.2.2.2.1
  have s2 := (fnE_s (t := t) (x := x) (len := len) (o := 10) (N := t 8 0) (j := i)).1
  obtain ⟨nD, nE⟩ := dr.nmO (e := 0) bn
  refine w_in 90 [] ?_
  refine k_isFine1 g.2.2.2.1 (bn_t (by decide) ?_)
  refine k_isNameHere g (fun z => bn_t (by decide) ?_) (fun z => bn_f rfl ?_)
  · have ep : etP t x len tok i = if fnE t x len 10 (t 8 0) i < t 8 0 then .inr (fnE t x len 10 (t 8 0) i, i) else .inl (3, i) := if_pos z
    have e76 := (g.k.2.2.2.1 z).2.1
    refine ⟨4, _, by (first | assumption | (simp only [z_nat, z_lit, ← Int32.ofInt_add, ← Int32.ofInt_sub, ← Int32.ofInt_mul]; exact congrArg Int32.ofInt (by omega)) | (simp only [z_nat, z_lit, ← Int32.ofInt_add, ← Int32.ofInt_sub, ← Int32.ofInt_mul]; done) | exact congrArg Int32.ofInt (by omega) | rfl), by (dsimp only; omega), dr.1.2.2.2.2.1, ?_⟩
    refine ⟨_, g.2.2.1, ?_⟩
    refine ⟨i, _, by (first | assumption | (simp only [z_nat, z_lit, ← Int32.ofInt_add, ← Int32.ofInt_sub, ← Int32.ofInt_mul]; exact congrArg Int32.ofInt (by omega)) | (simp only [z_nat, z_lit, ← Int32.ofInt_add, ← Int32.ofInt_sub, ← Int32.ofInt_mul]; done) | exact congrArg Int32.ofInt (by omega) | rfl), by (dsimp only; omega), e76, ?_⟩
    refine k_draftNamed g z (o := 10) (by omega) nE rfl (fun y => ?_) (fun y => ?_)
    · rw [if_pos y] at ep
      exact z_ne (fnE t x len 10 (t 8 0) i : Int) (-1) (fun _ => ⟨_, rfl, h1 _ ep z y⟩) (fun w => by omega)
    · rw [if_neg y] at ep
      refine z_ne (-1) (-1) (fun w => absurd rfl w) (fun _ => ?_)
      exact k_wrongs8 g 3 (by omega) (fun M' hf g' => ⟨_, rfl, h0 3 M' ep hf g'⟩)
  · have ep : etP t x len tok i = .inl (1, i) := if_neg z
    exact k_wrongs8 g 1 (by omega) (fun M' hf g' => ⟨_, rfl, h0 1 M' ep hf g'⟩)
/-- how far the text goes behind a word of four letters -/
theorem far4 {i : Nat} (hT : g_T x len tok T) (hi : i ≤ T) (e : tok i = (1, 12)) : T ≤ 1197 := by
  have l := hT.lt hi (by rw [e]; decide)
  have a := hT.2.1 i
  rw [e] at a
  obtain ⟨a1, a2, a3⟩ := a.wd
  have l4 := (a3.len (fun p hp => lt_tk a1 a2 hp)).1
  have k4 : lxK 12 = 4 := by decide
  have s := tk_step a1
  have le := hT.le (i := i) (by omega)
  have far := hT.far (i := i + 1) (j := T) (by omega) (Nat.le_refl _)
  have t1 := hT.1.1
  have t2 := hT.2.2.2.1
  omega
set_option maxRecDepth 100000 in
set_option maxHeartbeats 4000000 in
theorem k_readsList {i : Nat} (g : g_rt M x len tok T i) (e12 : tok i = (1, 12)) (h : dR M t) (bt : b_T t) (bn : bNm t) (c255 : ∀ l, l < t 17 0 → t 18 l ≤ 255) (b11 : ∀ s, s < 36 → t 11 s ≤ 10) (h1 : ∀ t' j M', listP t x len tok i = .inr (t', j) → q_fs lDq fDq M M' → g_rt M' x len tok T j → dR M' t' → M'.1 279 7 = M.1 279 7 → Q none M') (h0 : ∀ k j M', listP t x len tok i = .inl (k, j) → q_fs lDq fDq M M' → g_rb M' x len tok T k j → M'.1 279 7 = M.1 279 7 → Q none M') : q_C q_mt (L, xs, q_shp) E nX12_readsList (d + 4) 0 0 [.ref 271] M Q := by
  have i12 := g.i12
  have e6 := bt.2.2.2.2.1
  have d10 := bt.2.2.2.1
  have r6 := bt.1
  have nf : ¬ (tok i).1 = 0 := tk_n0 e12 (by decide)
  have lT := g.tt.lt g.2.1 nf
  have t97 := far4 g.tt g.2.1 e12
  have g1 : g_rt (q_si M 271 8 (nI (i + 1))) x len tok T (i + 1) := g.nx nf rfl
  have hf1 : q_fs [] [(271, 8)] M (q_si M 271 8 (nI (i + 1))) := q_fs.rf.s1
  have dr1 : dR (q_si M 271 8 (nI (i + 1))) t := h.eq (hf1.c1 279) (hf1.c2 281)
  -- behind a fault
  have bad : ∀ k j r M1, r ≤ 6 → listP t x len tok i = .inl (k, j) → q_fs lDq fDq M M1 → (∀ q, ¬ (62 ≤ q ∧ q < 98) → M1.1 279 q = M.1 279 q) → g_rb M1 x len tok T k j → ∀ l1 u l3, u = nI r → q_G q_mt (L, xs, q_shp) E nX12_readsList (d + 4) 0 0 (q_Q (L, xs, q_shp) E Q) 55 [some (.ref 271), l1, some (.int (u)), l3] [] M1 := by
    rintro k j r M1 hr ek hf ho g' l1 u l3 rfl
    have c0 : M1.1 279 0 = nI (t 0 0) := (ho 0 (by omega)).trans h.1.1
    refine w_at 90 [55] ?_
    refine ⟨0, _, by (first | assumption | (simp only [z_nat, z_lit, ← Int32.ofInt_add, ← Int32.ofInt_sub, ← Int32.ofInt_mul]; exact congrArg Int32.ofInt (by omega)) | (simp only [z_nat, z_lit, ← Int32.ofInt_add, ← Int32.ofInt_sub, ← Int32.ofInt_mul]; done) | exact congrArg Int32.ofInt (by omega) | rfl), by (dsimp only; omega), c0, ?_⟩
    refine z_le (t 0 0 : Int) r (fun _ => h0 k j M1 ek hf g' (ho 7 (by omega))) (fun _ => ?_)
    exact k_isFine0 g'.2.2.2.1 g'.2.1 (br_t (by decide) (h0 k j M1 ek hf g' (ho 7 (by omega))))
  -- the step behind the entrant, behind a fault
  have badE : ∀ k M1, listP t x len tok i = .inl (k, i + 1) → q_fs [] [(271, 9), (271, 10)] (q_si M 271 8 (nI (i + 1))) M1 → g_rb M1 x len tok T k (i + 1) → M1.1 271 8 = nI (i + 1) ∧ ∀ l1 l3, q_G q_mt (L, xs, q_shp) E nX12_readsList (d + 4) 0 0 (q_Q (L, xs, q_shp) E Q) 55 [some (.ref 271), l1, some (.int (Int32.ofInt 0)), l3] [] (q_si M1 271 8 (nI (i + 1 + 1))) := by
    intro k M1 ek hf g'
    have e8 : M1.1 271 8 = nI (i + 1) := (hf.p1 271 8).trans q_si_s
    refine ⟨e8, fun l1 l3 => ?_⟩
    have hf3 : q_fs [] [(271, 8)] M1 (q_si M1 271 8 (nI (i + 1 + 1))) := q_fs.rf.s1
    refine bad k (i + 1) 0 _ (by omega) ek ((hf1.mono.tr hf.mono).tr hf3.mono) (fun q _ => (hf3.p1 279 q).trans ((hf.p1 279 q).trans (hf1.p1 279 q))) ⟨g'.1.fs hf3, g'.2.1, ⟨i + 1 + 1, q_si_s, by omega⟩, (hf3.p1 271 9).trans g'.2.2.2.1, (hf3.p1 271 10).trans g'.2.2.2.2⟩ _ _ _ rfl
  refine w_in 90 [55] ?_
  refine ⟨_, g.2.2.1, ?_⟩
  refine ⟨nI (i + 1), by (first | assumption | (simp only [z_nat, z_lit, ← Int32.ofInt_add, ← Int32.ofInt_sub, ← Int32.ofInt_mul]; exact congrArg Int32.ofInt (by omega)) | (simp only [z_nat, z_lit, ← Int32.ofInt_add, ← Int32.ofInt_sub, ← Int32.ofInt_mul]; done) | exact congrArg Int32.ofInt (by omega) | rfl), ?_⟩
  refine k_entrantHere8 g1 dr1 bt bn (fun e ne z2 he => ?_) (fun k M2 nk hf2 g2 => ?_)
  rotate_left 1
  · obtain ⟨e8, hb⟩ := badE k M2 (bd_no nk) hf2 g2
    refine k_isFine0 g2.2.2.2.1 g2.2.1 (br_t (by decide) ?_)
    refine ⟨_, e8, ?_⟩
    refine ⟨nI (i + 1 + 1), by (first | assumption | (simp only [z_nat, z_lit, ← Int32.ofInt_add, ← Int32.ofInt_sub, ← Int32.ofInt_mul]; exact congrArg Int32.ofInt (by omega)) | (simp only [z_nat, z_lit, ← Int32.ofInt_add, ← Int32.ofInt_sub, ← Int32.ofInt_mul]; done) | exact congrArg Int32.ofInt (by omega) | rfl), ?_⟩
    exact hb _ _
  have ep : listP t x len tok i = if t 11 (6 * e) = 0 then lsP t x len tok e (t 0 0) 0 (i + 1 + 1) t else .inl (3, i + 1) := bd_ok ne
  have l0 : (q_si M 271 8 (nI (i + 1))).1 279 (62 + 6 * e) = Int32.ofInt ((t 11 (6 * e) : Int) - 1) := (hf1.p1 279 _).trans (h.2.1 e he).1
  have b0 := b11 (6 * e) (by omega)
  refine k_isFine1 g1.2.2.2.1 (br_f (by decide) ?_)
  refine ⟨62 + 6 * e, _, by (first | assumption | (simp only [z_nat, z_lit, ← Int32.ofInt_add, ← Int32.ofInt_sub, ← Int32.ofInt_mul]; exact congrArg Int32.ofInt (by omega)) | (simp only [z_nat, z_lit, ← Int32.ofInt_add, ← Int32.ofInt_sub, ← Int32.ofInt_mul]; done) | exact congrArg Int32.ofInt (by omega) | rfl), by (dsimp only; omega), l0, ?_⟩
  refine z_eq ((t 11 (6 * e) : Int) - 1) (-1) (fun w => ?_) (fun w => ?_)
  rotate_left 1
  · rw [if_neg (by omega)] at ep
    refine k_wrongs8 g1 3 (by omega) (fun M2 hf2 g2 => ?_)
    obtain ⟨e8, hb⟩ := badE 3 M2 ep hf2 g2
    refine ⟨_, e8, ?_⟩
    refine ⟨nI (i + 1 + 1), by (first | assumption | (simp only [z_nat, z_lit, ← Int32.ofInt_add, ← Int32.ofInt_sub, ← Int32.ofInt_mul]; exact congrArg Int32.ofInt (by omega)) | (simp only [z_nat, z_lit, ← Int32.ofInt_add, ← Int32.ofInt_sub, ← Int32.ofInt_mul]; done) | exact congrArg Int32.ofInt (by omega) | rfl), ?_⟩
    exact hb _ _
  rw [if_pos (by omega)] at ep
  have main : ∀ f r j t1 M1, r + f = t 0 0 → lsP t x len tok e (t 0 0) 0 (i + 1 + 1) t = lsP t x len tok e f r j t1 → (∀ k, ¬ k = 11 → t1 k = t k) → (∀ s, s < 36 → t1 11 s ≤ 10) → (∀ s, ¬ (6 * e ≤ s ∧ s < 6 * e + 6) → t1 11 s = t 11 s) → q_fs lDq fDq M M1 → g_rt M1 x len tok T j → (∀ r', r' < r → M1.1 279 (62 + 6 * e + r') = Int32.ofInt ((t1 11 (6 * e + r') : Int) - 1)) → (r = 0 → t1 11 (6 * e) = 0 ∧ M1.1 279 (62 + 6 * e) = Int32.ofInt (-1)) → (∀ q, ¬ (62 + 6 * e ≤ q ∧ q < 68 + 6 * e) → M1.1 279 q = M.1 279 q) → (∀ q, M1.2 281 q = M.2 281 q) → ∀ u l3, u = nI r → q_G q_mt (L, xs, q_shp) E nX12_readsList (d + 4) 0 0 (q_Q (L, xs, q_shp) E Q) 55 [some (.ref 271), some (.int (nI e)), some (.int (u)), l3] [] M1 := by
    intro f
    induction f with
    | zero =>
      rintro r j t1 M1 hg ef hr hb1 hout hf g' hL hz ho hm u l3 rfl
      obtain rfl : r = t 0 0 := by omega
      have c0 : M1.1 279 0 = nI (t 0 0) := (ho 0 (by omega)).trans h.1.1
      refine w_at 90 [55] ?_
      refine ⟨0, _, by (first | assumption | (simp only [z_nat, z_lit, ← Int32.ofInt_add, ← Int32.ofInt_sub, ← Int32.ofInt_mul]; exact congrArg Int32.ofInt (by omega)) | (simp only [z_nat, z_lit, ← Int32.ofInt_add, ← Int32.ofInt_sub, ← Int32.ofInt_mul]; done) | exact congrArg Int32.ofInt (by omega) | rfl), by (dsimp only; omega), c0, ?_⟩
      refine z_le (t 0 0 : Int) (t 0 0) (fun _ => ?_) (fun z => by omega)
      refine h1 t1 j M1 (ep.trans ef) hf g' (h.list bt c255 (fun e' he' => ?_) hr (fun q hq => ho q (by omega)) (fun q _ => hm q)) (ho 7 (by omega))
      by_cases q : e' = e
      · subst q
        by_cases q0 : t 0 0 = 0
        · obtain ⟨z1, z2⟩ := hz q0
          rw [z1]
          exact ⟨z2, fun w => absurd rfl w⟩
        · have := hL 0 (by omega)
          rw [Nat.add_zero, Nat.add_zero] at this
          exact ⟨this, fun _ r' hr' => hL r' hr'⟩
      · rw [hout (6 * e') (by omega)]
        refine ⟨(ho _ (by omega)).trans (h.2.1 e' he').1, fun w r' hr' => ?_⟩
        rw [hout (6 * e' + r') (by omega)]
        exact (ho _ (by omega)).trans ((h.2.1 e' he').2 w r' hr')
    | succ f ih =>
      rintro r j t1 M1 hg ef hr hb1 hout hf g' hL hz ho hm u l3 rfl
      have j12 := g'.i12
      have c0 : M1.1 279 0 = nI (t 0 0) := (ho 0 (by omega)).trans h.1.1
      have c3 : M1.1 279 3 = nI (t 5 0) := (ho 3 (by omega)).trans h.1.2.2.2.1
      have s1 := (fnE_s (t := t) (x := x) (len := len) (o := 0) (N := t 5 0) (j := j)).1
      have ef : lsP t x len tok e (t 0 0) 0 (i + 1 + 1) t = if (tok j).1 = 2 then (if fnE t x len 0 (t 5 0) j < t 5 0 ∧ ∀ r', r' < r → ¬ t1 11 (6 * e + r') = fnE t x len 0 (t 5 0) j + 1 then lsP t x len tok e f (r + 1) (j + 1) (upT t1 11 (6 * e + r) (fnE t x len 0 (t 5 0) j + 1)) else .inl (3, j)) else .inl (1, j) := ef
      obtain ⟨nD, nE⟩ := h.nmO (e := 0) bn
      have nD1 : ∀ e', e' < t 5 0 → nmO t (0 + e') ∧ M1.2 281 (0 + e') = Int64.ofInt (n8 t (0 + e') : Nat) := fun e' he' => ⟨(nD e' he').1, (hm _).trans (nD e' he').2⟩
      have bad1 : ∀ k M2, lsP t x len tok e (t 0 0) 0 (i + 1 + 1) t = .inl (k, j) → q_fs [] fHr M1 M2 → g_rb M2 x len tok T k j → ∀ l3 u, u = nI (r + 1) → q_G q_mt (L, xs, q_shp) E nX12_readsList (d + 4) 0 0 (q_Q (L, xs, q_shp) E Q) 55 [some (.ref 271), some (.int (nI e)), some (.int (u)), l3] [] M2 := fun k M2 ek hf2 g2 l3 u hu => bad k j (r + 1) M2 (by omega) (ep.trans ek) (hf.tr hf2.mono) (fun q hq => (hf2.p1 279 q).trans (ho q (by omega))) g2 _ _ _ hu
      refine w_at 90 [55] ?_
      refine ⟨0, _, by (first | assumption | (simp only [z_nat, z_lit, ← Int32.ofInt_add, ← Int32.ofInt_sub, ← Int32.ofInt_mul]; exact congrArg Int32.ofInt (by omega)) | (simp only [z_nat, z_lit, ← Int32.ofInt_add, ← Int32.ofInt_sub, ← Int32.ofInt_mul]; done) | exact congrArg Int32.ofInt (by omega) | rfl), by (dsimp only; omega), c0, ?_⟩
      refine z_le (t 0 0 : Int) r (fun z => by omega) (fun _ => ?_)
      refine k_isFine1 g'.2.2.2.1 (br_f (by decide) ?_)
      refine k_isNameHere g' (fun z => br_f (by decide) ?_) (fun z => br_t (by decide) ?_)
      · rw [if_pos z] at ef
        have e76 := (g'.k.2.2.2.1 z).2.1
        refine ⟨3, _, by (first | assumption | (simp only [z_nat, z_lit, ← Int32.ofInt_add, ← Int32.ofInt_sub, ← Int32.ofInt_mul]; exact congrArg Int32.ofInt (by omega)) | (simp only [z_nat, z_lit, ← Int32.ofInt_add, ← Int32.ofInt_sub, ← Int32.ofInt_mul]; done) | exact congrArg Int32.ofInt (by omega) | rfl), by (dsimp only; omega), c3, ?_⟩
        refine ⟨_, g'.2.2.1, ?_⟩
        refine ⟨j, _, by (first | assumption | (simp only [z_nat, z_lit, ← Int32.ofInt_add, ← Int32.ofInt_sub, ← Int32.ofInt_mul]; exact congrArg Int32.ofInt (by omega)) | (simp only [z_nat, z_lit, ← Int32.ofInt_add, ← Int32.ofInt_sub, ← Int32.ofInt_mul]; done) | exact congrArg Int32.ofInt (by omega) | rfl), by (dsimp only; omega), e76, ?_⟩
        refine k_draftNamed g' z (o := 0) (by omega) nD1 rfl (fun y => ?_) (fun y => ?_)
        · refine k_isNameHere g' (fun _ => bn_t (by decide) ?_) (fun w => absurd z w)
          refine z_eq (fnE t x len 0 (t 5 0) j : Int) (-1) (fun w => by omega) (fun _ => ?_)
          refine k_isListed (e := e) (r := r) (dv := fnE t x len 0 (t 5 0) j) (by omega) (by omega) (by omega) hL hb1 (fun w => br_f (by decide) ?_) (fun w => br_t (by decide) ?_)
          · rw [if_neg (fun w' => w w'.2)] at ef
            exact k_wrongs g' 3 (by omega) (fun M2 hf2 g2 => bad1 3 M2 ef hf2 g2 _ _ (by (first | assumption | (simp only [z_nat, z_lit, ← Int32.ofInt_add, ← Int32.ofInt_sub, ← Int32.ofInt_mul]; exact congrArg Int32.ofInt (by omega)) | (simp only [z_nat, z_lit, ← Int32.ofInt_add, ← Int32.ofInt_sub, ← Int32.ofInt_mul]; done) | exact congrArg Int32.ofInt (by omega) | rfl)))
          · rw [if_pos ⟨y, w⟩] at ef
            refine ⟨62 + 6 * e + r, _, by (first | assumption | (simp only [z_nat, z_lit, ← Int32.ofInt_add, ← Int32.ofInt_sub, ← Int32.ofInt_mul]; exact congrArg Int32.ofInt (by omega)) | (simp only [z_nat, z_lit, ← Int32.ofInt_add, ← Int32.ofInt_sub, ← Int32.ofInt_mul]; done) | exact congrArg Int32.ofInt (by omega) | rfl), by (dsimp only; omega), rfl, ?_⟩
            refine ⟨_, g'.2.2.1, ?_⟩
            refine ⟨nI (j + 1), by (first | assumption | (simp only [z_nat, z_lit, ← Int32.ofInt_add, ← Int32.ofInt_sub, ← Int32.ofInt_mul]; exact congrArg Int32.ofInt (by omega)) | (simp only [z_nat, z_lit, ← Int32.ofInt_add, ← Int32.ofInt_sub, ← Int32.ofInt_mul]; done) | exact congrArg Int32.ofInt (by omega) | rfl), ?_⟩
            have hf3 : q_fs [279] [] M1 (q_si M1 279 (62 + 6 * e + r) (nI (fnE t x len 0 (t 5 0) j))) := q_fs.rf.s1
            have hf4 : q_fs [279] [(271, 8)] M1 (q_si (q_si M1 279 (62 + 6 * e + r) (nI (fnE t x len 0 (t 5 0) j))) 271 8 (nI (j + 1))) := q_fs.rf.s1.s1
            refine ih (r + 1) (j + 1) _ _ (by omega) ef (fun k hk => by rw [upT_r hk]; exact hr k hk) (fun s hs => ?_) (fun s hs => ?_) (hf.tr hf4.mono) ((g'.fs hf3).nx (by omega) rfl) (fun r' hr' => ?_) (fun w => by omega) (fun q hq => ?_) (fun q => (hf4.p2 281 q).trans (hm q)) _ _ (by (first | assumption | (simp only [z_nat, z_lit, ← Int32.ofInt_add, ← Int32.ofInt_sub, ← Int32.ofInt_mul]; exact congrArg Int32.ofInt (by omega)) | (simp only [z_nat, z_lit, ← Int32.ofInt_add, ← Int32.ofInt_sub, ← Int32.ofInt_mul]; done) | exact congrArg Int32.ofInt (by omega) | rfl))
            · by_cases q : s = 6 * e + r
              · subst q
                rw [upT_s]
                omega
              · rw [upT_n (fun w => q w.2)]
                exact hb1 s hs
            · rw [upT_n (by omega)]
              exact hout s hs
            · by_cases q : r' = r
              · subst q
                rw [upT_s]
                refine (q_si_nn (by omega)).trans (q_si_s.trans ?_)
                (first | assumption | (simp only [z_nat, z_lit, ← Int32.ofInt_add, ← Int32.ofInt_sub, ← Int32.ofInt_mul]; exact congrArg Int32.ofInt (by omega)) | (simp only [z_nat, z_lit, ← Int32.ofInt_add, ← Int32.ofInt_sub, ← Int32.ofInt_mul]; done) | exact congrArg Int32.ofInt (by omega) | rfl)
              · rw [upT_n (by omega)]
                exact (q_si_nn (by omega)).trans ((q_si_n (by omega)).trans (hL r' (by omega)))
            · exact (q_si_nn (by omega)).trans ((q_si_n (by omega)).trans (ho q hq))
        · rw [if_neg (fun w => y w.1)] at ef
          refine k_isNameHere g' (fun _ => bn_t (by decide) ?_) (fun w => absurd z w)
          refine z_eq (-1) (-1) (fun _ => ?_) (fun w => absurd rfl w)
          exact k_wrongs g' 3 (by omega) (fun M2 hf2 g2 => bad1 3 M2 ef hf2 g2 _ _ (by (first | assumption | (simp only [z_nat, z_lit, ← Int32.ofInt_add, ← Int32.ofInt_sub, ← Int32.ofInt_mul]; exact congrArg Int32.ofInt (by omega)) | (simp only [z_nat, z_lit, ← Int32.ofInt_add, ← Int32.ofInt_sub, ← Int32.ofInt_mul]; done) | exact congrArg Int32.ofInt (by omega) | rfl)))
      · rw [if_neg z] at ef
        refine k_isNameHere g' (fun w => absurd w z) (fun _ => bn_f rfl ?_)
        exact k_wrongs g' 1 (by omega) (fun M2 hf2 g2 => bad1 1 M2 ef hf2 g2 _ _ (by (first | assumption | (simp only [z_nat, z_lit, ← Int32.ofInt_add, ← Int32.ofInt_sub, ← Int32.ofInt_mul]; exact congrArg Int32.ofInt (by omega)) | (simp only [z_nat, z_lit, ← Int32.ofInt_add, ← Int32.ofInt_sub, ← Int32.ofInt_mul]; done) | exact congrArg Int32.ofInt (by omega) | rfl)))
  have i13 := g1.i12
  refine ⟨_, g1.2.2.1, ?_⟩
  refine ⟨nI (i + 1 + 1), by (first | assumption | (simp only [z_nat, z_lit, ← Int32.ofInt_add, ← Int32.ofInt_sub, ← Int32.ofInt_mul]; exact congrArg Int32.ofInt (by omega)) | (simp only [z_nat, z_lit, ← Int32.ofInt_add, ← Int32.ofInt_sub, ← Int32.ofInt_mul]; done) | exact congrArg Int32.ofInt (by omega) | rfl), ?_⟩
  have g2 := g1.nx (v := nI (i + 1 + 1)) (by omega) rfl
  have hf2 : q_fs [] [(271, 8)] M (q_si (q_si M 271 8 (nI (i + 1))) 271 8 (nI (i + 1 + 1))) := q_fs.rf.s1.s1
  refine main (t 0 0) 0 (i + 1 + 1) t _ (by omega) rfl (fun _ _ => rfl) b11 (fun _ _ => rfl) hf2.mono g2 (fun r' hr' => by omega) (fun _ => ⟨by omega, ?_⟩) (fun q _ => hf2.p1 279 q) (fun q => hf2.p2 281 q) _ _ rfl
  refine (hf2.p1 279 _).trans ((h.2.1 e he).1.trans ?_)
  rw [w]
end LI
