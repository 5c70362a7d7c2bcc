/-! bribes: the class -/
section BC
variable {L : Nat} {xs : Nat → Int32} {E : q_E} {d : Nat} {M : q_M} {t : q_T} {n : sN} {Q : Option Value → q_M → Prop} {P : q_M → Prop}
/-- places and marks, laid -/
def bPl (M : q_M) (t : q_T) (n : sN) (e r : Nat) : Prop := ∀ i, i < t 2 0 → M.1 268 i = nI (plm t n e r i) ∧ M.1 269 i = Int32.ofInt (mk n e r i)
set_option maxRecDepth 100000 in
set_option maxHeartbeats 4000000 in
theorem k2_bribe (k : g_K M t) {e r : Nat} (hp : bPl M t n e r) {a b c : Int32} (x y z : Nat) (hx : x ≤ 11) (hy : y ≤ 11) (hz : z ≤ 11) (hQ : ∀ M', q_fs [239] [] M M' → (∀ i, i < t 2 0 → M'.1 239 i = Int32.ofInt (mB n e r (bL t n e r x y z) i)) → Q none M') (ha : a = nI x := by (first | assumption | (simp only [z_nat, z_lit, ← Int32.ofInt_add, ← Int32.ofInt_sub, ← Int32.ofInt_mul]; exact congrArg Int32.ofInt (by omega)) | (simp only [z_nat, z_lit, ← Int32.ofInt_add, ← Int32.ofInt_sub, ← Int32.ofInt_mul]; done) | exact congrArg Int32.ofInt (by omega) | rfl)) (hb : b = nI y := by (first | assumption | (simp only [z_nat, z_lit, ← Int32.ofInt_add, ← Int32.ofInt_sub, ← Int32.ofInt_mul]; exact congrArg Int32.ofInt (by omega)) | (simp only [z_nat, z_lit, ← Int32.ofInt_add, ← Int32.ofInt_sub, ← Int32.ofInt_mul]; done) | exact congrArg Int32.ofInt (by omega) | rfl)) (hc : c = nI z := by (first | assumption | (simp only [z_nat, z_lit, ← Int32.ofInt_add, ← Int32.ofInt_sub, ← Int32.ofInt_mul]; exact congrArg Int32.ofInt (by omega)) | (simp only [z_nat, z_lit, ← Int32.ofInt_add, ← Int32.ofInt_sub, ← Int32.ofInt_mul]; done) | exact congrArg Int32.ofInt (by omega) | rfl)) : q_C q_mt (L, xs, q_shp) E nX4_bribe (d) 0 0 [.ref 256, .int (a), .int (b), .int (c)] M Q := by
  subst ha hb hc
  have h11 := k.2.1
  have W := lp_m (W := fun i M' => ∀ v w1 w2, v = nI i → q_G q_mt (L, xs, q_shp) E nX4_bribe (d) 0 0 (q_Q (L, xs, q_shp) E Q) 3 [some (.ref 256), some (.int (nI x)), some (.int (nI y)), some (.int (nI z)), some (.int (v)), w1, w2] [] M') (J := fun i M' => q_fs [239] [] M M' ∧ ∀ j, j < i → M'.1 239 j = Int32.ofInt (mB n e r (bL t n e r x y z) j)) (t 2 0) ?_ ?_ 0 M (Nat.zero_le _) ⟨q_fs.rf, fun j hj => absurd hj (Nat.not_lt_zero _)⟩
  · refine w_in 90 [3] ?_
    exact W _ _ _ rfl
  · rintro M' ⟨hf, hm⟩ v w1 w2 rfl
    have k' : g_K M' t := k.eq (hf.c1 6) (hf.c1 8)
    refine w_at 90 [3] ?_
    refine ⟨_, k'.1.1, ?_⟩
    exact z_le (t 2 0) (t 2 0) (fun _ => hQ M' hf hm) (fun h => by omega)
  · rintro i M' hi ⟨hf, hm⟩ ih v w1 w2 rfl
    have k' : g_K M' t := k.eq (hf.c1 6) (hf.c1 8)
    have h4 := k.2.2 i hi
    have hpl : plm t n e r i ≤ 11 := Nat.le_trans (fb_ct_le _ _) h11
    have e8 : M'.1 268 i = nI (plm t n e r i) := by rw [hf.c1 268]; exact (hp i hi).1
    have e9 : M'.1 269 i = Int32.ofInt (mk n e r i) := by rw [hf.c1 269]; exact (hp i hi).2
    have fin : ∀ w1 w2 x', x' = Int32.ofInt (mB n e r (bL t n e r x y z) i) → q_G q_mt (L, xs, q_shp) E nX4_bribe (d) 0 0 (q_Q (L, xs, q_shp) E Q) 3 [some (.ref 256), some (.int (nI x)), some (.int (nI y)), some (.int (nI z)), some (.int (nI i + Int32.ofInt 1)), w1, w2] [] (q_si M' 239 i x') := by
      rintro w1 w2 x' rfl
      refine ih _ ⟨hf.s1, fun j hj => ?_⟩ _ _ _ (by (first | assumption | (simp only [z_nat, z_lit, ← Int32.ofInt_add, ← Int32.ofInt_sub, ← Int32.ofInt_mul]; exact congrArg Int32.ofInt (by omega)) | (simp only [z_nat, z_lit, ← Int32.ofInt_add, ← Int32.ofInt_sub, ← Int32.ofInt_mul]; done) | exact congrArg Int32.ofInt (by omega) | rfl))
      by_cases q : j = i
      · rw [q, q_si_s]
      · rw [q_si_n q]
        exact hm j (by omega)
    have yes : plm t n e r i < kxy x y z (t 4 i) → mB n e r (bL t n e r x y z) i = 20 := fun h => if_pos (decide_eq_true h)
    have no : ¬ plm t n e r i < kxy x y z (t 4 i) → mB n e r (bL t n e r x y z) i = mk n e r i := fun h => if_neg (by unfold bL; rw [decide_eq_false h]; decide)
    unfold kxy at yes no
    refine w_at 90 [3] ?_
    refine ⟨_, k'.1.1, ?_⟩
    refine z_le (t 2 0) i (fun h => by omega) (fun h => ?_)
    refine ⟨i, _, by (first | assumption | (simp only [z_nat, z_lit, ← Int32.ofInt_add, ← Int32.ofInt_sub, ← Int32.ofInt_mul]; exact congrArg Int32.ofInt (by omega)) | (simp only [z_nat, z_lit, ← Int32.ofInt_add, ← Int32.ofInt_sub, ← Int32.ofInt_mul]; done) | exact congrArg Int32.ofInt (by omega) | rfl), by (dsimp only; omega), k'.1.2 i hi, ?_⟩
    refine z_le 2 (t 4 i) (fun h1 => ?_) (fun h1 => ?_)
    · rw [if_neg (by omega)] at yes no
      refine z_ne (t 4 i) 2 (fun h2 => ?_) (fun h2 => ?_)
      · rw [if_neg (by omega)] at yes no
        refine ⟨i, _, by (first | assumption | (simp only [z_nat, z_lit, ← Int32.ofInt_add, ← Int32.ofInt_sub, ← Int32.ofInt_mul]; exact congrArg Int32.ofInt (by omega)) | (simp only [z_nat, z_lit, ← Int32.ofInt_add, ← Int32.ofInt_sub, ← Int32.ofInt_mul]; done) | exact congrArg Int32.ofInt (by omega) | rfl), by (dsimp only; omega), e8, ?_⟩
        refine z_le (z : Int) (plm t n e r i) (fun h3 => ?_) (fun h3 => ?_)
        · refine ⟨i, _, by (first | assumption | (simp only [z_nat, z_lit, ← Int32.ofInt_add, ← Int32.ofInt_sub, ← Int32.ofInt_mul]; exact congrArg Int32.ofInt (by omega)) | (simp only [z_nat, z_lit, ← Int32.ofInt_add, ← Int32.ofInt_sub, ← Int32.ofInt_mul]; done) | exact congrArg Int32.ofInt (by omega) | rfl), by (dsimp only; omega), e9, ?_⟩
          refine ⟨i, _, by (first | assumption | (simp only [z_nat, z_lit, ← Int32.ofInt_add, ← Int32.ofInt_sub, ← Int32.ofInt_mul]; exact congrArg Int32.ofInt (by omega)) | (simp only [z_nat, z_lit, ← Int32.ofInt_add, ← Int32.ofInt_sub, ← Int32.ofInt_mul]; done) | exact congrArg Int32.ofInt (by omega) | rfl), by (dsimp only; omega), rfl, ?_⟩
          exact fin _ _ _ (by rw [no (by omega)])
        · refine ⟨i, _, by (first | assumption | (simp only [z_nat, z_lit, ← Int32.ofInt_add, ← Int32.ofInt_sub, ← Int32.ofInt_mul]; exact congrArg Int32.ofInt (by omega)) | (simp only [z_nat, z_lit, ← Int32.ofInt_add, ← Int32.ofInt_sub, ← Int32.ofInt_mul]; done) | exact congrArg Int32.ofInt (by omega) | rfl), by (dsimp only; omega), rfl, ?_⟩
          exact fin _ _ _ (by rw [yes (by omega)])
      · rw [if_pos (by omega)] at yes no
        refine ⟨i, _, by (first | assumption | (simp only [z_nat, z_lit, ← Int32.ofInt_add, ← Int32.ofInt_sub, ← Int32.ofInt_mul]; exact congrArg Int32.ofInt (by omega)) | (simp only [z_nat, z_lit, ← Int32.ofInt_add, ← Int32.ofInt_sub, ← Int32.ofInt_mul]; done) | exact congrArg Int32.ofInt (by omega) | rfl), by (dsimp only; omega), e8, ?_⟩
        refine z_le (y : Int) (plm t n e r i) (fun h3 => ?_) (fun h3 => ?_)
        · refine ⟨i, _, by (first | assumption | (simp only [z_nat, z_lit, ← Int32.ofInt_add, ← Int32.ofInt_sub, ← Int32.ofInt_mul]; exact congrArg Int32.ofInt (by omega)) | (simp only [z_nat, z_lit, ← Int32.ofInt_add, ← Int32.ofInt_sub, ← Int32.ofInt_mul]; done) | exact congrArg Int32.ofInt (by omega) | rfl), by (dsimp only; omega), e9, ?_⟩
          refine ⟨i, _, by (first | assumption | (simp only [z_nat, z_lit, ← Int32.ofInt_add, ← Int32.ofInt_sub, ← Int32.ofInt_mul]; exact congrArg Int32.ofInt (by omega)) | (simp only [z_nat, z_lit, ← Int32.ofInt_add, ← Int32.ofInt_sub, ← Int32.ofInt_mul]; done) | exact congrArg Int32.ofInt (by omega) | rfl), by (dsimp only; omega), rfl, ?_⟩
          exact fin _ _ _ (by rw [no (by omega)])
        · refine ⟨i, _, by (first | assumption | (simp only [z_nat, z_lit, ← Int32.ofInt_add, ← Int32.ofInt_sub, ← Int32.ofInt_mul]; exact congrArg Int32.ofInt (by omega)) | (simp only [z_nat, z_lit, ← Int32.ofInt_add, ← Int32.ofInt_sub, ← Int32.ofInt_mul]; done) | exact congrArg Int32.ofInt (by omega) | rfl), by (dsimp only; omega), rfl, ?_⟩
          exact fin _ _ _ (by rw [yes (by omega)])
    · rw [if_pos (by omega)] at yes no
      refine ⟨i, _, by (first | assumption | (simp only [z_nat, z_lit, ← Int32.ofInt_add, ← Int32.ofInt_sub, ← Int32.ofInt_mul]; exact congrArg Int32.ofInt (by omega)) | (simp only [z_nat, z_lit, ← Int32.ofInt_add, ← Int32.ofInt_sub, ← Int32.ofInt_mul]; done) | exact congrArg Int32.ofInt (by omega) | rfl), by (dsimp only; omega), e8, ?_⟩
      refine z_le (x : Int) (plm t n e r i) (fun h3 => ?_) (fun h3 => ?_)
      · refine ⟨i, _, by (first | assumption | (simp only [z_nat, z_lit, ← Int32.ofInt_add, ← Int32.ofInt_sub, ← Int32.ofInt_mul]; exact congrArg Int32.ofInt (by omega)) | (simp only [z_nat, z_lit, ← Int32.ofInt_add, ← Int32.ofInt_sub, ← Int32.ofInt_mul]; done) | exact congrArg Int32.ofInt (by omega) | rfl), by (dsimp only; omega), e9, ?_⟩
        refine ⟨i, _, by (first | assumption | (simp only [z_nat, z_lit, ← Int32.ofInt_add, ← Int32.ofInt_sub, ← Int32.ofInt_mul]; exact congrArg Int32.ofInt (by omega)) | (simp only [z_nat, z_lit, ← Int32.ofInt_add, ← Int32.ofInt_sub, ← Int32.ofInt_mul]; done) | exact congrArg Int32.ofInt (by omega) | rfl), by (dsimp only; omega), rfl, ?_⟩
        exact fin _ _ _ (by rw [no (by omega)])
      · refine ⟨i, _, by (first | assumption | (simp only [z_nat, z_lit, ← Int32.ofInt_add, ← Int32.ofInt_sub, ← Int32.ofInt_mul]; exact congrArg Int32.ofInt (by omega)) | (simp only [z_nat, z_lit, ← Int32.ofInt_add, ← Int32.ofInt_sub, ← Int32.ofInt_mul]; done) | exact congrArg Int32.ofInt (by omega) | rfl), by (dsimp only; omega), rfl, ?_⟩
        exact fin _ _ _ (by rw [yes (by omega)])
/-- a bound that some three reach, or none -/
def GB (t : q_T) (n : sN) (e r : Nat) (thr : Int) (b : Nat) : Prop := b ≤ 12 ∧ (b = 12 ∨ ∃ x y z, TR t n e r thr x y z ∧ x + y + z = b)
set_option maxRecDepth 100000 in
set_option maxHeartbeats 4000000 in
theorem k2_tryBribes (g : g_R M t n) (k : g_K M t) {e r : Nat} (he : e < t 8 0) (hr : r < t 0 0) (hg : n (576 + (6 * e + r)) = 1) (h0 : n (540 + (6 * e + r)) = 0) {m : Nat → Int} (p : g_P M t (onE t e) m (n (432 + (6 * e + r))) (n (468 + (6 * e + r))) (n (504 + (6 * e + r))) (t 7 (n (6 * e + r)).toNat) (t 1 0)) (hp : bPl M t n e r) (thr : Int) (ht : -1000000 ≤ thr ∧ thr ≤ 1000000) {a b : Int32} (hQ : ∀ M' b, q_fs [239, 240, 241] fP M M' → GB t n e r thr b → (∀ x y z, TR t n e r thr x y z → b ≤ x + y + z) → Q (some (.int (nI b))) M') (ha : a = nI (t 9 e) := by (first | assumption | (simp only [z_nat, z_lit, ← Int32.ofInt_add, ← Int32.ofInt_sub, ← Int32.ofInt_mul]; exact congrArg Int32.ofInt (by omega)) | (simp only [z_nat, z_lit, ← Int32.ofInt_add, ← Int32.ofInt_sub, ← Int32.ofInt_mul]; done) | exact congrArg Int32.ofInt (by omega) | rfl)) (hb : b = Int32.ofInt thr := by (first | assumption | (simp only [z_nat, z_lit, ← Int32.ofInt_add, ← Int32.ofInt_sub, ← Int32.ofInt_mul]; exact congrArg Int32.ofInt (by omega)) | (simp only [z_nat, z_lit, ← Int32.ofInt_add, ← Int32.ofInt_sub, ← Int32.ofInt_mul]; done) | exact congrArg Int32.ofInt (by omega) | rfl)) : q_C q_mt (L, xs, q_shp) E nX4_tryBribes (d + 4) 0 0 [.ref 256, .int (a), .int (b)] M Q := by
  subst ha hb
  have h11 := k.2.1
  have h9 := (g.be he).1
  have pn : ∀ s, pan t (onE t e) s ≤ 11 := fun s => Nat.le_trans (fb_ct_le _ _) h11
  have n0 := pn (t 9 e)
  have n2 := pn 2
  have n3 := pn 3
  have hs := g.bs he hr
  have hdg := g.bd (i := (n (6 * e + r)).toNat) (by have := hs.1; omega)
  let J : q_M → Prop := fun M' => q_fs [239, 240, 241] fP M M' ∧ ∃ m', g_P M' t (onE t e) m' (n (432 + (6 * e + r))) (n (468 + (6 * e + r))) (n (504 + (6 * e + r))) (t 7 (n (6 * e + r)).toNat) (t 1 0)
  have W := lp_m (W := fun x M' => ∀ b v w1 w2, GB t n e r thr b → (∀ x' y' z', TR t n e r thr x' y' z' → x' < x → b ≤ x' + y' + z') → v = nI x → q_G q_mt (L, xs, q_shp) E nX4_tryBribes (d + 4) 0 0 (q_Q (L, xs, q_shp) E Q) 36 [some (.ref 256), some (.int (nI (t 9 e))), some (.int (Int32.ofInt thr)), some (.int (nI b)), some (.int (nI (pan t (onE t e) (t 9 e)))), some (.int (nI (pan t (onE t e) 2))), some (.int (nI (pan t (onE t e) 3))), some (.int (v)), w1, w2] [] M') (J := fun _ M' => J M') (pan t (onE t e) (t 9 e) + 1) ?_ ?_ 0 M (Nat.zero_le _) ⟨q_fs.rf, m, p⟩
  · refine w_in 90 [36, 46, 56] ?_
    refine p_countOfSort k p (t 9 e) (by omega) ?_
    refine p_countOfSort k p 2 (by omega) ?_
    refine p_countOfSort k p 3 (by omega) ?_
    exact W 12 _ _ _ ⟨by omega, Or.inl rfl⟩ (fun _ _ _ _ z => absurd z (Nat.not_lt_zero _)) rfl
  · rintro M' ⟨hf, -⟩ b v w1 w2 hb hv rfl
    refine w_at 90 [36, 46, 56] ?_
    exact z_lt (pan t (onE t e) (t 9 e)) ((pan t (onE t e) (t 9 e) + 1 : Nat) : Int) (fun _ => ⟨_, rfl, hQ M' b hf hb (fun x y z h => hv x y z h (by have := h.1; omega))⟩) (fun h => by omega)
  · rintro x M' hx hJ ih b v w1 w2 hb hv rfl
    have W2 := lp_m (W := fun y M' => ∀ b v w2, GB t n e r thr b → (∀ x' y' z', TR t n e r thr x' y' z' → (x' < x ∨ (x' = x ∧ y' < y)) → b ≤ x' + y' + z') → v = nI y → q_G q_mt (L, xs, q_shp) E nX4_tryBribes (d + 4) 0 0 (q_Q (L, xs, q_shp) E Q) 46 [some (.ref 256), some (.int (nI (t 9 e))), some (.int (Int32.ofInt thr)), some (.int (nI b)), some (.int (nI (pan t (onE t e) (t 9 e)))), some (.int (nI (pan t (onE t e) 2))), some (.int (nI (pan t (onE t e) 3))), some (.int (nI x)), some (.int (v)), w2] [] M') (J := fun _ M' => J M') (pan t (onE t e) 2 + 1) ?_ ?_ 0 M' (Nat.zero_le _) hJ
    · refine w_at 90 [36, 46, 56] ?_
      refine z_lt (pan t (onE t e) (t 9 e)) (x : Int) (fun h => by omega) (fun _ => ?_)
      exact W2 b _ _ hb (fun x' y' z' h h2 => hv x' y' z' h (by omega)) rfl
    · rintro M2 hJ2 b v w2 hb hv rfl
      refine w_at 90 [36, 46, 56] ?_
      refine z_lt (pan t (onE t e) 2) ((pan t (onE t e) 2 + 1 : Nat) : Int) (fun _ => ?_) (fun h => by omega)
      exact ih M2 hJ2 b _ _ _ hb (fun x' y' z' h h2 => hv x' y' z' h (by have := h.2.1; omega)) (by (first | assumption | (simp only [z_nat, z_lit, ← Int32.ofInt_add, ← Int32.ofInt_sub, ← Int32.ofInt_mul]; exact congrArg Int32.ofInt (by omega)) | (simp only [z_nat, z_lit, ← Int32.ofInt_add, ← Int32.ofInt_sub, ← Int32.ofInt_mul]; done) | exact congrArg Int32.ofInt (by omega) | rfl))
    · rintro y M2 hy hJ2 ih2 b v w2 hb hv rfl
      have W3 := lp_m (W := fun z M' => ∀ b u v, u = nI b → GB t n e r thr b → (∀ x' y' z', TR t n e r thr x' y' z' → (x' < x ∨ (x' = x ∧ (y' < y ∨ (y' = y ∧ z' < z)))) → b ≤ x' + y' + z') → v = nI z → q_G q_mt (L, xs, q_shp) E nX4_tryBribes (d + 4) 0 0 (q_Q (L, xs, q_shp) E Q) 56 [some (.ref 256), some (.int (nI (t 9 e))), some (.int (Int32.ofInt thr)), some (.int (u)), some (.int (nI (pan t (onE t e) (t 9 e)))), some (.int (nI (pan t (onE t e) 2))), some (.int (nI (pan t (onE t e) 3))), some (.int (nI x)), some (.int (nI y)), some (.int (v))] [] M') (J := fun _ M' => J M') (pan t (onE t e) 3 + 1) ?_ ?_ 0 M2 (Nat.zero_le _) hJ2
      · refine w_at 90 [36, 46, 56] ?_
        refine z_lt (pan t (onE t e) 2) (y : Int) (fun h => by omega) (fun _ => ?_)
        exact W3 b _ _ rfl hb (fun x' y' z' h h2 => hv x' y' z' h (by omega)) rfl
      · rintro M3 hJ3 b u v rfl hb hv rfl
        refine w_at 90 [36, 46, 56] ?_
        refine z_lt (pan t (onE t e) 3) ((pan t (onE t e) 3 + 1 : Nat) : Int) (fun _ => ?_) (fun h => by omega)
        exact ih2 M3 hJ3 b _ _ hb (fun x' y' z' h h2 => hv x' y' z' h (by have := h.2.2.1; omega)) (by (first | assumption | (simp only [z_nat, z_lit, ← Int32.ofInt_add, ← Int32.ofInt_sub, ← Int32.ofInt_mul]; exact congrArg Int32.ofInt (by omega)) | (simp only [z_nat, z_lit, ← Int32.ofInt_add, ← Int32.ofInt_sub, ← Int32.ofInt_mul]; done) | exact congrArg Int32.ofInt (by omega) | rfl))
      · rintro z M3 hz hJ3 ih3 b u v rfl hb hv rfl
        obtain ⟨hf, m', p'⟩ := hJ3
        have hb12 := hb.1
        have k3 : g_K M3 t := k.eq (hf.c1 6) (hf.c1 8)
        have bp : bPl M3 t n e r := fun i hi => by
          rw [hf.c1 268, hf.c1 269]
          exact hp i hi
        refine w_at 90 [36, 46, 56] ?_
        refine z_lt (pan t (onE t e) 3) (z : Int) (fun h => by omega) (fun _ => ?_)
        refine z_le (b : Int) ((x + y + z : Nat) : Int) (fun h1 => ?_) (fun h1 => ?_)
        · exact ih2 M3 ⟨hf, m', p'⟩ b _ _ hb (fun x' y' z' h h2 => by
            by_cases q : x' < x ∨ (x' = x ∧ (y' < y ∨ (y' = y ∧ z' < z)))
            · exact hv x' y' z' h q
            · omega) (by (first | assumption | (simp only [z_nat, z_lit, ← Int32.ofInt_add, ← Int32.ofInt_sub, ← Int32.ofInt_mul]; exact congrArg Int32.ofInt (by omega)) | (simp only [z_nat, z_lit, ← Int32.ofInt_add, ← Int32.ofInt_sub, ← Int32.ofInt_mul]; done) | exact congrArg Int32.ofInt (by omega) | rfl))
        · refine k2_bribe k3 bp x y z (by omega) (by omega) (by omega) (fun M4 hf4 hm4 => ?_)
          have k4 : g_K M4 t := k3.eq (hf4.c1 6) (hf4.c1 8)
          have p4 : g_P M4 t (onE t e) (mB n e r (bL t n e r x y z)) (n (432 + (6 * e + r))) (n (468 + (6 * e + r))) (n (504 + (6 * e + r))) (t 7 (n (6 * e + r)).toNat) (t 1 0) := by
            unfold g_P at p' ⊢
            rw [hf4.c1 238]
            exact ⟨p'.1, fun i hi => ⟨hm4 i hi, mB_b g _ he hr i (by omega)⟩, p'.2.2⟩
          refine p_score k4 p4 (mB_0 g _ he hr hg h0) (fun M5 hf5 _ => ?_)
          have hf6 : q_fs [239, 240, 241] fP M M5 := hf.tr (hf4.mono.tr hf5.mono)
          have hJ5 : J M5 := ⟨hf6, _, p4.fs hf5⟩
          have bb := pB_b g (bL t n e r x y z) he hr hg h0
          refine z_le (pB t n e r (bL t n e r x y z)) thr (fun h2 => ?_) (fun h2 => ?_)
          · refine ih3 M5 hJ5 b _ _ rfl hb (fun x' y' z' h h3 => ?_) (by (first | assumption | (simp only [z_nat, z_lit, ← Int32.ofInt_add, ← Int32.ofInt_sub, ← Int32.ofInt_mul]; exact congrArg Int32.ofInt (by omega)) | (simp only [z_nat, z_lit, ← Int32.ofInt_add, ← Int32.ofInt_sub, ← Int32.ofInt_mul]; done) | exact congrArg Int32.ofInt (by omega) | rfl))
            by_cases q : x' < x ∨ (x' = x ∧ (y' < y ∨ (y' = y ∧ z' < z)))
            · exact hv x' y' z' h q
            · obtain ⟨rfl, rfl, rfl⟩ : x' = x ∧ y' = y ∧ z' = z := by omega
              have := h.2.2.2
              omega
          · have ex : (nI x + nI y + nI z : Int32) = nI (x + y + z) := by (first | assumption | (simp only [z_nat, z_lit, ← Int32.ofInt_add, ← Int32.ofInt_sub, ← Int32.ofInt_mul]; exact congrArg Int32.ofInt (by omega)) | (simp only [z_nat, z_lit, ← Int32.ofInt_add, ← Int32.ofInt_sub, ← Int32.ofInt_mul]; done) | exact congrArg Int32.ofInt (by omega) | rfl)
            refine ih3 M5 hJ5 (x + y + z) _ _ ex ⟨by omega, Or.inr ⟨x, y, z, ⟨by omega, by omega, by omega, h2⟩, rfl⟩⟩ (fun x' y' z' h h3 => ?_) (by (first | assumption | (simp only [z_nat, z_lit, ← Int32.ofInt_add, ← Int32.ofInt_sub, ← Int32.ofInt_mul]; exact congrArg Int32.ofInt (by omega)) | (simp only [z_nat, z_lit, ← Int32.ofInt_add, ← Int32.ofInt_sub, ← Int32.ofInt_mul]; done) | exact congrArg Int32.ofInt (by omega) | rfl))
            by_cases q : x' < x ∨ (x' = x ∧ (y' < y ∨ (y' = y ∧ z' < z)))
            · have := hv x' y' z' h q
              omega
            · omega
end BC
