/-! marks of all judges of the dive at the board -/
/-- the marks of the judges below k -/
def nMs (t : q_T) (n : sN) (v : Nat → Int) : Nat → sN
  | 0 => n
  | k + 1 => if onP t k (bE n) = true then nMk (nMs t n v k) k (v k) else nMs t n v k
def aMs (t : q_T) (n : sN) (c : Bool) (v : Nat → Int) : aRs := if isOb t n && c then some (0, nMs t n v (t 2 0)) else none
section MS
variable {L : Nat} {xs : Nat → Int32} {E : q_E} {d : Nat} {M : q_M} {t : q_T} {n : sN} {Q : Option Value → q_M → Prop} {P : q_M → Prop}
theorem nMs_b {v : Nat → Int} (hJ : b_J t n) (ba : b_A t n) (q : isO t n) (hv : ∀ j, j < t 2 0 → onP t j (bE n) = true → 0 ≤ v j ∧ v j ≤ 20) : ∀ k, k ≤ t 2 0 → b_J t (nMs t n v k) ∧ isO t (nMs t n v k) ∧ bE (nMs t n v k) = bE n ∧ bR (nMs t n v k) = bR n ∧ b_A t (nMs t n v k)
  | 0, _ => ⟨hJ, q, rfl, rfl, ba⟩
  | k + 1, hk => by
    obtain ⟨h1, h2, h3, h4, h5⟩ := nMs_b hJ ba q hv k (by omega)
    show b_J t (if onP t k (bE n) = true then nMk (nMs t n v k) k (v k) else nMs t n v k) ∧ isO t (if onP t k (bE n) = true then nMk (nMs t n v k) k (v k) else nMs t n v k) ∧ bE (if onP t k (bE n) = true then nMk (nMs t n v k) k (v k) else nMs t n v k) = bE n ∧ bR (if onP t k (bE n) = true then nMk (nMs t n v k) k (v k) else nMs t n v k) = bR n ∧ b_A t (if onP t k (bE n) = true then nMk (nMs t n v k) k (v k) else nMs t n v k)
    by_cases o : onP t k (bE n) = true
    · rw [if_pos o]
      have hw := hv k (by omega) o
      have hy : aMark t (nMs t n v k) k (v k) = some (((mkN t (nMk (nMs t n v k) k (v k)) (bE (nMs t n v k)) (bR (nMs t n v k)) : Nat) : Int), nMk (nMs t n v k) k (v k)) := if_pos (by rw [Bool.and_eq_true, isOb_t, h3]; exact ⟨h2, o⟩)
      have hJ' := (aMark_ok h1 h5 (by omega) hw _ _ hy).1
      obtain ⟨hB, he, hr, hs, hg, hk'⟩ := h1.O h5 h2
      have j11 := ba.j11
      have sb : sch ((6 * bE (nMs t n v k) + bR (nMs t n v k))) (nMs t n v k) (nMk (nMs t n v k) k (v k)) := mk_sch (by omega)
      have b := sb.b (by omega)
      refine ⟨hJ', ?_, b.1.trans h3, b.2.trans h4, ⟨ba.1, hJ'.1.1⟩⟩
      have hi : ∀ i, ¬ (i = 36 + 11 * (6 * bE (nMs t n v k) + bR (nMs t n v k)) + k) → nMk (nMs t n v k) k (v k) i = nMs t n v k i := fun i hi => up_n hi
      unfold isO isB at h2 ⊢
      rw [b.1, b.2, hi 633 (by omega), hi _ (by omega)]
      exact h2
    · rw [if_neg o]
      exact ⟨h1, h2, h3, h4, h5⟩
theorem aMs_ok {c : Bool} {v : Nat → Int} (hJ : b_J t n) (ba : b_A t n) (hv : c = true → ∀ j, j < t 2 0 → onP t j (bE n) = true → 0 ≤ v j ∧ v j ≤ 20) : aOK t (aMs t n c v) := by
  unfold aMs
  split
  · next q =>
    rw [Bool.and_eq_true, isOb_t] at q
    exact ok_of (nMs_b hJ ba q.1 (hv q.2) (t 2 0) (Nat.le_refl _)).1 ⟨by omega, by omega⟩
  · exact ok_no
/-- one mark of the class -/
theorem g_Z.ms {v : Nat → Int} {k : Nat} {M' : q_M} (hJ : b_J t n) (ba : b_A t n) (q : isO t n) (hv : ∀ j, j < t 2 0 → onP t j (bE n) = true → 0 ≤ v j ∧ v j ≤ 20) (hk : k < t 2 0) (o : onP t k (bE n) = true) (g : g_Z 43 M' t (nMs t n v k)) : g_Z 43 (q_si M' 45 (16 * (6 * bE n + bR n) + (5 + k)) (Int32.ofInt (v k))) t (nMs t n v (k + 1)) := by
  obtain ⟨h1, h2, h3, h4, h5⟩ := nMs_b hJ ba q hv k (by omega)
  have hJ' := (nMs_b hJ ba q hv (k + 1) (by omega)).1
  obtain ⟨hB, he, hr, hs, hg, hk'⟩ := h1.O h5 h2
  have e : nMs t n v (k + 1) = nMk (nMs t n v k) k (v k) := if_pos o
  have j11 := ba.j11
  rw [e] at hJ' ⊢
  have := g.one_43 h1 hB he.2 hr.2 hJ'.1.1 (b := 5 + k) (k := 36 + 11 * (6 * bE (nMs t n v k) + bR (nMs t n v k)) + k) (v := v k) (Or.inr (Or.inr (Or.inr (Or.inr ⟨k, by omega, rfl, rfl⟩))))
  rw [h3, h4] at this
  unfold nMk
  rw [h3, h4]
  exact this
/-- one mark of the reference -/
theorem g_R.ms {v : Nat → Int} {k : Nat} {M' : q_M} (hJ : b_J t n) (ba : b_A t n) (q : isO t n) (hv : ∀ j, j < t 2 0 → onP t j (bE n) = true → 0 ≤ v j ∧ v j ≤ 20) (hk : k < t 2 0) (o : onP t k (bE n) = true) (g : g_R M' t (nMs t n v k)) : g_R (q_si M' 284 (36 + 11 * (6 * bE n + bR n) + k) (Int32.ofInt (v k))) t (nMs t n v (k + 1)) := by
  obtain ⟨h1, h2, h3, h4, h5⟩ := nMs_b hJ ba q hv k (by omega)
  have hJ' := (nMs_b hJ ba q hv (k + 1) (by omega)).1
  have e : nMs t n v (k + 1) = nMk (nMs t n v k) k (v k) := if_pos o
  rw [e] at hJ' ⊢
  unfold nMk at hJ' ⊢
  rw [h3, h4] at hJ' ⊢
  exact g.up hJ'.1.1 rfl
theorem nMs_no {v : Nat → Int} {k : Nat} (o : onP t k (bE n) = false) : nMs t n v (k + 1) = nMs t n v k := if_neg (by rw [o]; decide)
set_option maxRecDepth 100000 in
set_option maxHeartbeats 4000000 in
theorem k2_doAll (g : g_Z 43 M t n) (hJ : b_J t n) {a : Int32} (w : Int) (hw : 0 ≤ w ∧ w ≤ 20) (hQ : cQ 43 [45] [] M t (aMs t n true (fun _ => w)) Q) (ha : a = Int32.ofInt w := by (first | assumption | (simp only [z_nat, z_lit, ← Int32.ofInt_add, ← Int32.ofInt_sub, ← Int32.ofInt_mul]; exact congrArg Int32.ofInt (by omega)) | (simp only [z_nat, z_lit, ← Int32.ofInt_add, ← Int32.ofInt_sub, ← Int32.ofInt_mul]; done) | exact congrArg Int32.ofInt (by omega) | rfl)) : q_C q_mt (L, xs, q_shp) E nX6_doAll (d + 2) 0 0 [.ref 242, .int (a)] M Q := by
  subst ha
  have h6 := g.R.e6
  have h7 := g.R.r6
  have h11 := g.R.j11
  refine w_in 90 [22] ?_
  refine k2_isReady_43 g (hJ.D h6) (fun q => bn_t (by decide) ?_) (fun q => bn_f rfl ⟨_, rfl, hQ.1 (if_neg (fun z => ?_))⟩)
  rotate_left 1
  · rw [Bool.and_eq_true, isOb_t] at z
    exact q z.1
  have hy : aMs t n true (fun _ => w) = some (0, nMs t n (fun _ => w) (t 2 0)) := if_pos (by rw [Bool.and_eq_true, isOb_t]; exact ⟨q, rfl⟩)
  have hv : ∀ j, j < t 2 0 → onP t j (bE n) = true → 0 ≤ (fun _ : Nat => w) j ∧ (fun _ : Nat => w) j ≤ 20 := fun _ _ _ => hw
  obtain ⟨hB, he, hr, hs, hg, hk⟩ := hJ.O g.R q
  have e1 := g.dv
  rw [brd_at hB] at e1
  have W := lp_m (W := fun k M' => ∀ u, u = nI k → q_G q_mt (L, xs, q_shp) E nX6_doAll (d + 2) 0 0 (q_Q (L, xs, q_shp) E Q) 22 [some (.ref 242), some (.int (Int32.ofInt w)), some (.int (nI (16 * (6 * bE n + bR n) + 5))), some (.int (u))] [] M') (J := fun k M' => q_fs [45] [] M M' ∧ g_Z 43 M' t (nMs t n (fun _ => w) k)) (t 2 0) ?_ ?_ 0
  · refine k2_boardSlot g hB ?_
    have e5 : nI (16 * (6 * bE n + bR n)) + Int32.ofInt 5 = nI (16 * (6 * bE n + bR n) + 5) := by (first | assumption | (simp only [z_nat, z_lit, ← Int32.ofInt_add, ← Int32.ofInt_sub, ← Int32.ofInt_mul]; exact congrArg Int32.ofInt (by omega)) | (simp only [z_nat, z_lit, ← Int32.ofInt_add, ← Int32.ofInt_sub, ← Int32.ofInt_mul]; done) | exact congrArg Int32.ofInt (by omega) | rfl)
    have W := W M (Nat.zero_le _) ⟨q_fs.rf, g⟩ _ rfl
    rw [← e5] at W
    exact W
  · rintro M' ⟨hf, g'⟩ u rfl
    refine w_at 90 [22] ?_
    refine ⟨_, g'.jN, ?_⟩
    refine z_le (t 2 0) (t 2 0) (fun _ => ⟨_, rfl, ?_⟩) (fun z => by omega)
    exact hQ.2 _ _ hy M' hf g'
  · rintro k M' hk ⟨hf, g'⟩ ih u rfl
    have e9 : M'.1 43 9 = nI (bE n) := by rw [hf.c1 43]; exact e1
    refine w_at 90 [22] ?_
    refine ⟨_, g'.jN, ?_⟩
    refine z_le (t 2 0) k (fun z => by omega) (fun _ => ?_)
    refine ⟨_, e9, ?_⟩
    refine k2_isOnPanel g' k (bE n) hk he.1 (fun ho => br_f (by decide) ?_) (fun ho => br_t (by decide) ?_)
    · refine ⟨16 * (6 * bE n + bR n) + (5 + k), _, by (first | assumption | (simp only [z_nat, z_lit, ← Int32.ofInt_add, ← Int32.ofInt_sub, ← Int32.ofInt_mul]; exact congrArg Int32.ofInt (by omega)) | (simp only [z_nat, z_lit, ← Int32.ofInt_add, ← Int32.ofInt_sub, ← Int32.ofInt_mul]; done) | exact congrArg Int32.ofInt (by omega) | rfl), by (dsimp only; omega), rfl, ?_⟩
      exact ih _ ⟨hf.s1, g_Z.ms hJ g.R q hv hk ho g'⟩ _ (by (first | assumption | (simp only [z_nat, z_lit, ← Int32.ofInt_add, ← Int32.ofInt_sub, ← Int32.ofInt_mul]; exact congrArg Int32.ofInt (by omega)) | (simp only [z_nat, z_lit, ← Int32.ofInt_add, ← Int32.ofInt_sub, ← Int32.ofInt_mul]; done) | exact congrArg Int32.ofInt (by omega) | rfl))
    · exact ih M' ⟨hf, by rw [nMs_no ho]; exact g'⟩ _ (by (first | assumption | (simp only [z_nat, z_lit, ← Int32.ofInt_add, ← Int32.ofInt_sub, ← Int32.ofInt_mul]; exact congrArg Int32.ofInt (by omega)) | (simp only [z_nat, z_lit, ← Int32.ofInt_add, ← Int32.ofInt_sub, ← Int32.ofInt_mul]; done) | exact congrArg Int32.ofInt (by omega) | rfl))
set_option maxRecDepth 100000 in
set_option maxHeartbeats 4000000 in
theorem k2_doMarks (g : g_Z 43 M t n) (hJ : b_J t n) {b c : Int32} (s v : Nat) (hs : s < 60) (hv11 : v ≤ 11) (f : Nat → Nat) (hf20 : ∀ p, p < v → f p ≤ 20 ∧ M.1 255 (11 * s + p) = nI (f p)) (hQ : cQ 43 [45] [] M t (aMs t n (decide (v = pnN t (bE n))) (fun j => (f (fb_ct (fun i => onP t i (bE n)) j) : Nat))) Q) (hb : b = nI (11 * s) := by (first | assumption | (simp only [z_nat, z_lit, ← Int32.ofInt_add, ← Int32.ofInt_sub, ← Int32.ofInt_mul]; exact congrArg Int32.ofInt (by omega)) | (simp only [z_nat, z_lit, ← Int32.ofInt_add, ← Int32.ofInt_sub, ← Int32.ofInt_mul]; done) | exact congrArg Int32.ofInt (by omega) | rfl)) (hc : c = nI v := by (first | assumption | (simp only [z_nat, z_lit, ← Int32.ofInt_add, ← Int32.ofInt_sub, ← Int32.ofInt_mul]; exact congrArg Int32.ofInt (by omega)) | (simp only [z_nat, z_lit, ← Int32.ofInt_add, ← Int32.ofInt_sub, ← Int32.ofInt_mul]; done) | exact congrArg Int32.ofInt (by omega) | rfl)) : q_C q_mt (L, xs, q_shp) E nX6_doMarks (d + 2) 0 0 [.ref 242, .ref 255, .int (b), .int (c)] M Q := by
  subst hb hc
  have h6 := g.R.e6
  have h7 := g.R.r6
  have h11 := g.R.j11
  have fin : ¬ (isO t n ∧ v = pnN t (bE n)) → Q (some (.int (Int32.ofInt (-3)))) M := fun z => hQ.1 (if_neg (fun y => z (by rw [Bool.and_eq_true, isOb_t, decide_eq_true_iff] at y; exact y)))
  refine w_in 90 [45] ?_
  refine k2_isReady_43 g (hJ.D h6) (fun q => br_f (by decide) ?_) (fun q => br_t (by decide) ⟨_, rfl, fin (fun z => q z.1)⟩)
  obtain ⟨hB, he, hr, hs', hg, hk⟩ := hJ.O g.R q
  have e1 := g.dv
  rw [brd_at hB] at e1
  have pb : pnN t (bE n) ≤ t 2 0 := fb_ct_le _ _
  refine ⟨_, e1, ?_⟩
  refine k2_countPanel g (bE n) he.1 ?_
  refine z_eq (v : Int) (pnN t (bE n)) (fun z => ?_) (fun z => ⟨_, rfl, fin (fun y => z (by rw [y.2]))⟩)
  have z : v = pnN t (bE n) := by omega
  have ct : ∀ k, k < t 2 0 → onP t k (bE n) = true → fb_ct (fun i => onP t i (bE n)) k < v := fun k hk o => by
    have a := ct_t (p := fun i => onP t i (bE n)) (k := k) o
    have b : fb_ct (fun i => onP t i (bE n)) (k + 1) ≤ fb_ct (fun i => onP t i (bE n)) (t 2 0) := fb_ct_mono _ (by omega)
    have e : pnN t (bE n) = fb_ct (fun i => onP t i (bE n)) (t 2 0) := rfl
    omega
  have hv : ∀ j, j < t 2 0 → onP t j (bE n) = true → 0 ≤ (fun j => (f (fb_ct (fun i => onP t i (bE n)) j) : Int)) j ∧ (fun j => (f (fb_ct (fun i => onP t i (bE n)) j) : Int)) j ≤ 20 := fun j hj o => by
    have := (hf20 _ (ct j hj o)).1
    dsimp only
    omega
  have hy : aMs t n (decide (v = pnN t (bE n))) (fun j => (f (fb_ct (fun i => onP t i (bE n)) j) : Nat)) = some (0, nMs t n (fun j => (f (fb_ct (fun i => onP t i (bE n)) j) : Nat)) (t 2 0)) := if_pos (by rw [Bool.and_eq_true, isOb_t, decide_eq_true_iff]; exact ⟨q, z⟩)
  have W := lp_m (W := fun k M' => ∀ u y, u = nI k → y = nI (11 * s + fb_ct (fun i => onP t i (bE n)) k) → q_G q_mt (L, xs, q_shp) E nX6_doMarks (d + 2) 0 0 (q_Q (L, xs, q_shp) E Q) 45 [some (.ref 242), some (.ref 255), some (.int (nI (11 * s))), some (.int (nI v)), some (.int (nI (16 * (6 * bE n + bR n) + 5))), some (.int (y)), some (.int (u))] [] M') (J := fun k M' => q_fs [45] [] M M' ∧ g_Z 43 M' t (nMs t n (fun j => (f (fb_ct (fun i => onP t i (bE n)) j) : Nat)) k)) (t 2 0) ?_ ?_ 0
  · refine k2_boardSlot g hB ?_
    have e5 : nI (16 * (6 * bE n + bR n)) + Int32.ofInt 5 = nI (16 * (6 * bE n + bR n) + 5) := by (first | assumption | (simp only [z_nat, z_lit, ← Int32.ofInt_add, ← Int32.ofInt_sub, ← Int32.ofInt_mul]; exact congrArg Int32.ofInt (by omega)) | (simp only [z_nat, z_lit, ← Int32.ofInt_add, ← Int32.ofInt_sub, ← Int32.ofInt_mul]; done) | exact congrArg Int32.ofInt (by omega) | rfl)
    have W := W M (Nat.zero_le _) ⟨q_fs.rf, g⟩ _ _ rfl rfl
    rw [← e5] at W
    exact W
  · rintro M' ⟨hf, g'⟩ u y rfl rfl
    refine w_at 90 [45] ?_
    refine ⟨_, g'.jN, ?_⟩
    refine z_le (t 2 0) (t 2 0) (fun _ => ⟨_, rfl, ?_⟩) (fun z => by omega)
    exact hQ.2 _ _ hy M' hf g'
  · rintro k M' hk ⟨hf, g'⟩ ih u y rfl rfl
    have e9 : M'.1 43 9 = nI (bE n) := by rw [hf.c1 43]; exact e1
    have cb := fb_ct_le (fun i => onP t i (bE n)) k
    refine w_at 90 [45] ?_
    refine ⟨_, g'.jN, ?_⟩
    refine z_le (t 2 0) k (fun z => by omega) (fun _ => ?_)
    refine z_le 660 ((11 * s + fb_ct (fun i => onP t i (bE n)) k : Nat) : Int) (fun z => by omega) (fun _ => ?_)
    refine ⟨_, e9, ?_⟩
    refine k2_isOnPanel g' k (bE n) hk he.1 (fun ho => br_f (by decide) ?_) (fun ho => br_t (by decide) ?_)
    · have e255 : M'.1 255 (11 * s + fb_ct (fun i => onP t i (bE n)) k) = nI (f (fb_ct (fun i => onP t i (bE n)) k)) := by
        rw [hf.c1 255]
        exact (hf20 _ (ct k hk ho)).2
      refine ⟨11 * s + fb_ct (fun i => onP t i (bE n)) k, _, by (first | assumption | (simp only [z_nat, z_lit, ← Int32.ofInt_add, ← Int32.ofInt_sub, ← Int32.ofInt_mul]; exact congrArg Int32.ofInt (by omega)) | (simp only [z_nat, z_lit, ← Int32.ofInt_add, ← Int32.ofInt_sub, ← Int32.ofInt_mul]; done) | exact congrArg Int32.ofInt (by omega) | rfl), by (dsimp only; omega), e255, ?_⟩
      refine ⟨16 * (6 * bE n + bR n) + (5 + k), _, by (first | assumption | (simp only [z_nat, z_lit, ← Int32.ofInt_add, ← Int32.ofInt_sub, ← Int32.ofInt_mul]; exact congrArg Int32.ofInt (by omega)) | (simp only [z_nat, z_lit, ← Int32.ofInt_add, ← Int32.ofInt_sub, ← Int32.ofInt_mul]; done) | exact congrArg Int32.ofInt (by omega) | rfl), by (dsimp only; omega), rfl, ?_⟩
      exact ih _ ⟨hf.s1, g_Z.ms hJ g.R q hv hk ho g'⟩ _ _ (by (first | assumption | (simp only [z_nat, z_lit, ← Int32.ofInt_add, ← Int32.ofInt_sub, ← Int32.ofInt_mul]; exact congrArg Int32.ofInt (by omega)) | (simp only [z_nat, z_lit, ← Int32.ofInt_add, ← Int32.ofInt_sub, ← Int32.ofInt_mul]; done) | exact congrArg Int32.ofInt (by omega) | rfl)) (by rw [ct_t (p := fun i => onP t i (bE n)) ho]; (first | assumption | (simp only [z_nat, z_lit, ← Int32.ofInt_add, ← Int32.ofInt_sub, ← Int32.ofInt_mul]; exact congrArg Int32.ofInt (by omega)) | (simp only [z_nat, z_lit, ← Int32.ofInt_add, ← Int32.ofInt_sub, ← Int32.ofInt_mul]; done) | exact congrArg Int32.ofInt (by omega) | rfl))
    · exact ih M' ⟨hf, by rw [nMs_no ho]; exact g'⟩ _ _ (by (first | assumption | (simp only [z_nat, z_lit, ← Int32.ofInt_add, ← Int32.ofInt_sub, ← Int32.ofInt_mul]; exact congrArg Int32.ofInt (by omega)) | (simp only [z_nat, z_lit, ← Int32.ofInt_add, ← Int32.ofInt_sub, ← Int32.ofInt_mul]; done) | exact congrArg Int32.ofInt (by omega) | rfl)) (by rw [ct_f (p := fun i => onP t i (bE n)) ho])
-- the reference's marks: u below 0, all alike; else as many, from a place on
set_option maxRecDepth 100000 in
set_option maxHeartbeats 4000000 in
theorem k_marksAll (g : g_R M t n) (hJ : b_J t n) {a b c : Int32} (s : Nat) (u : Int) (w : Int) (hs : s ≤ 649) (hu : -1 ≤ u ∧ u ≤ 20) (v : Nat → Int) (cnd : Bool) (hcnd : isO t n → (cnd = true ↔ (u < 0 ∨ u = pnN t (bE n)))) (hvv : cnd = true → ∀ j, j < t 2 0 → onP t j (bE n) = true → 0 ≤ v j ∧ v j ≤ 20) (hv : isO t n → cnd = true → ∀ j, j < t 2 0 → onP t j (bE n) = true → (u < 0 → v j = w) ∧ (0 ≤ u → M.1 298 (s + fb_ct (fun i => onP t i (bE n)) j) = Int32.ofInt (v j))) (hQ0 : aMs t n cnd v = none → Q (some (.int 0)) M) (hQ1 : ∀ m, aMs t n cnd v = some (0, m) → ∀ M', q_fs [284] [] M M' → g_R M' t m → Q (some (.int 1)) M') (ha : a = nI s := by (first | assumption | (simp only [z_nat, z_lit, ← Int32.ofInt_add, ← Int32.ofInt_sub, ← Int32.ofInt_mul]; exact congrArg Int32.ofInt (by omega)) | (simp only [z_nat, z_lit, ← Int32.ofInt_add, ← Int32.ofInt_sub, ← Int32.ofInt_mul]; done) | exact congrArg Int32.ofInt (by omega) | rfl)) (hb : b = Int32.ofInt u := by (first | assumption | (simp only [z_nat, z_lit, ← Int32.ofInt_add, ← Int32.ofInt_sub, ← Int32.ofInt_mul]; exact congrArg Int32.ofInt (by omega)) | (simp only [z_nat, z_lit, ← Int32.ofInt_add, ← Int32.ofInt_sub, ← Int32.ofInt_mul]; done) | exact congrArg Int32.ofInt (by omega) | rfl)) (hc : c = Int32.ofInt w := by (first | assumption | (simp only [z_nat, z_lit, ← Int32.ofInt_add, ← Int32.ofInt_sub, ← Int32.ofInt_mul]; exact congrArg Int32.ofInt (by omega)) | (simp only [z_nat, z_lit, ← Int32.ofInt_add, ← Int32.ofInt_sub, ← Int32.ofInt_mul]; done) | exact congrArg Int32.ofInt (by omega) | rfl)) : q_C q_mt (L, xs, q_shp) E nX12_marksAll (d + 4) 0 0 [.ref 271, .int (a), .int (b), .int (c)] M Q := by
  subst ha hb hc
  have h6 := g.e6
  have h7 := g.r6
  have h11 := g.j11
  have fin : ¬ (isO t n ∧ cnd = true) → Q (some (.int 0)) M := fun z => hQ0 (if_neg (fun y => z (by rw [Bool.and_eq_true, isOb_t] at y; exact y)))
  by_cases q : isO t n
  · obtain ⟨hB, he, hr, hs', hg, hk⟩ := hJ.O g.A q
    have h31 := hB.2.2.2.1
    have pb : pnN t (bE n) ≤ t 2 0 := fb_ct_le _ _
    have hcn := hcnd q
    have main : cnd = true → q_G q_mt (L, xs, q_shp) E nX12_marksAll (d + 4) 0 0 (q_Q (L, xs, q_shp) E Q) 37 [some (.ref 271), some (.int (nI s)), some (.int (Int32.ofInt u)), some (.int (Int32.ofInt w)), some (.int (nI (bE n))), some (.int (Int32.ofInt 0)), some (.int (Int32.ofInt 0))] [] M := by
      intro hc
      have hv := hv q hc
      have hvv := hvv hc
      have hy : aMs t n cnd v = some (0, nMs t n v (t 2 0)) := if_pos (by rw [Bool.and_eq_true, isOb_t]; exact ⟨q, hc⟩)
      refine lp_m (W := fun k M' => ∀ y5 y6, y5 = nI (fb_ct (fun i => onP t i (bE n)) k) → y6 = nI k → q_G q_mt (L, xs, q_shp) E nX12_marksAll (d + 4) 0 0 (q_Q (L, xs, q_shp) E Q) 37 [some (.ref 271), some (.int (nI s)), some (.int (Int32.ofInt u)), some (.int (Int32.ofInt w)), some (.int (nI (bE n))), some (.int (y5)), some (.int (y6))] [] M') (J := fun k M' => q_fs [284] [] M M' ∧ g_R M' t (nMs t n v k)) (t 2 0) ?_ ?_ 0 M (Nat.zero_le _) ⟨q_fs.rf, g⟩ _ _ rfl rfl
      · rintro M' ⟨hf, g'⟩ y5 y6 rfl rfl
        refine w_at 90 [37] ?_
        refine ⟨2, _, by (first | assumption | (simp only [z_nat, z_lit, ← Int32.ofInt_add, ← Int32.ofInt_sub, ← Int32.ofInt_mul]; exact congrArg Int32.ofInt (by omega)) | (simp only [z_nat, z_lit, ← Int32.ofInt_add, ← Int32.ofInt_sub, ← Int32.ofInt_mul]; done) | exact congrArg Int32.ofInt (by omega) | rfl), by (dsimp only; omega), g'.R2, ?_⟩
        exact z_le (t 2 0) (t 2 0) (fun _ => ⟨z_1, hQ1 _ hy M' hf g'⟩) (fun z => by omega)
      · rintro k M' hk ⟨hf, g'⟩ ih y5 y6 rfl rfl
        have cb := fb_ct_le (fun i => onP t i (bE n)) k
        obtain ⟨m1, m2, m3, m4, m5⟩ := nMs_b hJ g.A q hvv k (by omega)
        have e31 : nMs t n v k 631 = ((bR n + 1 : Nat) : Int) := by
          have b1 := (m1.B h6 m2.1).2.2.2.1
          rw [m4] at b1
          omega
        refine w_at 90 [37] ?_
        refine ⟨2, _, by (first | assumption | (simp only [z_nat, z_lit, ← Int32.ofInt_add, ← Int32.ofInt_sub, ← Int32.ofInt_mul]; exact congrArg Int32.ofInt (by omega)) | (simp only [z_nat, z_lit, ← Int32.ofInt_add, ← Int32.ofInt_sub, ← Int32.ofInt_mul]; done) | exact congrArg Int32.ofInt (by omega) | rfl), by (dsimp only; omega), g'.R2, ?_⟩
        refine z_le (t 2 0) k (fun z => by omega) (fun _ => ?_)
        refine k_judges g' k (bE n) hk he.1 (fun ho => bn_t (by decide) ?_) (fun ho => bn_f rfl ?_)
        · refine k_roundNow g' ?_
          refine k_slot (bE n) (bR n) ?_ (hb := by rw [e31]; rfl)
          have hvk := hv k hk ho
          refine z_lt u 0 (fun z => ?_) (fun z => ?_)
          · refine ⟨36 + 11 * (6 * bE n + bR n) + k, _, by (first | assumption | (simp only [z_nat, z_lit, ← Int32.ofInt_add, ← Int32.ofInt_sub, ← Int32.ofInt_mul]; exact congrArg Int32.ofInt (by omega)) | (simp only [z_nat, z_lit, ← Int32.ofInt_add, ← Int32.ofInt_sub, ← Int32.ofInt_mul]; done) | exact congrArg Int32.ofInt (by omega) | rfl), by (dsimp only; omega), rfl, ?_⟩
            have gg := g_R.ms hJ g.A q hvv hk ho g'
            rw [hvk.1 z] at gg
            exact ih _ ⟨hf.s1, gg⟩ _ _ (by rw [ct_t (p := fun i => onP t i (bE n)) ho]; (first | assumption | (simp only [z_nat, z_lit, ← Int32.ofInt_add, ← Int32.ofInt_sub, ← Int32.ofInt_mul]; exact congrArg Int32.ofInt (by omega)) | (simp only [z_nat, z_lit, ← Int32.ofInt_add, ← Int32.ofInt_sub, ← Int32.ofInt_mul]; done) | exact congrArg Int32.ofInt (by omega) | rfl)) (by (first | assumption | (simp only [z_nat, z_lit, ← Int32.ofInt_add, ← Int32.ofInt_sub, ← Int32.ofInt_mul]; exact congrArg Int32.ofInt (by omega)) | (simp only [z_nat, z_lit, ← Int32.ofInt_add, ← Int32.ofInt_sub, ← Int32.ofInt_mul]; done) | exact congrArg Int32.ofInt (by omega) | rfl))
          · have e298 : M'.1 298 (s + fb_ct (fun i => onP t i (bE n)) k) = Int32.ofInt (v k) := by
              rw [hf.c1 298]
              exact hvk.2 z
            refine ⟨s + fb_ct (fun i => onP t i (bE n)) k, _, by (first | assumption | (simp only [z_nat, z_lit, ← Int32.ofInt_add, ← Int32.ofInt_sub, ← Int32.ofInt_mul]; exact congrArg Int32.ofInt (by omega)) | (simp only [z_nat, z_lit, ← Int32.ofInt_add, ← Int32.ofInt_sub, ← Int32.ofInt_mul]; done) | exact congrArg Int32.ofInt (by omega) | rfl), by (dsimp only; omega), e298, ?_⟩
            refine ⟨36 + 11 * (6 * bE n + bR n) + k, _, by (first | assumption | (simp only [z_nat, z_lit, ← Int32.ofInt_add, ← Int32.ofInt_sub, ← Int32.ofInt_mul]; exact congrArg Int32.ofInt (by omega)) | (simp only [z_nat, z_lit, ← Int32.ofInt_add, ← Int32.ofInt_sub, ← Int32.ofInt_mul]; done) | exact congrArg Int32.ofInt (by omega) | rfl), by (dsimp only; omega), rfl, ?_⟩
            exact ih _ ⟨hf.s1, g_R.ms hJ g.A q hvv hk ho g'⟩ _ _ (by rw [ct_t (p := fun i => onP t i (bE n)) ho]; (first | assumption | (simp only [z_nat, z_lit, ← Int32.ofInt_add, ← Int32.ofInt_sub, ← Int32.ofInt_mul]; exact congrArg Int32.ofInt (by omega)) | (simp only [z_nat, z_lit, ← Int32.ofInt_add, ← Int32.ofInt_sub, ← Int32.ofInt_mul]; done) | exact congrArg Int32.ofInt (by omega) | rfl)) (by (first | assumption | (simp only [z_nat, z_lit, ← Int32.ofInt_add, ← Int32.ofInt_sub, ← Int32.ofInt_mul]; exact congrArg Int32.ofInt (by omega)) | (simp only [z_nat, z_lit, ← Int32.ofInt_add, ← Int32.ofInt_sub, ← Int32.ofInt_mul]; done) | exact congrArg Int32.ofInt (by omega) | rfl))
        · exact ih M' ⟨hf, by rw [nMs_no ho]; exact g'⟩ _ _ (by rw [ct_f (p := fun i => onP t i (bE n)) ho]) (by (first | assumption | (simp only [z_nat, z_lit, ← Int32.ofInt_add, ← Int32.ofInt_sub, ← Int32.ofInt_mul]; exact congrArg Int32.ofInt (by omega)) | (simp only [z_nat, z_lit, ← Int32.ofInt_add, ← Int32.ofInt_sub, ← Int32.ofInt_mul]; done) | exact congrArg Int32.ofInt (by omega) | rfl))
    refine w_in 90 [37] ?_
    refine k_isOpen g hJ (fun _ => br_f (by decide) ?_) (fun z => absurd q z)
    refine z_lt u 0 (fun z => ?_) (fun z => ?_)
    · exact k_board g hJ q.1 (main (hcn.mpr (Or.inl z)))
    · refine k_board g hJ q.1 ?_
      refine k_judgesMany g (bE n) he.1 ?_
      refine z_eq u (pnN t (bE n)) (fun y => ?_) (fun y => ⟨z_0, fin (fun y' => ?_)⟩)
      · exact k_board g hJ q.1 (main (hcn.mpr (Or.inr y)))
      · rcases hcn.mp y'.2 with y2 | y2
        · omega
        · exact y y2
  · refine w_in 90 [37] ?_
    exact k_isOpen g hJ (fun z => absurd z q) (fun _ => br_t (by decide) ⟨z_0, fin (fun z => q z.1)⟩)
end MS
