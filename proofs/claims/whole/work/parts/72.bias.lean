/-! the call bias -/
section MV
variable {t : q_T} {S S' : Nat → Bool} {m : Nat → Int} {s : Nat}
theorem isMd.ex : ∃ v, isMd t S m s v := (Classical.em (∃ j, mdP t S m s ((pan t S s - 1) / 2) j)).elim (fun ⟨j, h⟩ => ⟨m j, Or.inl ⟨j, h, rfl⟩⟩) (fun h => ⟨0, Or.inr ⟨fun j hj => h ⟨j, hj⟩, rfl⟩⟩)
noncomputable def mdV (t : q_T) (S : Nat → Bool) (m : Nat → Int) (s : Nat) : Int := Classical.choose (isMd.ex (t := t) (S := S) (m := m) (s := s))
theorem mdV_is : isMd t S m s (mdV t S m s) := Classical.choose_spec isMd.ex
theorem isMd.cong {v : Int} (h : ∀ i, i < t 2 0 → S i = S' i) (hv : isMd t S m s v) : isMd t S' m s v := by
  have ho : ∀ i, i < t 2 0 → ofS t S s i = ofS t S' s i := fun i hi => by
    show (S i && decide (t 4 i = s)) = (S' i && decide (t 4 i = s))
    rw [h i hi]
  have hr : ∀ j, rk (ofS t S s) m (t 2 0) j = rk (ofS t S' s) m (t 2 0) j := fun j => fb_ct_cong (fun i hi => by rw [ho i hi])
  have hp : ∀ q j, mdP t S m s q j ↔ mdP t S' m s q j := fun q j => by
    unfold mdP
    constructor
    · rintro ⟨a, b, e⟩
      exact ⟨a, (ho j a).symm.trans b, (hr j).symm.trans e⟩
    · rintro ⟨a, b, e⟩
      exact ⟨a, (ho j a).trans b, (hr j).trans e⟩
  unfold isMd at hv ⊢
  rw [pan_cong h] at hv
  rcases hv with ⟨j, a, b⟩ | ⟨a, b⟩
  · exact Or.inl ⟨j, (hp _ j).mp a, b⟩
  · exact Or.inr ⟨fun j z => a j ((hp _ j).mpr z), b⟩
theorem isMd.b {v : Int} (h : ∀ j, j < t 2 0 → -1 ≤ m j ∧ m j ≤ 20) (hv : isMd t S m s v) : -1 ≤ v ∧ v ≤ 20 := by
  rcases hv with ⟨j, a, rfl⟩ | ⟨a, rfl⟩
  · exact h j a.1
  · omega
end MV
section BI
variable {m : Nat → Int} {cap bal hal deg : Int}
variable {L : Nat} {xs : Nat → Int32} {E : q_E} {d : Nat} {M : q_M} {t : q_T} {n : sN} {Q : Option Value → q_M → Prop} {P : q_M → Prop}
set_option maxRecDepth 100000 in
set_option maxHeartbeats 4000000 in
theorem k_middleOf (g : g_R M t n) (l : g_L M m cap bal hal deg) {a : Int32} (j : Nat) (hj : j < t 2 0) (hQ : ∀ v, isMd t (prt m (-1)) m (t 4 j) v → Q (some (.int (Int32.ofInt v))) M) (ha : a = nI j := by (first | assumption | (simp only [z_nat, z_lit, ← Int32.ofInt_add, ← Int32.ofInt_sub, ← Int32.ofInt_mul]; exact congrArg Int32.ofInt (by omega)) | (simp only [z_nat, z_lit, ← Int32.ofInt_add, ← Int32.ofInt_sub, ← Int32.ofInt_mul]; done) | exact congrArg Int32.ofInt (by omega) | rfl)) : q_C q_mt (L, xs, q_shp) E nX12_middleOf (d + 3) 0 0 [.ref 271, .int (a)] M Q := by
  subst ha
  have h11 := g.j11
  have h4 := (g.bj hj).2
  have hpn : pan t (prt m (-1)) (t 4 j) ≤ 11 := Nat.le_trans (fb_ct_le _ _) h11
  have e : (nI (pan t (prt m (-1)) (t 4 j)) - Int32.ofInt 1) / Int32.ofInt 2 = nI ((pan t (prt m (-1)) (t 4 j) - 1) / 2) := by
    have : ∀ b, b ≤ 11 → (nI b - Int32.ofInt 1) / Int32.ofInt 2 = nI ((b - 1) / 2) := by decide
    exact this _ hpn
  have W := lp_up (W := fun i => (∀ k, k < i → ¬ mdP t (prt m (-1)) m (t 4 j) ((pan t (prt m (-1)) (t 4 j) - 1) / 2) k) → ∀ v x y, v = nI i → q_G q_mt (L, xs, q_shp) E nX12_middleOf (d + 3) 0 0 (q_Q (L, xs, q_shp) E Q) 13 [some (.ref 271), some (.int (nI j)), some (.int (nI (pan t (prt m (-1)) (t 4 j)))), some (.int (v)), x, y] [] M) (t 2 0) ?_ ?_ 0 (Nat.zero_le _)
  · refine w_in 90 [13, 46] ?_
    refine k_sortOf g j hj ?_
    refine k_panelOf g l (t 4 j) (-1) h4 (by omega) ?_
    exact W (fun k hk => absurd hk (Nat.not_lt_zero _)) _ _ _ rfl
  · rintro hn v x y rfl
    refine w_at 90 [13, 46] ?_
    refine ⟨2, _, by (first | assumption | (simp only [z_nat, z_lit, ← Int32.ofInt_add, ← Int32.ofInt_sub, ← Int32.ofInt_mul]; exact congrArg Int32.ofInt (by omega)) | (simp only [z_nat, z_lit, ← Int32.ofInt_add, ← Int32.ofInt_sub, ← Int32.ofInt_mul]; done) | exact congrArg Int32.ofInt (by omega) | rfl), by (dsimp only; omega), g.R2, ?_⟩
    exact z_le (t 2 0) (t 2 0) (fun h => ⟨_, rfl, hQ 0 (Or.inr ⟨fun k hk => hn k hk.1 hk, rfl⟩)⟩) (fun h => by omega)
  · rintro i hi ih hn v x y rfl
    have hmi := l.1 i (by omega)
    refine w_at 90 [13, 46] ?_
    refine ⟨2, _, by (first | assumption | (simp only [z_nat, z_lit, ← Int32.ofInt_add, ← Int32.ofInt_sub, ← Int32.ofInt_mul]; exact congrArg Int32.ofInt (by omega)) | (simp only [z_nat, z_lit, ← Int32.ofInt_add, ← Int32.ofInt_sub, ← Int32.ofInt_mul]; done) | exact congrArg Int32.ofInt (by omega) | rfl), by (dsimp only; omega), g.R2, ?_⟩
    refine z_le (t 2 0) i (fun h => by omega) (fun h => ?_)
    refine k_sortOf g j hj ?_
    refine k_isOfPanel g l i (t 4 j) (-1) hi h4 (by omega) (fun z1 z2 => bn_t (by decide) ?_) (fun z => bn_f (by decide) ?_)
    · have hA : ofS t (prt m (-1)) (t 4 j) i = true := ofS_t.mpr ⟨z1, z2⟩
      have W2 := lp_up (W := fun k => ∀ u v, u = nI (rk (ofS t (prt m (-1)) (t 4 j)) m k i) → v = nI k → q_G q_mt (L, xs, q_shp) E nX12_middleOf (d + 3) 0 0 (q_Q (L, xs, q_shp) E Q) 46 [some (.ref 271), some (.int (nI j)), some (.int (nI (pan t (prt m (-1)) (t 4 j)))), some (.int (nI i)), some (.int (u)), some (.int (v))] [] M) (t 2 0) ?_ ?_ 0 (Nat.zero_le _)
      · exact W2 _ _ rfl rfl
      · rintro u v rfl rfl
        have htp : rk (ofS t (prt m (-1)) (t 4 j)) m (t 2 0) i ≤ 11 := Nat.le_trans (fb_ct_le _ _) h11
        refine w_at 90 [13, 46] ?_
        refine ⟨2, _, by (first | assumption | (simp only [z_nat, z_lit, ← Int32.ofInt_add, ← Int32.ofInt_sub, ← Int32.ofInt_mul]; exact congrArg Int32.ofInt (by omega)) | (simp only [z_nat, z_lit, ← Int32.ofInt_add, ← Int32.ofInt_sub, ← Int32.ofInt_mul]; done) | exact congrArg Int32.ofInt (by omega) | rfl), by (dsimp only; omega), g.R2, ?_⟩
        refine z_le (t 2 0) (t 2 0) (fun h => ?_) (fun h => by omega)
        refine And.intro (by decide) ?_
        refine z_ne (rk (ofS t (prt m (-1)) (t 4 j)) m (t 2 0) i) ((pan t (prt m (-1)) (t 4 j) - 1) / 2 : Nat) (fun h1 => ?_) (fun h1 => ?_) (hy := e)
        · refine ih (fun k hk hm => ?_) _ _ _ (by (first | assumption | (simp only [z_nat, z_lit, ← Int32.ofInt_add, ← Int32.ofInt_sub, ← Int32.ofInt_mul]; exact congrArg Int32.ofInt (by omega)) | (simp only [z_nat, z_lit, ← Int32.ofInt_add, ← Int32.ofInt_sub, ← Int32.ofInt_mul]; done) | exact congrArg Int32.ofInt (by omega) | rfl))
          by_cases q : k = i
          · subst q
            exact h1 (by have := hm.2.2; omega)
          · exact hn k (by omega) hm
        · refine ⟨i, _, by (first | assumption | (simp only [z_nat, z_lit, ← Int32.ofInt_add, ← Int32.ofInt_sub, ← Int32.ofInt_mul]; exact congrArg Int32.ofInt (by omega)) | (simp only [z_nat, z_lit, ← Int32.ofInt_add, ← Int32.ofInt_sub, ← Int32.ofInt_mul]; done) | exact congrArg Int32.ofInt (by omega) | rfl), by (dsimp only; omega), hmi.1, ?_⟩
          exact ⟨_, rfl, hQ _ (Or.inl ⟨i, ⟨hi, hA, by omega⟩, rfl⟩)⟩
      · rintro k hk ih2 u v rfl rfl
        have hc := fb_ct_le (fun o => ofS t (prt m (-1)) (t 4 j) o && bfr m o i) k
        have hmk := l.1 k (by omega)
        have no : (ofS t (prt m (-1)) (t 4 j) k && bfr m k i) = false → rk (ofS t (prt m (-1)) (t 4 j)) m (k + 1) i = rk (ofS t (prt m (-1)) (t 4 j)) m k i := fun z => ct_f z
        have yes : (ofS t (prt m (-1)) (t 4 j) k && bfr m k i) = true → rk (ofS t (prt m (-1)) (t 4 j)) m (k + 1) i = rk (ofS t (prt m (-1)) (t 4 j)) m k i + 1 := fun z => ct_t z
        refine w_at 90 [13, 46] ?_
        refine ⟨2, _, by (first | assumption | (simp only [z_nat, z_lit, ← Int32.ofInt_add, ← Int32.ofInt_sub, ← Int32.ofInt_mul]; exact congrArg Int32.ofInt (by omega)) | (simp only [z_nat, z_lit, ← Int32.ofInt_add, ← Int32.ofInt_sub, ← Int32.ofInt_mul]; done) | exact congrArg Int32.ofInt (by omega) | rfl), by (dsimp only; omega), g.R2, ?_⟩
        refine z_le (t 2 0) k (fun h => by omega) (fun h => ?_)
        refine k_sortOf g j hj ?_
        refine k_isOfPanel g l k (t 4 j) (-1) hk h4 (by omega) (fun z1 z2 => br_f (by decide) ?_) (fun z => br_t (by decide) ?_)
        · have hA2 : ofS t (prt m (-1)) (t 4 j) k = true := ofS_t.mpr ⟨z1, z2⟩
          rw [hA2, Bool.true_and] at no yes
          refine ⟨k, _, by (first | assumption | (simp only [z_nat, z_lit, ← Int32.ofInt_add, ← Int32.ofInt_sub, ← Int32.ofInt_mul]; exact congrArg Int32.ofInt (by omega)) | (simp only [z_nat, z_lit, ← Int32.ofInt_add, ← Int32.ofInt_sub, ← Int32.ofInt_mul]; done) | exact congrArg Int32.ofInt (by omega) | rfl), by (dsimp only; omega), hmk.1, ?_⟩
          refine ⟨i, _, by (first | assumption | (simp only [z_nat, z_lit, ← Int32.ofInt_add, ← Int32.ofInt_sub, ← Int32.ofInt_mul]; exact congrArg Int32.ofInt (by omega)) | (simp only [z_nat, z_lit, ← Int32.ofInt_add, ← Int32.ofInt_sub, ← Int32.ofInt_mul]; done) | exact congrArg Int32.ofInt (by omega) | rfl), by (dsimp only; omega), hmi.1, ?_⟩
          refine z_lt (m k) (m i) (fun h1 => ?_) (fun h1 => ?_)
          · exact ih2 _ _ (by rw [yes (bfr_iff.mpr (Or.inl h1))]; (first | assumption | (simp only [z_nat, z_lit, ← Int32.ofInt_add, ← Int32.ofInt_sub, ← Int32.ofInt_mul]; exact congrArg Int32.ofInt (by omega)) | (simp only [z_nat, z_lit, ← Int32.ofInt_add, ← Int32.ofInt_sub, ← Int32.ofInt_mul]; done) | exact congrArg Int32.ofInt (by omega) | rfl)) (by (first | assumption | (simp only [z_nat, z_lit, ← Int32.ofInt_add, ← Int32.ofInt_sub, ← Int32.ofInt_mul]; exact congrArg Int32.ofInt (by omega)) | (simp only [z_nat, z_lit, ← Int32.ofInt_add, ← Int32.ofInt_sub, ← Int32.ofInt_mul]; done) | exact congrArg Int32.ofInt (by omega) | rfl))
          · refine ⟨k, _, by (first | assumption | (simp only [z_nat, z_lit, ← Int32.ofInt_add, ← Int32.ofInt_sub, ← Int32.ofInt_mul]; exact congrArg Int32.ofInt (by omega)) | (simp only [z_nat, z_lit, ← Int32.ofInt_add, ← Int32.ofInt_sub, ← Int32.ofInt_mul]; done) | exact congrArg Int32.ofInt (by omega) | rfl), by (dsimp only; omega), hmk.1, ?_⟩
            refine ⟨i, _, by (first | assumption | (simp only [z_nat, z_lit, ← Int32.ofInt_add, ← Int32.ofInt_sub, ← Int32.ofInt_mul]; exact congrArg Int32.ofInt (by omega)) | (simp only [z_nat, z_lit, ← Int32.ofInt_add, ← Int32.ofInt_sub, ← Int32.ofInt_mul]; done) | exact congrArg Int32.ofInt (by omega) | rfl), by (dsimp only; omega), hmi.1, ?_⟩
            refine z_ne (m k) (m i) (fun h2 => ?_) (fun h2 => ?_)
            · exact ih2 _ _ (by rw [no (bfr_f (by omega))]; (first | assumption | (simp only [z_nat, z_lit, ← Int32.ofInt_add, ← Int32.ofInt_sub, ← Int32.ofInt_mul]; exact congrArg Int32.ofInt (by omega)) | (simp only [z_nat, z_lit, ← Int32.ofInt_add, ← Int32.ofInt_sub, ← Int32.ofInt_mul]; done) | exact congrArg Int32.ofInt (by omega) | rfl)) (by (first | assumption | (simp only [z_nat, z_lit, ← Int32.ofInt_add, ← Int32.ofInt_sub, ← Int32.ofInt_mul]; exact congrArg Int32.ofInt (by omega)) | (simp only [z_nat, z_lit, ← Int32.ofInt_add, ← Int32.ofInt_sub, ← Int32.ofInt_mul]; done) | exact congrArg Int32.ofInt (by omega) | rfl))
            · refine z_le (i : Int) (k : Int) (fun h3 => ?_) (fun h3 => ?_)
              · exact ih2 _ _ (by rw [no (bfr_f (by omega))]; (first | assumption | (simp only [z_nat, z_lit, ← Int32.ofInt_add, ← Int32.ofInt_sub, ← Int32.ofInt_mul]; exact congrArg Int32.ofInt (by omega)) | (simp only [z_nat, z_lit, ← Int32.ofInt_add, ← Int32.ofInt_sub, ← Int32.ofInt_mul]; done) | exact congrArg Int32.ofInt (by omega) | rfl)) (by (first | assumption | (simp only [z_nat, z_lit, ← Int32.ofInt_add, ← Int32.ofInt_sub, ← Int32.ofInt_mul]; exact congrArg Int32.ofInt (by omega)) | (simp only [z_nat, z_lit, ← Int32.ofInt_add, ← Int32.ofInt_sub, ← Int32.ofInt_mul]; done) | exact congrArg Int32.ofInt (by omega) | rfl))
              · exact ih2 _ _ (by rw [yes (bfr_iff.mpr (Or.inr ⟨h2, by omega⟩))]; (first | assumption | (simp only [z_nat, z_lit, ← Int32.ofInt_add, ← Int32.ofInt_sub, ← Int32.ofInt_mul]; exact congrArg Int32.ofInt (by omega)) | (simp only [z_nat, z_lit, ← Int32.ofInt_add, ← Int32.ofInt_sub, ← Int32.ofInt_mul]; done) | exact congrArg Int32.ofInt (by omega) | rfl)) (by (first | assumption | (simp only [z_nat, z_lit, ← Int32.ofInt_add, ← Int32.ofInt_sub, ← Int32.ofInt_mul]; exact congrArg Int32.ofInt (by omega)) | (simp only [z_nat, z_lit, ← Int32.ofInt_add, ← Int32.ofInt_sub, ← Int32.ofInt_mul]; done) | exact congrArg Int32.ofInt (by omega) | rfl))
        · have hA2 : ofS t (prt m (-1)) (t 4 j) k = false := Bool.eq_false_iff.mpr (fun z2 => z (ofS_t.mp z2))
          exact ih2 _ _ (by rw [no (by rw [hA2, Bool.false_and])]; (first | assumption | (simp only [z_nat, z_lit, ← Int32.ofInt_add, ← Int32.ofInt_sub, ← Int32.ofInt_mul]; exact congrArg Int32.ofInt (by omega)) | (simp only [z_nat, z_lit, ← Int32.ofInt_add, ← Int32.ofInt_sub, ← Int32.ofInt_mul]; done) | exact congrArg Int32.ofInt (by omega) | rfl)) (by (first | assumption | (simp only [z_nat, z_lit, ← Int32.ofInt_add, ← Int32.ofInt_sub, ← Int32.ofInt_mul]; exact congrArg Int32.ofInt (by omega)) | (simp only [z_nat, z_lit, ← Int32.ofInt_add, ← Int32.ofInt_sub, ← Int32.ofInt_mul]; done) | exact congrArg Int32.ofInt (by omega) | rfl))
    · refine ih (fun k hk hm => ?_) _ _ _ (by (first | assumption | (simp only [z_nat, z_lit, ← Int32.ofInt_add, ← Int32.ofInt_sub, ← Int32.ofInt_mul]; exact congrArg Int32.ofInt (by omega)) | (simp only [z_nat, z_lit, ← Int32.ofInt_add, ← Int32.ofInt_sub, ← Int32.ofInt_mul]; done) | exact congrArg Int32.ofInt (by omega) | rfl))
      by_cases q : k = i
      · subst q
        exact z (ofS_t.mp hm.2.1)
      · exact hn k (by omega) hm
noncomputable def mdE (t : q_T) (n : sN) (e r j : Nat) : Int := mdV t (onE t e) (fun j => mk n e r j) (t 4 j)
def bsE (t : q_T) (j : Nat) (w : Int) (e : Nat) : Bool := decide (t 10 e = t 3 j) == decide (w < 2)
def bsB (t : q_T) (n : sN) (j : Nat) (w : Int) (e r : Nat) : Bool := bsE t j w e && jdd t n e r j
noncomputable def bsT (t : q_T) (n : sN) (j : Nat) (w : Int) (e r : Nat) : Int := if bsB t n j w e r = true then mk n e r j - mdE t n e r j else 0
noncomputable def bsS (t : q_T) (n : sN) (j : Nat) (w : Int) (k : Nat) : Int := fb_si (fun e => fb_si (bsT t n j w e) (t 0 0)) k
theorem mdE_b (g : g_R M t n) {e r j : Nat} (he : e < t 8 0) (hr : r < t 0 0) : -1 ≤ mdE t n e r j ∧ mdE t n e r j ≤ 20 := by
  have h11 := g.j11
  have hs := g.bs he hr
  exact isMd.b (fun i hi => ⟨(hs.2.1 i (by omega)).1, (hs.2.1 i (by omega)).2.1⟩) mdV_is
theorem bsT_b (g : g_R M t n) {e r j : Nat} {w : Int} (he : e < t 8 0) (hr : r < t 0 0) (hj : j < t 2 0) : -21 ≤ bsT t n j w e r ∧ bsT t n j w e r ≤ 21 := by
  have h11 := g.j11
  have hs := (g.bs he hr).2.1 j (by omega)
  have hm := mdE_b g (j := j) he hr
  unfold bsT
  split <;> omega
theorem bsR_b (g : g_R M t n) {e j k : Nat} {w : Int} (he : e < t 8 0) (hk : k ≤ t 0 0) (hj : j < t 2 0) : -126 ≤ fb_si (bsT t n j w e) k ∧ fb_si (bsT t n j w e) k ≤ 126 := by
  have h7 := g.r6
  have h := fb_si_bound (f := bsT t n j w e) (c := 21) (by omega) (n := k) (fun r hr => bsT_b g he (by omega) hj)
  omega
theorem bsS_b (g : g_R M t n) {j k : Nat} {w : Int} (hk : k ≤ t 8 0) (hj : j < t 2 0) : -756 ≤ bsS t n j w k ∧ bsS t n j w k ≤ 756 := by
  have h7 := g.e6
  have h := fb_si_bound (f := fun e => fb_si (bsT t n j w e) (t 0 0)) (c := 126) (by omega) (n := k) (fun e he => bsR_b g (by omega) (Nat.le_refl _) hj)
  unfold bsS
  omega
theorem bs_no {j e : Nat} {w : Int} (h : bsE t j w e = false) : fb_ct (bsB t n j w e) (t 0 0) = 0 ∧ fb_si (bsT t n j w e) (t 0 0) = 0 := by
  have hb : ∀ r, bsB t n j w e r = false := fun r => by unfold bsB; rw [h, Bool.false_and]
  refine ⟨fb_ct_zero.mpr (fun r _ => hb r), ?_⟩
  have : ∀ k, fb_si (bsT t n j w e) k = 0 := by
    intro k
    induction k with
    | zero => rfl
    | succ k ih =>
      rw [fb_si_succ, ih]
      unfold bsT
      rw [if_neg (by rw [hb]; decide)]
      rfl
  exact this _
theorem w_rem {w : Int} (hw : 0 ≤ w ∧ w ≤ 3) : Int32.ofInt w - Int32.ofInt w / Int32.ofInt 2 * Int32.ofInt 2 = Int32.ofInt (w % 2) := by
  have : w = 0 ∨ w = 1 ∨ w = 2 ∨ w = 3 := by omega
  rcases this with rfl | rfl | rfl | rfl <;> decide
noncomputable def bsV (t : q_T) (n : sN) (j : Nat) (w : Int) : Int := if w % 2 = 0 then (dvN t (bsB t n j w) (t 8 0) : Int) else bsS t n j w (t 8 0)
set_option maxRecDepth 100000 in
set_option maxHeartbeats 4000000 in
theorem k2_biasOf (g : g_A 43 M t n) {a b : Int32} (j : Nat) (w : Int) (hj : j < t 2 0) (hw : 0 ≤ w ∧ w ≤ 3) (hQ : ∀ M', q_fs lA fA M M' → Q (some (.int (Int32.ofInt (bsV t n j w)))) M') (ha : a = nI j := by (first | assumption | (simp only [z_nat, z_lit, ← Int32.ofInt_add, ← Int32.ofInt_sub, ← Int32.ofInt_mul]; exact congrArg Int32.ofInt (by omega)) | (simp only [z_nat, z_lit, ← Int32.ofInt_add, ← Int32.ofInt_sub, ← Int32.ofInt_mul]; done) | exact congrArg Int32.ofInt (by omega) | rfl)) (hb : b = Int32.ofInt w := by (first | assumption | (simp only [z_nat, z_lit, ← Int32.ofInt_add, ← Int32.ofInt_sub, ← Int32.ofInt_mul]; exact congrArg Int32.ofInt (by omega)) | (simp only [z_nat, z_lit, ← Int32.ofInt_add, ← Int32.ofInt_sub, ← Int32.ofInt_mul]; done) | exact congrArg Int32.ofInt (by omega) | rfl)) : q_C q_mt (L, xs, q_shp) E nX4_biasOf (d + 4) 0 0 [.ref 256, .int (a), .int (b)] M Q := by
  subst ha hb
  have h6 := g.R.e6
  have h7 := g.R.r6
  have h11 := g.R.j11
  have h3 := g.R.bj hj
  have W := lp_m (W := fun e M' => ∀ c s v x, c = nI (dvN t (bsB t n j w) e) → s = Int32.ofInt (bsS t n j w e) → v = nI e → q_G q_mt (L, xs, q_shp) E nX4_biasOf (d + 4) 0 0 (q_Q (L, xs, q_shp) E Q) 20 [some (.ref 256), some (.int (nI j)), some (.int (Int32.ofInt w)), some (.int (c)), some (.int (s)), some (.int (Int32.ofInt (if 2 ≤ w then 0 else 1))), some (.int (v)), x] [] M') (J := fun e M' => q_fs lA fA M M') (t 8 0) ?_ ?_ 0 M (Nat.zero_le _) q_fs.rf
  · refine w_in 90 [20, 70] ?_
    refine z_le 2 w (fun h => ?_) (fun h => ?_)
    · rw [if_pos h] at W
      exact W _ _ _ _ rfl rfl rfl
    · rw [if_neg (by omega)] at W
      exact W _ _ _ _ rfl rfl rfl
  · rintro M' hf c s v x rfl rfl rfl
    have g' := g.A43 hf
    have hQ := hQ M' hf
    unfold bsV at hQ
    refine w_at 90 [20, 70] ?_
    refine ⟨_, g'.eN, ?_⟩
    refine z_le (t 8 0) (t 8 0) (fun h => ?_) (fun h => by omega)
    refine And.intro (by decide) ?_
    refine z_ne (w % 2) 0 (fun h => ?_) (fun h => ?_) (hx := w_rem hw)
    · rw [if_neg h] at hQ
      exact ⟨_, rfl, hQ⟩
    · rw [if_pos h] at hQ
      exact ⟨_, rfl, hQ⟩
  · rintro e M' he hf ih c s v x rfl rfl rfl
    have g' := g.A43 hf
    have hbe := g.R.be he
    have hb := dvN_b g.R (p := bsB t n j w) (show e ≤ t 8 0 by omega)
    have hbs := bsS_b g.R (w := w) (show e ≤ t 8 0 by omega) hj
    have W2 := fun hE : bsE t j w e = true => lp_m (W := fun r M2 => ∀ c s v, c = nI (dvN t (bsB t n j w) e + fb_ct (bsB t n j w e) r) → s = Int32.ofInt (bsS t n j w e + fb_si (bsT t n j w e) r) → v = nI (r + 1) → q_G q_mt (L, xs, q_shp) E nX4_biasOf (d + 4) 0 0 (q_Q (L, xs, q_shp) E Q) 70 [some (.ref 256), some (.int (nI j)), some (.int (Int32.ofInt w)), some (.int (c)), some (.int (s)), some (.int (Int32.ofInt (if 2 ≤ w then 0 else 1))), some (.int (nI e)), some (.int (v))] [] M2) (J := fun r M2 => q_fs lA fA M M2) (t 0 0) (by
      rintro M2 hf2 c s v rfl rfl rfl
      have g2 := g.A43 hf2
      refine w_at 90 [20, 70] ?_
      refine ⟨_, g2.ro, ?_⟩
      refine z_lt (t 0 0) ((t 0 0 + 1 : Nat) : Int) (fun h => ?_) (fun h => by omega)
      exact ih M2 hf2 _ _ _ _ rfl rfl (by (first | assumption | (simp only [z_nat, z_lit, ← Int32.ofInt_add, ← Int32.ofInt_sub, ← Int32.ofInt_mul]; exact congrArg Int32.ofInt (by omega)) | (simp only [z_nat, z_lit, ← Int32.ofInt_add, ← Int32.ofInt_sub, ← Int32.ofInt_mul]; done) | exact congrArg Int32.ofInt (by omega) | rfl))) (by
      rintro r M2 hr hf2 ih2 c s v rfl rfl rfl
      have g2 := g.A43 hf2
      have hc := fb_ct_le (bsB t n j w e) r
      have hmd := mdE_b g.R (j := j) he hr
      have hs := (g.R.bs he hr).2.1 j (by omega)
      have hrb := bsR_b g.R (w := w) he (show r ≤ t 0 0 by omega) hj
      refine w_at 90 [20, 70] ?_
      refine ⟨_, g2.ro, ?_⟩
      refine z_lt (t 0 0) ((r + 1 : Nat) : Int) (fun h => by omega) (fun h => ?_)
      refine k2_isJudged4 g2 e r j he hr hj (fun h1 => br_f (by decide) ?_) (fun h1 => br_t (by decide) ?_)
      · have hB : bsB t n j w e r = true := by unfold bsB; rw [hE, h1]; rfl
        refine k2_seat_43 g2.Z e r he hr (fun M3 hf3 p3 => ?_)
        have g3 := g2.seat_43 hf3
        refine ⟨j, _, by (first | assumption | (simp only [z_nat, z_lit, ← Int32.ofInt_add, ← Int32.ofInt_sub, ← Int32.ofInt_mul]; exact congrArg Int32.ofInt (by omega)) | (simp only [z_nat, z_lit, ← Int32.ofInt_add, ← Int32.ofInt_sub, ← Int32.ofInt_mul]; done) | exact congrArg Int32.ofInt (by omega) | rfl), by (dsimp only; omega), (p3.2.1 j hj).1, ?_⟩
        refine ⟨j, _, by (first | assumption | (simp only [z_nat, z_lit, ← Int32.ofInt_add, ← Int32.ofInt_sub, ← Int32.ofInt_mul]; exact congrArg Int32.ofInt (by omega)) | (simp only [z_nat, z_lit, ← Int32.ofInt_add, ← Int32.ofInt_sub, ← Int32.ofInt_mul]; done) | exact congrArg Int32.ofInt (by omega) | rfl), by (dsimp only; omega), (g3.ju hj).2, ?_⟩
        refine p_middleOf g3.K p3 (t 4 j) h3.2 (fun v hv => ?_)
        have ev : v = mdE t n e r j := hv.un mdV_is
        subst ev
        refine ih2 M3 (hf2.tr hf3.mono) _ _ _ (by rw [ct_t hB]; (first | assumption | (simp only [z_nat, z_lit, ← Int32.ofInt_add, ← Int32.ofInt_sub, ← Int32.ofInt_mul]; exact congrArg Int32.ofInt (by omega)) | (simp only [z_nat, z_lit, ← Int32.ofInt_add, ← Int32.ofInt_sub, ← Int32.ofInt_mul]; done) | exact congrArg Int32.ofInt (by omega) | rfl)) ?_ (by (first | assumption | (simp only [z_nat, z_lit, ← Int32.ofInt_add, ← Int32.ofInt_sub, ← Int32.ofInt_mul]; exact congrArg Int32.ofInt (by omega)) | (simp only [z_nat, z_lit, ← Int32.ofInt_add, ← Int32.ofInt_sub, ← Int32.ofInt_mul]; done) | exact congrArg Int32.ofInt (by omega) | rfl))
        rw [fb_si_succ, show bsT t n j w e r = mk n e r j - mdE t n e r j from if_pos hB]
        (first | assumption | (simp only [z_nat, z_lit, ← Int32.ofInt_add, ← Int32.ofInt_sub, ← Int32.ofInt_mul]; exact congrArg Int32.ofInt (by omega)) | (simp only [z_nat, z_lit, ← Int32.ofInt_add, ← Int32.ofInt_sub, ← Int32.ofInt_mul]; done) | exact congrArg Int32.ofInt (by omega) | rfl)
      · have hB : bsB t n j w e r = false := by unfold bsB; rw [h1, Bool.and_false]
        refine ih2 M2 hf2 _ _ _ (by rw [ct_f hB]) ?_ (by (first | assumption | (simp only [z_nat, z_lit, ← Int32.ofInt_add, ← Int32.ofInt_sub, ← Int32.ofInt_mul]; exact congrArg Int32.ofInt (by omega)) | (simp only [z_nat, z_lit, ← Int32.ofInt_add, ← Int32.ofInt_sub, ← Int32.ofInt_mul]; done) | exact congrArg Int32.ofInt (by omega) | rfl))
        rw [fb_si_succ, show bsT t n j w e r = 0 from if_neg (by rw [hB]; decide), Int.add_zero]) 0 M' (Nat.zero_le _) hf
    have W3 : bsE t j w e = false → ∀ c s v x, c = nI (dvN t (bsB t n j w) e) → s = Int32.ofInt (bsS t n j w e) → v = nI (e + 1) → q_G q_mt (L, xs, q_shp) E nX4_biasOf (d + 4) 0 0 (q_Q (L, xs, q_shp) E Q) 20 [some (.ref 256), some (.int (nI j)), some (.int (Int32.ofInt w)), some (.int (c)), some (.int (s)), some (.int (Int32.ofInt (if 2 ≤ w then 0 else 1))), some (.int (v)), x] [] M' := by
      rintro hE c s v x rfl rfl rfl
      have hz := bs_no (n := n) hE
      refine ih M' hf _ _ _ _ ?_ ?_ rfl
      · refine congrArg nI ?_
        show _ = dvN t (bsB t n j w) e + fb_ct (bsB t n j w e) (t 0 0)
        omega
      · refine congrArg Int32.ofInt ?_
        show _ = bsS t n j w e + fb_si (bsT t n j w e) (t 0 0)
        omega
    refine w_at 90 [20, 70] ?_
    refine ⟨_, g'.eN, ?_⟩
    refine z_le (t 8 0) e (fun h => by omega) (fun h => ?_)
    refine ⟨e, _, by (first | assumption | (simp only [z_nat, z_lit, ← Int32.ofInt_add, ← Int32.ofInt_sub, ← Int32.ofInt_mul]; exact congrArg Int32.ofInt (by omega)) | (simp only [z_nat, z_lit, ← Int32.ofInt_add, ← Int32.ofInt_sub, ← Int32.ofInt_mul]; done) | exact congrArg Int32.ofInt (by omega) | rfl), by (dsimp only; omega), (g'.en he).2, ?_⟩
    refine ⟨j, _, by (first | assumption | (simp only [z_nat, z_lit, ← Int32.ofInt_add, ← Int32.ofInt_sub, ← Int32.ofInt_mul]; exact congrArg Int32.ofInt (by omega)) | (simp only [z_nat, z_lit, ← Int32.ofInt_add, ← Int32.ofInt_sub, ← Int32.ofInt_mul]; done) | exact congrArg Int32.ofInt (by omega) | rfl), by (dsimp only; omega), (g'.ju hj).1, ?_⟩
    refine z_ne (t 10 e) (t 3 j) (fun h1 => ?_) (fun h1 => ?_)
    · refine z_eq 0 (if 2 ≤ w then 0 else 1) (fun h2 => ?_) (fun h2 => ?_) (hb := by split <;> omega)
      · exact W2 (by unfold bsE; rw [decide_eq_false (by omega), decide_eq_false (by intro z; rw [if_neg (by omega)] at h2; omega)]; rfl) _ _ _ rfl (by show _ = Int32.ofInt (bsS t n j w e + 0); rw [Int.add_zero]) rfl
      · exact W3 (by unfold bsE; rw [decide_eq_false (by omega), decide_eq_true (by refine Classical.byContradiction (fun z => ?_); rw [if_pos (by omega)] at h2; omega)]; rfl) _ _ _ _ rfl rfl (by (first | assumption | (simp only [z_nat, z_lit, ← Int32.ofInt_add, ← Int32.ofInt_sub, ← Int32.ofInt_mul]; exact congrArg Int32.ofInt (by omega)) | (simp only [z_nat, z_lit, ← Int32.ofInt_add, ← Int32.ofInt_sub, ← Int32.ofInt_mul]; done) | exact congrArg Int32.ofInt (by omega) | rfl))
    · refine z_eq 1 (if 2 ≤ w then 0 else 1) (fun h2 => ?_) (fun h2 => ?_) (hb := by split <;> omega)
      · exact W2 (by unfold bsE; rw [decide_eq_true (by omega), decide_eq_true (by refine Classical.byContradiction (fun z => ?_); rw [if_pos (by omega)] at h2; omega)]; rfl) _ _ _ rfl (by show _ = Int32.ofInt (bsS t n j w e + 0); rw [Int.add_zero]) rfl
      · exact W3 (by unfold bsE; rw [decide_eq_true (by omega), decide_eq_false (by intro z; rw [if_neg (by omega)] at h2; omega)]; rfl) _ _ _ _ rfl rfl (by (first | assumption | (simp only [z_nat, z_lit, ← Int32.ofInt_add, ← Int32.ofInt_sub, ← Int32.ofInt_mul]; exact congrArg Int32.ofInt (by omega)) | (simp only [z_nat, z_lit, ← Int32.ofInt_add, ← Int32.ofInt_sub, ← Int32.ofInt_mul]; done) | exact congrArg Int32.ofInt (by omega) | rfl))
set_option maxRecDepth 100000 in
set_option maxHeartbeats 4000000 in
theorem o_bias {a b : Int32} (g : g_A 43 M t n) (hP : ∀ M', q_fs lA fA M M' → P M') : zOp L xs E nX11_bias nX12_bias (d + 8) [.int a, .int b] M P := by
  have h6 := g.R.e6
  have h7 := g.R.r6
  have h11 := g.R.j11
  obtain ⟨w, hw0, rfl⟩ := z_of b
  by_cases q : ∃ j, j < t 2 0 ∧ a = nI j
  · obtain ⟨j, hj, rfl⟩ := q
    have h3 := g.R.bj hj
    by_cases hw : 0 ≤ w ∧ w ≤ 3
    · refine w_in 90 [] ?_
      refine d_hasJudge g.C g.R.b (fun _ _ _ => br_f (by decide) ?_) (fun z => absurd ⟨j, hj, rfl⟩ z)
      refine z_lt w 0 (fun z => by omega) (fun _ => ?_)
      refine z_le w 3 (fun _ => ?_) (fun z => by omega)
      refine k2_biasOf g j w hj hw (fun M1 hf1 => ⟨_, rfl, _, rfl, ?_⟩)
      have g1 := g.R.fs hf1
      have W := lp_m (W := fun e M' => ∀ c s v x y, c = nI (dvN t (bsB t n j w) e) → s = Int32.ofInt (bsS t n j w e) → v = nI e → q_G q_mt (L, xs, q_shp) E nX12_bias (d + 8) 0 0 (q_Q (L, xs, q_shp) E (fun v' M'' => v' = some (.int (Int32.ofInt (bsV t n j w))) ∧ P M'')) 29 [some (.ref 271), some (.int (nI j)), some (.int (Int32.ofInt w)), some (.int c), some (.int s), some (.int v), x, y] [] M') (J := fun e M' => q_fs lA fA M M') (t 8 0) ?_ ?_ 0 M1 (Nat.zero_le _) hf1
      · refine w_in 90 [29, 78] ?_
        refine c_X12_isJudge g1.1 g1.b (fun _ _ _ => br_f (by decide) ?_) (fun z => absurd ⟨j, hj, rfl⟩ z)
        refine k_isIn w 0 3 hw0 (by omega) (by omega) (fun z1 z2 => bn_t (by decide) ?_) (fun z => absurd hw z)
        exact W _ _ _ _ _ rfl rfl rfl
      · rintro M' hf c s v x y rfl rfl rfl
        have g' := g.R.fs hf
        unfold bsV
        refine w_at 90 [29, 78] ?_
        refine ⟨4, _, by (first | assumption | (simp only [z_nat, z_lit, ← Int32.ofInt_add, ← Int32.ofInt_sub, ← Int32.ofInt_mul]; exact congrArg Int32.ofInt (by omega)) | (simp only [z_nat, z_lit, ← Int32.ofInt_add, ← Int32.ofInt_sub, ← Int32.ofInt_mul]; done) | exact congrArg Int32.ofInt (by omega) | rfl), by (dsimp only; omega), g'.R4, ?_⟩
        refine z_le (t 8 0) (t 8 0) (fun h => ?_) (fun h => by omega)
        refine And.intro (by decide) ?_
        refine z_ne (w % 2) 0 (fun h => ?_) (fun h => ?_) (hx := w_rem hw)
        · rw [if_neg h]
          exact ⟨_, rfl, rfl, hP M' hf⟩
        · rw [if_pos h]
          exact ⟨_, rfl, rfl, hP M' hf⟩
      · rintro e M' he hf ih c s v x y rfl rfl rfl
        have g' := g.R.fs hf
        have hbe := g.R.be he
        have hb := dvN_b g.R (p := bsB t n j w) (show e ≤ t 8 0 by omega)
        have hbs := bsS_b g.R (w := w) (show e ≤ t 8 0 by omega) hj
        have W2 := fun (f : Int) (hE : bsE t j w e = true) (hff : f = if w < 2 then 1 else 0) => lp_m (W := fun r M2 => ∀ c s v, c = nI (dvN t (bsB t n j w) e + fb_ct (bsB t n j w e) r) → s = Int32.ofInt (bsS t n j w e + fb_si (bsT t n j w e) r) → v = nI (r + 1) → q_G q_mt (L, xs, q_shp) E nX12_bias (d + 8) 0 0 (q_Q (L, xs, q_shp) E (fun v' M'' => v' = some (.int (Int32.ofInt (bsV t n j w))) ∧ P M'')) 78 [some (.ref 271), some (.int (nI j)), some (.int (Int32.ofInt w)), some (.int c), some (.int s), some (.int (nI e)), some (.int (Int32.ofInt f)), some (.int v)] [] M2) (J := fun r M2 => q_fs lA fA M M2) (t 0 0) (by
          rintro M2 hf2 c s v rfl rfl rfl
          have g2 := g.R.fs hf2
          refine w_at 90 [29, 78] ?_
          refine ⟨0, _, by (first | assumption | (simp only [z_nat, z_lit, ← Int32.ofInt_add, ← Int32.ofInt_sub, ← Int32.ofInt_mul]; exact congrArg Int32.ofInt (by omega)) | (simp only [z_nat, z_lit, ← Int32.ofInt_add, ← Int32.ofInt_sub, ← Int32.ofInt_mul]; done) | exact congrArg Int32.ofInt (by omega) | rfl), by (dsimp only; omega), g2.R0, ?_⟩
          refine z_lt (t 0 0) ((t 0 0 + 1 : Nat) : Int) (fun h => ?_) (fun h => by omega)
          exact ih M2 hf2 _ _ _ _ _ rfl rfl (by (first | assumption | (simp only [z_nat, z_lit, ← Int32.ofInt_add, ← Int32.ofInt_sub, ← Int32.ofInt_mul]; exact congrArg Int32.ofInt (by omega)) | (simp only [z_nat, z_lit, ← Int32.ofInt_add, ← Int32.ofInt_sub, ← Int32.ofInt_mul]; done) | exact congrArg Int32.ofInt (by omega) | rfl))) (by
          rintro r M2 hr hf2 ih2 c s v rfl rfl rfl
          have g2 := g.R.fs hf2
          have hc := fb_ct_le (bsB t n j w e) r
          have hmd := mdE_b g.R (j := j) he hr
          have hs := (g.R.bs he hr).2.1 j (by omega)
          have hrb := bsR_b g.R (w := w) he (show r ≤ t 0 0 by omega) hj
          have fin : q_C q_mt (L, xs, q_shp) E nX12_isJudged (d + 7) 0 0 [.ref 271, .int (nI e), .int (nI (r + 1)), .int (nI j)] M2 (fun v M3 => ∃ x : Int32, v = some (.int x) ∧ M3 = M2 ∧ x = if jdd t n e r j = true then 1 else 0) := by
            refine k_isJudged4 g2 e r j he hr hj (fun h1 => ⟨_, rfl, rfl, by rw [h1]; rfl⟩) (fun h1 => ⟨_, rfl, rfl, by rw [h1]; rfl⟩)
          have go : jdd t n e r j = true → ∀ M3, q_fs lA fA M M3 → ∀ c s v, c = nI (dvN t (bsB t n j w) e + fb_ct (bsB t n j w e) r + 1) → s = Int32.ofInt (bsS t n j w e + fb_si (bsT t n j w e) r + (mk n e r j - mdE t n e r j)) → v = nI (r + 1 + 1) → q_G q_mt (L, xs, q_shp) E nX12_bias (d + 8) 0 0 (q_Q (L, xs, q_shp) E (fun v' M'' => v' = some (.int (Int32.ofInt (bsV t n j w))) ∧ P M'')) 78 [some (.ref 271), some (.int (nI j)), some (.int (Int32.ofInt w)), some (.int c), some (.int s), some (.int (nI e)), some (.int (Int32.ofInt f)), some (.int v)] [] M3 := by
            rintro h1 M3 hf3 c s v rfl rfl rfl
            have hB : bsB t n j w e r = true := by unfold bsB; rw [hE, h1]; rfl
            refine ih2 M3 hf3 _ _ _ (by rw [ct_t hB]; rfl) ?_ rfl
            rw [fb_si_succ, show bsT t n j w e r = mk n e r j - mdE t n e r j from if_pos hB]
            exact congrArg Int32.ofInt (by omega)
          have skip : jdd t n e r j = false → ∀ v, v = nI (r + 1 + 1) → q_G q_mt (L, xs, q_shp) E nX12_bias (d + 8) 0 0 (q_Q (L, xs, q_shp) E (fun v' M'' => v' = some (.int (Int32.ofInt (bsV t n j w))) ∧ P M'')) 78 [some (.ref 271), some (.int (nI j)), some (.int (Int32.ofInt w)), some (.int (nI (dvN t (bsB t n j w) e + fb_ct (bsB t n j w e) r))), some (.int (Int32.ofInt (bsS t n j w e + fb_si (bsT t n j w e) r))), some (.int (nI e)), some (.int (Int32.ofInt f)), some (.int v)] [] M2 := by
            rintro h1 v rfl
            have hB : bsB t n j w e r = false := by unfold bsB; rw [h1, Bool.and_false]
            refine ih2 M2 hf2 _ _ _ (by rw [ct_f hB]) ?_ rfl
            rw [fb_si_succ, show bsT t n j w e r = 0 from if_neg (by rw [hB]; decide), Int.add_zero]
          refine w_at 90 [29, 78] ?_
          refine ⟨0, _, by (first | assumption | (simp only [z_nat, z_lit, ← Int32.ofInt_add, ← Int32.ofInt_sub, ← Int32.ofInt_mul]; exact congrArg Int32.ofInt (by omega)) | (simp only [z_nat, z_lit, ← Int32.ofInt_add, ← Int32.ofInt_sub, ← Int32.ofInt_mul]; done) | exact congrArg Int32.ofInt (by omega) | rfl), by (dsimp only; omega), g2.R0, ?_⟩
          refine z_lt (t 0 0) ((r + 1 : Nat) : Int) (fun h => by omega) (fun h => ?_)
          refine z_le 2 w (fun h2 => ?_) (fun h2 => ?_)
          · rw [if_neg (by omega)] at hff
            subst hff
            refine z_ne 0 0 (fun z => absurd rfl z) (fun _ => ?_)
            refine k_isJudged4 g2 e r j he hr hj (fun h1 => bn_t (by decide) ?_) (fun h1 => bn_f (by decide) (skip h1 _ (by (first | assumption | (simp only [z_nat, z_lit, ← Int32.ofInt_add, ← Int32.ofInt_sub, ← Int32.ofInt_mul]; exact congrArg Int32.ofInt (by omega)) | (simp only [z_nat, z_lit, ← Int32.ofInt_add, ← Int32.ofInt_sub, ← Int32.ofInt_mul]; done) | exact congrArg Int32.ofInt (by omega) | rfl))))
            have hpr := prt_on g.R he hr (jdd_t.mp h1).1 (jdd_t.mp h1).2.1
            refine k_laysDive g2 e r he hr (fun M3 hf3 l3 => ?_)
            have hf4 : q_fs lA fA M M3 := hf2.tr hf3.mono
            refine ⟨j, _, by (first | assumption | (simp only [z_nat, z_lit, ← Int32.ofInt_add, ← Int32.ofInt_sub, ← Int32.ofInt_mul]; exact congrArg Int32.ofInt (by omega)) | (simp only [z_nat, z_lit, ← Int32.ofInt_add, ← Int32.ofInt_sub, ← Int32.ofInt_mul]; done) | exact congrArg Int32.ofInt (by omega) | rfl), by (dsimp only; omega), (l3.1 j (by omega)).1, ?_⟩
            refine k_middleOf (g.R.fs hf4) l3 j hj (fun v hv => ?_)
            have ev : v = mdE t n e r j := (hv.cong hpr).un mdV_is
            subst ev
            exact go h1 M3 hf4 _ _ _ (by (first | assumption | (simp only [z_nat, z_lit, ← Int32.ofInt_add, ← Int32.ofInt_sub, ← Int32.ofInt_mul]; exact congrArg Int32.ofInt (by omega)) | (simp only [z_nat, z_lit, ← Int32.ofInt_add, ← Int32.ofInt_sub, ← Int32.ofInt_mul]; done) | exact congrArg Int32.ofInt (by omega) | rfl)) (by (first | assumption | (simp only [z_nat, z_lit, ← Int32.ofInt_add, ← Int32.ofInt_sub, ← Int32.ofInt_mul]; exact congrArg Int32.ofInt (by omega)) | (simp only [z_nat, z_lit, ← Int32.ofInt_add, ← Int32.ofInt_sub, ← Int32.ofInt_mul]; done) | exact congrArg Int32.ofInt (by omega) | rfl)) (by (first | assumption | (simp only [z_nat, z_lit, ← Int32.ofInt_add, ← Int32.ofInt_sub, ← Int32.ofInt_mul]; exact congrArg Int32.ofInt (by omega)) | (simp only [z_nat, z_lit, ← Int32.ofInt_add, ← Int32.ofInt_sub, ← Int32.ofInt_mul]; done) | exact congrArg Int32.ofInt (by omega) | rfl))
          · rw [if_pos (by omega)] at hff
            subst hff
            refine z_ne 1 1 (fun z => absurd rfl z) (fun _ => ?_)
            refine k_isJudged4 g2 e r j he hr hj (fun h1 => bn_t (by decide) ?_) (fun h1 => bn_f (by decide) (skip h1 _ (by (first | assumption | (simp only [z_nat, z_lit, ← Int32.ofInt_add, ← Int32.ofInt_sub, ← Int32.ofInt_mul]; exact congrArg Int32.ofInt (by omega)) | (simp only [z_nat, z_lit, ← Int32.ofInt_add, ← Int32.ofInt_sub, ← Int32.ofInt_mul]; done) | exact congrArg Int32.ofInt (by omega) | rfl))))
            have hpr := prt_on g.R he hr (jdd_t.mp h1).1 (jdd_t.mp h1).2.1
            refine k_laysDive g2 e r he hr (fun M3 hf3 l3 => ?_)
            have hf4 : q_fs lA fA M M3 := hf2.tr hf3.mono
            refine ⟨j, _, by (first | assumption | (simp only [z_nat, z_lit, ← Int32.ofInt_add, ← Int32.ofInt_sub, ← Int32.ofInt_mul]; exact congrArg Int32.ofInt (by omega)) | (simp only [z_nat, z_lit, ← Int32.ofInt_add, ← Int32.ofInt_sub, ← Int32.ofInt_mul]; done) | exact congrArg Int32.ofInt (by omega) | rfl), by (dsimp only; omega), (l3.1 j (by omega)).1, ?_⟩
            refine k_middleOf (g.R.fs hf4) l3 j hj (fun v hv => ?_)
            have ev : v = mdE t n e r j := (hv.cong hpr).un mdV_is
            subst ev
            exact go h1 M3 hf4 _ _ _ (by (first | assumption | (simp only [z_nat, z_lit, ← Int32.ofInt_add, ← Int32.ofInt_sub, ← Int32.ofInt_mul]; exact congrArg Int32.ofInt (by omega)) | (simp only [z_nat, z_lit, ← Int32.ofInt_add, ← Int32.ofInt_sub, ← Int32.ofInt_mul]; done) | exact congrArg Int32.ofInt (by omega) | rfl)) (by (first | assumption | (simp only [z_nat, z_lit, ← Int32.ofInt_add, ← Int32.ofInt_sub, ← Int32.ofInt_mul]; exact congrArg Int32.ofInt (by omega)) | (simp only [z_nat, z_lit, ← Int32.ofInt_add, ← Int32.ofInt_sub, ← Int32.ofInt_mul]; done) | exact congrArg Int32.ofInt (by omega) | rfl)) (by (first | assumption | (simp only [z_nat, z_lit, ← Int32.ofInt_add, ← Int32.ofInt_sub, ← Int32.ofInt_mul]; exact congrArg Int32.ofInt (by omega)) | (simp only [z_nat, z_lit, ← Int32.ofInt_add, ← Int32.ofInt_sub, ← Int32.ofInt_mul]; done) | exact congrArg Int32.ofInt (by omega) | rfl))) 0 M' (Nat.zero_le _) hf
        have W3 : bsE t j w e = false → ∀ c s v x y, c = nI (dvN t (bsB t n j w) e) → s = Int32.ofInt (bsS t n j w e) → v = nI (e + 1) → q_G q_mt (L, xs, q_shp) E nX12_bias (d + 8) 0 0 (q_Q (L, xs, q_shp) E (fun v' M'' => v' = some (.int (Int32.ofInt (bsV t n j w))) ∧ P M'')) 29 [some (.ref 271), some (.int (nI j)), some (.int (Int32.ofInt w)), some (.int c), some (.int s), some (.int v), x, y] [] M' := by
          rintro hE c s v x y rfl rfl rfl
          have hz := bs_no (n := n) hE
          refine ih M' hf _ _ _ _ _ ?_ ?_ rfl
          · refine congrArg nI ?_
            show _ = dvN t (bsB t n j w) e + fb_ct (bsB t n j w e) (t 0 0)
            omega
          · refine congrArg Int32.ofInt ?_
            show _ = bsS t n j w e + fb_si (bsT t n j w e) (t 0 0)
            omega
        have W4 : ∀ f : Int, (f = 0 ∨ f = 1) → bsE t j w e = false → (w < 2 → f = 0) → (2 ≤ w → f = 1) → q_G q_mt (L, xs, q_shp) E nX12_bias (d + 8) 0 0 (q_Q (L, xs, q_shp) E (fun v' M'' => v' = some (.int (Int32.ofInt (bsV t n j w))) ∧ P M'')) 78 [some (.ref 271), some (.int (nI j)), some (.int (Int32.ofInt w)), some (.int (nI (dvN t (bsB t n j w) e))), some (.int (Int32.ofInt (bsS t n j w e))), some (.int (nI e)), some (.int (Int32.ofInt f)), some (.int (nI 1))] [] M' := by
          intro f hf01 hE h1 h2
          refine w_at 90 [29, 78] ?_
          refine ⟨0, _, by (first | assumption | (simp only [z_nat, z_lit, ← Int32.ofInt_add, ← Int32.ofInt_sub, ← Int32.ofInt_mul]; exact congrArg Int32.ofInt (by omega)) | (simp only [z_nat, z_lit, ← Int32.ofInt_add, ← Int32.ofInt_sub, ← Int32.ofInt_mul]; done) | exact congrArg Int32.ofInt (by omega) | rfl), by (dsimp only; omega), g'.R0, ?_⟩
          refine z_lt (t 0 0) (1 : Nat) (fun h => W3 hE _ _ _ _ _ rfl rfl (by (first | assumption | (simp only [z_nat, z_lit, ← Int32.ofInt_add, ← Int32.ofInt_sub, ← Int32.ofInt_mul]; exact congrArg Int32.ofInt (by omega)) | (simp only [z_nat, z_lit, ← Int32.ofInt_add, ← Int32.ofInt_sub, ← Int32.ofInt_mul]; done) | exact congrArg Int32.ofInt (by omega) | rfl))) (fun h => ?_)
          refine z_le 2 w (fun z => ?_) (fun z => ?_)
          · exact z_ne f 0 (fun _ => W3 hE _ _ _ _ _ rfl rfl (by (first | assumption | (simp only [z_nat, z_lit, ← Int32.ofInt_add, ← Int32.ofInt_sub, ← Int32.ofInt_mul]; exact congrArg Int32.ofInt (by omega)) | (simp only [z_nat, z_lit, ← Int32.ofInt_add, ← Int32.ofInt_sub, ← Int32.ofInt_mul]; done) | exact congrArg Int32.ofInt (by omega) | rfl))) (fun z2 => by have := h2 z; omega)
          · exact z_ne f 1 (fun _ => W3 hE _ _ _ _ _ rfl rfl (by (first | assumption | (simp only [z_nat, z_lit, ← Int32.ofInt_add, ← Int32.ofInt_sub, ← Int32.ofInt_mul]; exact congrArg Int32.ofInt (by omega)) | (simp only [z_nat, z_lit, ← Int32.ofInt_add, ← Int32.ofInt_sub, ← Int32.ofInt_mul]; done) | exact congrArg Int32.ofInt (by omega) | rfl))) (fun z2 => by have := h1 z; omega)
        refine w_at 90 [29, 78] ?_
        refine ⟨4, _, by (first | assumption | (simp only [z_nat, z_lit, ← Int32.ofInt_add, ← Int32.ofInt_sub, ← Int32.ofInt_mul]; exact congrArg Int32.ofInt (by omega)) | (simp only [z_nat, z_lit, ← Int32.ofInt_add, ← Int32.ofInt_sub, ← Int32.ofInt_mul]; done) | exact congrArg Int32.ofInt (by omega) | rfl), by (dsimp only; omega), g'.R4, ?_⟩
        refine z_le (t 8 0) e (fun h => by omega) (fun h => ?_)
        refine ⟨51 + 2 * e, _, by (first | assumption | (simp only [z_nat, z_lit, ← Int32.ofInt_add, ← Int32.ofInt_sub, ← Int32.ofInt_mul]; exact congrArg Int32.ofInt (by omega)) | (simp only [z_nat, z_lit, ← Int32.ofInt_add, ← Int32.ofInt_sub, ← Int32.ofInt_mul]; done) | exact congrArg Int32.ofInt (by omega) | rfl), by (dsimp only; omega), (g'.en he).2, ?_⟩
        refine ⟨8 + 2 * j, _, by (first | assumption | (simp only [z_nat, z_lit, ← Int32.ofInt_add, ← Int32.ofInt_sub, ← Int32.ofInt_mul]; exact congrArg Int32.ofInt (by omega)) | (simp only [z_nat, z_lit, ← Int32.ofInt_add, ← Int32.ofInt_sub, ← Int32.ofInt_mul]; done) | exact congrArg Int32.ofInt (by omega) | rfl), by (dsimp only; omega), (g'.ju hj).1, ?_⟩
        refine z_ne (t 10 e) (t 3 j) (fun h1 => ?_) (fun h1 => ?_)
        · by_cases qw : w < 2
          · exact W4 0 (Or.inl rfl) (by unfold bsE; rw [decide_eq_false (by omega), decide_eq_true qw]; rfl) (fun _ => rfl) (fun z => by omega)
          · exact W2 0 (by unfold bsE; rw [decide_eq_false (by omega), decide_eq_false qw]; rfl) (by rw [if_neg qw]) _ _ _ rfl (by show _ = Int32.ofInt (bsS t n j w e + 0); rw [Int.add_zero]) rfl
        · by_cases qw : w < 2
          · exact W2 1 (by unfold bsE; rw [decide_eq_true (by omega), decide_eq_true qw]; rfl) (by rw [if_pos qw]) _ _ _ rfl (by show _ = Int32.ofInt (bsS t n j w e + 0); rw [Int.add_zero]) rfl
          · exact W4 1 (Or.inr rfl) (by unfold bsE; rw [decide_eq_true (by omega), decide_eq_false qw]; rfl) (fun z => absurd z qw) (fun _ => rfl)
    · have fin : q_C q_mt (L, xs, q_shp) E nX12_bias (d + 8) 0 0 (.ref 271 :: [.int (nI j), .int (Int32.ofInt w)]) M (fun v' M'' => v' = some (.int (Int32.ofInt (-2147483648))) ∧ P M'') := by
        refine w_in 90 [29, 78] ?_
        refine c_X12_isJudge g.R.1 g.R.b (fun _ _ _ => br_f (by decide) ?_) (fun z => absurd ⟨j, hj, rfl⟩ z)
        exact k_isIn w 0 3 hw0 (by omega) (by omega) (fun z1 z2 => absurd ⟨z1, z2⟩ hw) (fun _ => bn_f (by decide) ⟨_, rfl, rfl, hP M q_fs.rf⟩)
      refine w_in 90 [] ?_
      refine d_hasJudge g.C g.R.b (fun _ _ _ => br_f (by decide) ?_) (fun z => absurd ⟨j, hj, rfl⟩ z)
      refine z_lt w 0 (fun z => ⟨_, rfl, _, rfl, fin⟩) (fun _ => ?_)
      exact z_le w 3 (fun _ => by omega) (fun z => ⟨_, rfl, _, rfl, fin⟩)
  · refine w_in 90 [] ?_
    refine d_hasJudge g.C g.R.b (fun i hi e => absurd ⟨i, hi, e⟩ q) (fun _ => br_t (by decide) ⟨_, rfl, _, rfl, ?_⟩)
    refine w_in 90 [29, 78] ?_
    exact c_X12_isJudge g.R.1 g.R.b (fun i hi e => absurd ⟨i, hi, e⟩ q) (fun _ => br_t (by decide) ⟨_, rfl, rfl, hP M q_fs.rf⟩)
end BI
