/-! the class's panel of a dive -/
/-- what the panel needs of the meet -/
def g_K (M : q_M) (t : q_T) : Prop := (M.1 6 2 = nI (t 2 0) ∧ ∀ j, j < t 2 0 → M.1 8 j = nI (t 4 j)) ∧ t 2 0 ≤ 11 ∧ ∀ j, j < t 2 0 → t 4 j ≤ 3
theorem g_A.K {c : Nat} {M : q_M} {t : q_T} {n : sN} (g : g_A c M t n) : g_K M t := ⟨⟨g.jN, fun j hj => (g.ju hj).2⟩, g.R.j11, fun j hj => (g.R.bj hj).2⟩
theorem g_Z.K {c : Nat} {M : q_M} {t : q_T} {n : sN} (g : g_Z c M t n) : g_K M t := ⟨⟨g.jN, fun j hj => (g.ju hj).2⟩, g.R.j11, fun j hj => (g.R.bj hj).2⟩
theorem g_K.eq {M M' : q_M} {t : q_T} (k : g_K M t) (h6 : M'.1 6 = M.1 6) (h8 : M'.1 8 = M.1 8) : g_K M' t := by
  unfold g_K at k ⊢
  rw [h6, h8]
  exact k
/-- a dive that is seated -/
def g_P (M : q_M) (t : q_T) (S : Nat → Bool) (m : Nat → Int) (cap bal hal deg : Int) (dr : Nat) : Prop := (∀ j, j < t 2 0 → bt (M.1 238 5) j = S j) ∧ (∀ j, j < t 2 0 → M.1 239 j = Int32.ofInt (m j) ∧ -1 ≤ m j ∧ m j ≤ 20) ∧ (M.1 238 6 = Int32.ofInt cap ∧ 0 ≤ cap ∧ cap ≤ 20) ∧ (M.1 238 7 = Int32.ofInt bal ∧ 0 ≤ bal ∧ bal ≤ 2) ∧ (M.1 238 8 = Int32.ofInt hal ∧ 0 ≤ hal ∧ hal ≤ 3) ∧ (M.1 238 9 = Int32.ofInt deg ∧ 0 ≤ deg ∧ deg ≤ 60) ∧ M.1 238 4 = nI dr ∧ dr ≤ 3
/-- what the panel may write -/
abbrev fP : List (Nat × Nat) := [(238, 10), (238, 11), (238, 12)]
theorem g_P.fs {M M' : q_M} {t : q_T} {S : Nat → Bool} {m : Nat → Int} {cap bal hal deg : Int} {dr : Nat} (p : g_P M t S m cap bal hal deg dr) (h : q_fs [240, 241] fP M M') : g_P M' t S m cap bal hal deg dr := by
  unfold g_P at p ⊢
  rw [h.p1 238 5, h.c1 239, h.p1 238 6, h.p1 238 7, h.p1 238 8, h.p1 238 9, h.p1 238 4]
  exact p
section PA
variable {S : Nat → Bool} {m : Nat → Int} {cap bal hal deg : Int} {dr : Nat}
variable {L : Nat} {xs : Nat → Int32} {E : q_E} {d : Nat} {M : q_M} {t : q_T} {n : sN} {Q : Option Value → q_M → Prop} {P : q_M → Prop}
set_option maxRecDepth 100000 in
set_option maxHeartbeats 4000000 in
theorem p_isOfSort (k : g_K M t) (p : g_P M t S m cap bal hal deg dr) {a b : Int32} (j s : Nat) (hj : j < t 2 0) (hs : s ≤ 3) (h1 : S j = true → t 4 j = s → Q (some (.int 1)) M) (h0 : ¬ (S j = true ∧ t 4 j = s) → Q (some (.int 0)) M) (ha : a = nI j := by (first | assumption | (simp only [z_nat, z_lit, ← Int32.ofInt_add, ← Int32.ofInt_sub, ← Int32.ofInt_mul]; exact congrArg Int32.ofInt (by omega)) | (simp only [z_nat, z_lit, ← Int32.ofInt_add, ← Int32.ofInt_sub, ← Int32.ofInt_mul]; done) | exact congrArg Int32.ofInt (by omega) | rfl)) (hb : b = nI s := by (first | assumption | (simp only [z_nat, z_lit, ← Int32.ofInt_add, ← Int32.ofInt_sub, ← Int32.ofInt_mul]; exact congrArg Int32.ofInt (by omega)) | (simp only [z_nat, z_lit, ← Int32.ofInt_add, ← Int32.ofInt_sub, ← Int32.ofInt_mul]; done) | exact congrArg Int32.ofInt (by omega) | rfl)) : q_C q_mt (L, xs, q_shp) E nX5_isOfSort (d) 0 0 [.ref 238, .int (a), .int (b)] M Q := by
  subst ha hb
  have h11 := k.2.1
  have h4 := k.2.2 j hj
  have hx := b_at (x := M.1 238 5) (j := j) (by omega)
  rw [p.1 j hj] at hx
  refine w_in 90 [] ?_
  refine ⟨_, rfl, ?_⟩
  cases q : S j with
  | true =>
    rw [q] at hx
    refine z_ne 1 1 (fun z => absurd rfl z) (fun _ => ?_) (hx := hx)
    refine ⟨j, _, by (first | assumption | (simp only [z_nat, z_lit, ← Int32.ofInt_add, ← Int32.ofInt_sub, ← Int32.ofInt_mul]; exact congrArg Int32.ofInt (by omega)) | (simp only [z_nat, z_lit, ← Int32.ofInt_add, ← Int32.ofInt_sub, ← Int32.ofInt_mul]; done) | exact congrArg Int32.ofInt (by omega) | rfl), by (dsimp only; omega), k.1.2 j hj, ?_⟩
    exact z_ne (t 4 j) s (fun z => ⟨z_0, h0 (fun z2 => z (by omega))⟩) (fun z => ⟨z_1, h1 q (by omega)⟩)
  | false =>
    rw [q] at hx
    exact z_ne 0 1 (fun _ => ⟨z_0, h0 (fun z2 => absurd (q.symm.trans z2.1) (by decide))⟩) (fun z => by omega) (hx := hx)
set_option maxRecDepth 100000 in
set_option maxHeartbeats 4000000 in
theorem p_countOf (p : g_P M t S m cap bal hal deg dr) {a b : Int32} (v : Int) (s : Nat) (hv : -1 ≤ v ∧ v ≤ 20) (hs : s ≤ 3) (hQ : Q (some (.int (Int32.ofInt (cvl cap bal hal s v)))) M) (ha : a = Int32.ofInt v := by (first | assumption | (simp only [z_nat, z_lit, ← Int32.ofInt_add, ← Int32.ofInt_sub, ← Int32.ofInt_mul]; exact congrArg Int32.ofInt (by omega)) | (simp only [z_nat, z_lit, ← Int32.ofInt_add, ← Int32.ofInt_sub, ← Int32.ofInt_mul]; done) | exact congrArg Int32.ofInt (by omega) | rfl)) (hb : b = nI s := by (first | assumption | (simp only [z_nat, z_lit, ← Int32.ofInt_add, ← Int32.ofInt_sub, ← Int32.ofInt_mul]; exact congrArg Int32.ofInt (by omega)) | (simp only [z_nat, z_lit, ← Int32.ofInt_add, ← Int32.ofInt_sub, ← Int32.ofInt_mul]; done) | exact congrArg Int32.ofInt (by omega) | rfl)) : q_C q_mt (L, xs, q_shp) E nX5_countOf (d + 1) 0 0 [.ref 238, .int (a), .int (b)] M Q := by
  subst ha hb
  obtain ⟨-, -, p6, p7, p8, -, -⟩ := p
  unfold cvl at hQ
  have W57 : ∀ (u : Int) (x : Int32), -1 ≤ u ∧ u ≤ 20 → x = Int32.ofInt u → cv3 bal u = cv3 bal (cv2 hal s (cv1 hal s (min v cap))) → q_G q_mt (L, xs, q_shp) E nX5_countOf (d + 1) 0 0 (q_Q (L, xs, q_shp) E Q) 57 [some (.ref 238), some (.int (Int32.ofInt v)), some (.int (nI s)), some (.int (x))] [] M := by
    rintro u x hu rfl e
    rw [← e] at hQ
    unfold cv3 at hQ
    refine w_at 90 [] ?_
    refine ⟨_, p7.1, ?_⟩
    refine z_le bal 0 (fun h => ?_) (fun h => ?_)
    · rw [if_neg (by omega)] at hQ
      exact ⟨_, rfl, hQ⟩
    · rw [if_pos h] at hQ
      refine ⟨_, ?_, hQ⟩
      rw [← Int32.ofInt_sub, z_max (by omega) (by omega)]
      refine congrArg Int32.ofInt ?_
      unfold clp
      split
      · omega
      · split <;> omega
  have W39 : ∀ (u : Int) (x : Int32), -1 ≤ u ∧ u ≤ 20 → x = Int32.ofInt u → u = cv1 hal s (min v cap) → q_G q_mt (L, xs, q_shp) E nX5_countOf (d + 1) 0 0 (q_Q (L, xs, q_shp) E Q) 39 [some (.ref 238), some (.int (Int32.ofInt v)), some (.int (nI s)), some (.int (x))] [] M := by
    rintro u x hu rfl e
    rw [← e] at W57
    unfold cv2 at W57
    refine w_at 90 [57] ?_
    refine z_ne s 3 (fun h => ?_) (fun h => ?_)
    · rw [if_neg (by omega)] at W57
      exact W57 u _ hu rfl rfl
    · refine ⟨_, p8.1, ?_⟩
      refine z_eq hal 0 (fun h2 => ?_) (fun h2 => ?_)
      · rw [if_neg (by omega)] at W57
        exact W57 u _ hu rfl rfl
      · rw [if_pos (by omega)] at W57
        refine W57 (min u 4) _ (by omega) ?_ rfl
        rw [z_min (by omega) (by omega)]
        exact congrArg Int32.ofInt (by omega)
  unfold cv1 at W39
  have hm : (if Int32.ofInt cap < Int32.ofInt v then Int32.ofInt cap else Int32.ofInt v) = Int32.ofInt (min v cap) := by
    rw [z_min (by omega) (by omega)]
    exact congrArg Int32.ofInt (by omega)
  have ha1 : ∀ h : Int, 0 ≤ h → h ≤ 3 → (Int32.ofInt h &&& Int32.ofInt 1 = Int32.ofInt (h % 2)) ∧ (Int32.ofInt h &&& Int32.ofInt 2 = Int32.ofInt (if 2 ≤ h then 2 else 0)) := by
    intro h h0 h3
    have : h = 0 ∨ h = 1 ∨ h = 2 ∨ h = 3 := by omega
    rcases this with rfl | rfl | rfl | rfl <;> decide
  have ha2 := ha1 hal p8.2.1 p8.2.2
  refine w_in 90 [39] ?_
  refine ⟨_, p6.1, ?_⟩
  refine z_ne s 1 (fun h => ?_) (fun h => ?_)
  · refine z_ne s 2 (fun h2 => ?_) (fun h2 => ?_)
    · rw [if_neg (by omega)] at W39
      exact W39 _ _ (by omega) hm rfl
    · refine ⟨_, p8.1, ?_⟩
      refine z_eq (if 2 ≤ hal then 2 else 0) 0 (fun h3 => ?_) (fun h3 => ?_) (hx := ha2.2) (ha := by split <;> omega)
      · rw [if_neg (by intro z; split at h3 <;> omega)] at W39
        exact W39 _ _ (by omega) hm rfl
      · rw [if_pos (Or.inr ⟨by omega, by split at h3 <;> omega⟩)] at W39
        exact W39 0 _ (by omega) rfl rfl
  · refine ⟨_, p8.1, ?_⟩
    refine z_ne (hal % 2) 0 (fun h3 => ?_) (fun h3 => ?_) (hx := ha2.1)
    · rw [if_pos (by omega)] at W39
      exact W39 0 _ (by omega) rfl rfl
    · refine z_ne s 2 (fun h2 => ?_) (fun h2 => by omega)
      rw [if_neg (by omega)] at W39
      exact W39 _ _ (by omega) hm rfl
/-- those of a sort -/
abbrev ofS (t : q_T) (S : Nat → Bool) (s : Nat) : Nat → Bool := fun i => S i && decide (t 4 i = s)
theorem ofS_t {s j : Nat} : ofS t S s j = true ↔ S j = true ∧ t 4 j = s := by
  show (S j && decide (t 4 j = s)) = true ↔ _
  rw [Bool.and_eq_true, decide_eq_true_eq]
theorem plc_rk {c : Nat → Int} {s j : Nat} (h : t 4 j = s) : plc t S c j = rk (ofS t S s) c (t 2 0) j := by
  unfold plc rk
  refine fb_ct_cong (fun i hi => ?_)
  show (S i && (decide (t 4 i = t 4 j) && bfr c i j)) = (S i && decide (t 4 i = s) && bfr c i j)
  rw [h, Bool.and_assoc]
set_option maxRecDepth 100000 in
set_option maxHeartbeats 4000000 in
theorem p_lineUp (k : g_K M t) (p : g_P M t S m cap bal hal deg dr) {a : Int32} (s : Nat) (hs : s ≤ 3) (hQ : ∀ M' R, q_fs [240, 241] [] M M' → isR (ofS t S s) (cvt t m cap bal hal) (t 2 0) R → (∀ q, q < pan t S s → M'.1 241 q = nI (R q)) → (∀ j, j < t 2 0 → ofS t S s j = true → M'.1 240 j = Int32.ofInt (cvt t m cap bal hal j)) → (∀ j, j < t 2 0 → ofS t S s j = false → M'.1 240 j = M.1 240 j) → Q (some (.int (nI (pan t S s)))) M') (ha : a = nI s := by (first | assumption | (simp only [z_nat, z_lit, ← Int32.ofInt_add, ← Int32.ofInt_sub, ← Int32.ofInt_mul]; exact congrArg Int32.ofInt (by omega)) | (simp only [z_nat, z_lit, ← Int32.ofInt_add, ← Int32.ofInt_sub, ← Int32.ofInt_mul]; done) | exact congrArg Int32.ofInt (by omega) | rfl)) : q_C q_mt (L, xs, q_shp) E nX5_lineUp (d + 2) 0 0 [.ref 238, .int (a)] M Q := by
  subst ha
  have h11 := k.2.1
  have J0 : ∀ {M' : q_M}, q_fs [240, 241] [] M M' → g_K M' t ∧ g_P M' t S m cap bal hal deg dr := fun h => ⟨k.eq (h.c1 6) (h.c1 8), p.fs h.mono⟩
  have W := lp_m (W := fun i M' => ∀ u v w, u = nI (fb_ct (ofS t S s) i) → v = nI i → q_G q_mt (L, xs, q_shp) E nX5_lineUp (d + 2) 0 0 (q_Q (L, xs, q_shp) E Q) 4 [some (.ref 238), some (.int (nI s)), some (.int (u)), some (.int (v)), w] [] M') (J := fun i M' => q_fs [240, 241] [] M M' ∧ (∃ R, isR (ofS t S s) (cvt t m cap bal hal) i R ∧ ∀ q, q < fb_ct (ofS t S s) i → M'.1 241 q = nI (R q)) ∧ (∀ j, j < i → ofS t S s j = true → M'.1 240 j = Int32.ofInt (cvt t m cap bal hal j)) ∧ ∀ j, (i ≤ j ∨ ofS t S s j = false) → M'.1 240 j = M.1 240 j) (t 2 0) ?_ ?_ 0 M (Nat.zero_le _) ⟨q_fs.rf, ⟨fun q => q, fun q hq => absurd hq (Nat.not_lt_zero _), fun q hq => absurd hq (Nat.not_lt_zero _)⟩, fun j hj => by omega, fun j _ => rfl⟩
  · refine w_in 90 [4] ?_
    exact W _ _ _ rfl rfl
  · rintro M' ⟨hf, ⟨R, hR, hq⟩, h1, h0⟩ u v w rfl rfl
    obtain ⟨k', p'⟩ := J0 hf
    refine w_at 90 [4] ?_
    refine ⟨_, k'.1.1, ?_⟩
    exact z_le (t 2 0) (t 2 0) (fun h => ⟨_, rfl, hQ M' R hf hR hq h1 (fun j _ hj => h0 j (Or.inr hj))⟩) (fun h => by omega)
  · rintro i M' hi ⟨hf, ⟨R, hR, hq⟩, h1, h0⟩ ih u v w rfl rfl
    obtain ⟨k', p'⟩ := J0 hf
    have hc := fb_ct_le (ofS t S s) i
    have hmi := p'.2.1 i hi
    have hcb : ∀ j, j < t 2 0 → -1 ≤ cvt t m cap bal hal j ∧ cvt t m cap bal hal j ≤ 20 := fun j hj => cvl_b (p.2.1 j hj).2 p.2.2.1.2.1
    refine w_at 90 [4, 47] ?_
    refine ⟨_, k'.1.1, ?_⟩
    refine z_le (t 2 0) i (fun h => by omega) (fun h => ?_)
    refine p_isOfSort k' p' i s hi hs (fun a1 a2 => bn_t (by decide) ?_) (fun a0 => bn_f (by decide) ?_)
    · have hA : ofS t S s i = true := ofS_t.mpr ⟨a1, a2⟩
      refine ⟨i, _, by (first | assumption | (simp only [z_nat, z_lit, ← Int32.ofInt_add, ← Int32.ofInt_sub, ← Int32.ofInt_mul]; exact congrArg Int32.ofInt (by omega)) | (simp only [z_nat, z_lit, ← Int32.ofInt_add, ← Int32.ofInt_sub, ← Int32.ofInt_mul]; done) | exact congrArg Int32.ofInt (by omega) | rfl), by (dsimp only; omega), hmi.1, ?_⟩
      refine p_countOf p' (m i) s hmi.2 hs ?_
      refine ⟨i, _, by (first | assumption | (simp only [z_nat, z_lit, ← Int32.ofInt_add, ← Int32.ofInt_sub, ← Int32.ofInt_mul]; exact congrArg Int32.ofInt (by omega)) | (simp only [z_nat, z_lit, ← Int32.ofInt_add, ← Int32.ofInt_sub, ← Int32.ofInt_mul]; done) | exact congrArg Int32.ofInt (by omega) | rfl), by (dsimp only; omega), rfl, ?_⟩
      have ec : cvl cap bal hal s (m i) = cvt t m cap bal hal i := by
        show _ = cvl cap bal hal (t 4 i) (m i)
        rw [a2]
      rw [ec]
      have key : ∀ pp (M2 : q_M), pp ≤ fb_ct (ofS t S s) i → q_fs [241] [] (q_si M' 240 i (Int32.ofInt (cvt t m cap bal hal i))) M2 → (∀ q, q < pp → M2.1 241 q = nI (R q)) → (∀ q, pp ≤ q → q < fb_ct (ofS t S s) i → M2.1 241 (q + 1) = nI (R q) ∧ cvt t m cap bal hal i < cvt t m cap bal hal (R q)) → ∀ x, x = nI pp → q_G q_mt (L, xs, q_shp) E nX5_lineUp (d + 2) 0 0 (q_Q (L, xs, q_shp) E Q) 47 [some (.ref 238), some (.int (nI s)), some (.int (nI (fb_ct (ofS t S s) i))), some (.int (nI i)), some (.int (x))] [] M2 := by
        intro pp
        induction pp with
        | zero =>
          rintro M2 hp hf2 b1 b2 x rfl
          refine w_at 90 [4, 47] ?_
          refine z_le (0 : Nat) 0 (fun _ => ?_) (fun z => by omega)
          refine ⟨0, _, by (first | assumption | (simp only [z_nat, z_lit, ← Int32.ofInt_add, ← Int32.ofInt_sub, ← Int32.ofInt_mul]; exact congrArg Int32.ofInt (by omega)) | (simp only [z_nat, z_lit, ← Int32.ofInt_add, ← Int32.ofInt_sub, ← Int32.ofInt_mul]; done) | exact congrArg Int32.ofInt (by omega) | rfl), by (dsimp only; omega), rfl, ?_⟩
          refine ih _ ⟨?_, ⟨insR R 0 i, hR.ins hA hp (fun q z1 z2 => (b2 q z1 z2).2) (Or.inl rfl), fun q hq2 => ?_⟩, fun j hj hj2 => ?_, fun j hj => ?_⟩ _ _ _ (by rw [ct_t hA]; (first | assumption | (simp only [z_nat, z_lit, ← Int32.ofInt_add, ← Int32.ofInt_sub, ← Int32.ofInt_mul]; exact congrArg Int32.ofInt (by omega)) | (simp only [z_nat, z_lit, ← Int32.ofInt_add, ← Int32.ofInt_sub, ← Int32.ofInt_mul]; done) | exact congrArg Int32.ofInt (by omega) | rfl)) (by (first | assumption | (simp only [z_nat, z_lit, ← Int32.ofInt_add, ← Int32.ofInt_sub, ← Int32.ofInt_mul]; exact congrArg Int32.ofInt (by omega)) | (simp only [z_nat, z_lit, ← Int32.ofInt_add, ← Int32.ofInt_sub, ← Int32.ofInt_mul]; done) | exact congrArg Int32.ofInt (by omega) | rfl))
          · exact ((hf.s1 (r := 240) (i := i)).tr hf2.mono).s1
          · rw [ct_t hA] at hq2
            unfold insR
            rw [if_neg (Nat.not_lt_zero _)]
            by_cases q0 : q = 0
            · rw [if_pos q0, q0, q_si_s]
            · rw [if_neg q0, q_si_n q0]
              have := (b2 (q - 1) (by omega) (by omega)).1
              rw [show q - 1 + 1 = q by omega] at this
              exact this
          · rw [show (q_si M2 241 0 (nI i)).1 240 = M2.1 240 from (q_fs.si (l := [241]) (f := []) rfl).c1 240, hf2.c1 240]
            by_cases q0 : j = i
            · rw [q0, q_si_s]
            · rw [q_si_n q0]
              exact h1 j (by omega) hj2
          · rw [show (q_si M2 241 0 (nI i)).1 240 = M2.1 240 from (q_fs.si (l := [241]) (f := []) rfl).c1 240, hf2.c1 240]
            by_cases q0 : j = i
            · rcases hj with z | z
              · omega
              · rw [q0, hA] at z
                exact absurd z (by decide)
            · rw [q_si_n q0]
              exact h0 j (hj.elim (fun z => Or.inl (by omega)) Or.inr)
        | succ pp ihp =>
          rintro M2 hp hf2 b1 b2 x rfl
          have hr := hR pp (by omega)
          have e40 : ∀ j, j < t 2 0 → ofS t S s j = true → j ≤ i → M2.1 240 j = Int32.ofInt (cvt t m cap bal hal j) := by
            intro j hj hj2 hj3
            rw [hf2.c1 240]
            by_cases q0 : j = i
            · rw [q0, q_si_s]
            · rw [q_si_n q0]
              exact h1 j (by omega) hj2
          have hb1 := hcb i hi
          have hb2 := hcb (R pp) (by omega)
          refine w_at 90 [4, 47] ?_
          refine z_le ((pp + 1 : Nat) : Int) 0 (fun z => by omega) (fun _ => ?_)
          refine ⟨pp, _, by (first | assumption | (simp only [z_nat, z_lit, ← Int32.ofInt_add, ← Int32.ofInt_sub, ← Int32.ofInt_mul]; exact congrArg Int32.ofInt (by omega)) | (simp only [z_nat, z_lit, ← Int32.ofInt_add, ← Int32.ofInt_sub, ← Int32.ofInt_mul]; done) | exact congrArg Int32.ofInt (by omega) | rfl), by (dsimp only; omega), b1 pp (by omega), ?_⟩
          refine ⟨R pp, _, by (first | assumption | (simp only [z_nat, z_lit, ← Int32.ofInt_add, ← Int32.ofInt_sub, ← Int32.ofInt_mul]; exact congrArg Int32.ofInt (by omega)) | (simp only [z_nat, z_lit, ← Int32.ofInt_add, ← Int32.ofInt_sub, ← Int32.ofInt_mul]; done) | exact congrArg Int32.ofInt (by omega) | rfl), by (dsimp only; omega), e40 (R pp) (by omega) hr.2.1 (by omega), ?_⟩
          refine ⟨i, _, by (first | assumption | (simp only [z_nat, z_lit, ← Int32.ofInt_add, ← Int32.ofInt_sub, ← Int32.ofInt_mul]; exact congrArg Int32.ofInt (by omega)) | (simp only [z_nat, z_lit, ← Int32.ofInt_add, ← Int32.ofInt_sub, ← Int32.ofInt_mul]; done) | exact congrArg Int32.ofInt (by omega) | rfl), by (dsimp only; omega), e40 i hi hA (Nat.le_refl _), ?_⟩
          refine z_le (cvt t m cap bal hal (R pp)) (cvt t m cap bal hal i) (fun z => ?_) (fun z => ?_)
          · refine ⟨pp + 1, _, by (first | assumption | (simp only [z_nat, z_lit, ← Int32.ofInt_add, ← Int32.ofInt_sub, ← Int32.ofInt_mul]; exact congrArg Int32.ofInt (by omega)) | (simp only [z_nat, z_lit, ← Int32.ofInt_add, ← Int32.ofInt_sub, ← Int32.ofInt_mul]; done) | exact congrArg Int32.ofInt (by omega) | rfl), by (dsimp only; omega), rfl, ?_⟩
            refine ih _ ⟨?_, ⟨insR R (pp + 1) i, hR.ins hA hp (fun q z1 z2 => (b2 q z1 z2).2) (Or.inr z), fun q hq2 => ?_⟩, fun j hj hj2 => ?_, fun j hj => ?_⟩ _ _ _ (by rw [ct_t hA]; (first | assumption | (simp only [z_nat, z_lit, ← Int32.ofInt_add, ← Int32.ofInt_sub, ← Int32.ofInt_mul]; exact congrArg Int32.ofInt (by omega)) | (simp only [z_nat, z_lit, ← Int32.ofInt_add, ← Int32.ofInt_sub, ← Int32.ofInt_mul]; done) | exact congrArg Int32.ofInt (by omega) | rfl)) (by (first | assumption | (simp only [z_nat, z_lit, ← Int32.ofInt_add, ← Int32.ofInt_sub, ← Int32.ofInt_mul]; exact congrArg Int32.ofInt (by omega)) | (simp only [z_nat, z_lit, ← Int32.ofInt_add, ← Int32.ofInt_sub, ← Int32.ofInt_mul]; done) | exact congrArg Int32.ofInt (by omega) | rfl))
            · exact ((hf.s1 (r := 240) (i := i)).tr hf2.mono).s1
            · rw [ct_t hA] at hq2
              unfold insR
              by_cases q1 : q < pp + 1
              · rw [if_pos q1, q_si_n (by omega)]
                exact b1 q q1
              · rw [if_neg q1]
                by_cases q0 : q = pp + 1
                · rw [if_pos q0, q0, q_si_s]
                · rw [if_neg q0, q_si_n q0]
                  have := (b2 (q - 1) (by omega) (by omega)).1
                  rw [show q - 1 + 1 = q by omega] at this
                  exact this
            · rw [show (q_si M2 241 (pp + 1) (nI i)).1 240 = M2.1 240 from (q_fs.si (l := [241]) (f := []) rfl).c1 240, hf2.c1 240]
              by_cases q0 : j = i
              · rw [q0, q_si_s]
              · rw [q_si_n q0]
                exact h1 j (by omega) hj2
            · rw [show (q_si M2 241 (pp + 1) (nI i)).1 240 = M2.1 240 from (q_fs.si (l := [241]) (f := []) rfl).c1 240, hf2.c1 240]
              by_cases q0 : j = i
              · rcases hj with z | z
                · omega
                · rw [q0, hA] at z
                  exact absurd z (by decide)
              · rw [q_si_n q0]
                exact h0 j (hj.elim (fun z => Or.inl (by omega)) Or.inr)
          · refine ⟨pp, _, by (first | assumption | (simp only [z_nat, z_lit, ← Int32.ofInt_add, ← Int32.ofInt_sub, ← Int32.ofInt_mul]; exact congrArg Int32.ofInt (by omega)) | (simp only [z_nat, z_lit, ← Int32.ofInt_add, ← Int32.ofInt_sub, ← Int32.ofInt_mul]; done) | exact congrArg Int32.ofInt (by omega) | rfl), by (dsimp only; omega), b1 pp (by omega), ?_⟩
            refine ⟨pp + 1, _, by (first | assumption | (simp only [z_nat, z_lit, ← Int32.ofInt_add, ← Int32.ofInt_sub, ← Int32.ofInt_mul]; exact congrArg Int32.ofInt (by omega)) | (simp only [z_nat, z_lit, ← Int32.ofInt_add, ← Int32.ofInt_sub, ← Int32.ofInt_mul]; done) | exact congrArg Int32.ofInt (by omega) | rfl), by (dsimp only; omega), rfl, ?_⟩
            refine ihp _ (by omega) hf2.s1 (fun q hq2 => ?_) (fun q z1 z2 => ?_) _ (by (first | assumption | (simp only [z_nat, z_lit, ← Int32.ofInt_add, ← Int32.ofInt_sub, ← Int32.ofInt_mul]; exact congrArg Int32.ofInt (by omega)) | (simp only [z_nat, z_lit, ← Int32.ofInt_add, ← Int32.ofInt_sub, ← Int32.ofInt_mul]; done) | exact congrArg Int32.ofInt (by omega) | rfl))
            · rw [q_si_n (by omega)]
              exact b1 q (by omega)
            · by_cases q0 : q = pp
              · rw [q0, q_si_s]
                exact ⟨rfl, z⟩
              · rw [q_si_n (by omega)]
                exact b2 q (by omega) z2
      refine key _ _ (Nat.le_refl _) q_fs.rf (fun q hq2 => ?_) (fun q z1 z2 => by omega) _ rfl
      rw [show (q_si M' 240 i (Int32.ofInt (cvt t m cap bal hal i))).1 241 = M'.1 241 from (q_fs.si (l := [240]) (f := []) rfl).c1 241]
      exact hq q hq2
    · have hA : ofS t S s i = false := Bool.eq_false_iff.mpr (fun z => a0 (ofS_t.mp z))
      refine ih _ ⟨hf, ⟨R, ?_, ?_⟩, fun j hj hj2 => ?_, fun j hj => ?_⟩ _ _ _ (by rw [ct_f hA]) (by (first | assumption | (simp only [z_nat, z_lit, ← Int32.ofInt_add, ← Int32.ofInt_sub, ← Int32.ofInt_mul]; exact congrArg Int32.ofInt (by omega)) | (simp only [z_nat, z_lit, ← Int32.ofInt_add, ← Int32.ofInt_sub, ← Int32.ofInt_mul]; done) | exact congrArg Int32.ofInt (by omega) | rfl))
      · intro q hq2
        rw [ct_f hA] at hq2
        have := hR q hq2
        refine ⟨by omega, this.2.1, ?_⟩
        unfold rk at this ⊢
        rw [ct_f (by show (ofS t S s i && _) = false; rw [hA, Bool.false_and])]
        exact this.2.2
      · intro q hq2
        rw [ct_f hA] at hq2
        exact hq q hq2
      · by_cases q0 : j = i
        · rw [q0, hA] at hj2
          exact absurd hj2 (by decide)
        · exact h1 j (by omega) hj2
      · by_cases q0 : j = i
        · exact h0 j (Or.inr (by rw [q0]; exact hA))
        · exact h0 j (hj.elim (fun z => Or.inl (by omega)) Or.inr)
end PA
