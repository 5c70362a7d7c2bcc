/-! the calls look, board, marked, expected, needs -/
theorem sw_at {k : Nat → Prop} {x : Int} {p : Nat} : ∀ {ts : List Nat} {lo : Int} (j : Nat), x = lo + j → ts[j]? = some p → k p → q_swt k x lo ts
  | [], _, j, _, h, _ => by simp at h
  | a :: ts, lo, 0, hx, h, hk => by
    refine ⟨fun _ => ?_, ?_⟩
    · rw [show a = p by simpa using h]
      exact hk
    · have : ∀ (ts : List Nat) (lo : Int), x < lo → q_swt k x lo ts := by
        intro ts
        induction ts with
        | nil => intro _ _; exact trivial
        | cons b ts ih => intro lo hl; exact ⟨fun e => by omega, ih (lo + 1) (by omega)⟩
      exact this ts (lo + 1) (by omega)
  | a :: ts, lo, j + 1, hx, h, hk => ⟨fun e => by omega, sw_at j (by omega) (by simpa using h) hk⟩
theorem sw_no {k : Nat → Prop} {x : Int} : ∀ {ts : List Nat} {lo : Int}, x < lo ∨ lo + ts.length ≤ x → q_swt k x lo ts
  | [], _, _ => trivial
  | a :: ts, lo, h => by
    rw [List.length_cons] at h
    exact ⟨fun e => by omega, sw_no (by omega)⟩
section O2
variable {L : Nat} {xs : Nat → Int32} {E : q_E} {d : Nat} {M : q_M} {t : q_T} {n : sN} {Q : Option Value → q_M → Prop} {P : q_M → Prop}
set_option maxRecDepth 100000 in
set_option maxHeartbeats 4000000 in
theorem o_look {a : Int32} (g : g_A 43 M t n) (hD : b_D t n) (h5 : M.1 17 5 = nI (t 17 0)) (h7 : M.1 68 2 = M.1 271 28) (h10 : M.1 3 2 = M.1 271 1) (hP : P M) : zOp L xs E nX11_look nX12_look (d + 3) [.int a] M P := by
  obtain ⟨w, hw, rfl⟩ := z_of a
  have h6 := g.R.r6
  by_cases q : w < 0 ∨ 10 < w
  · refine w_in 90 [] ?_
    refine ⟨fun _ => ⟨_, rfl, _, rfl, ?_⟩, sw_no (by rw [z_toInt hw]; exact q.elim Or.inl (fun z => Or.inr (by show (0 : Int) + 11 ≤ w; omega)))⟩
    refine w_in 90 [] ?_
    exact ⟨fun _ => ⟨_, rfl, rfl, hP⟩, sw_no (by rw [z_toInt hw]; exact q.elim Or.inl (fun z => Or.inr (by show (0 : Int) + 11 ≤ w; omega)))⟩
  · obtain rfl | rfl | rfl | rfl | rfl | rfl | rfl | rfl | rfl | rfl | rfl : w = 0 ∨ w = 1 ∨ w = 2 ∨ w = 3 ∨ w = 4 ∨ w = 5 ∨ w = 6 ∨ w = 7 ∨ w = 8 ∨ w = 9 ∨ w = 10 := by omega
    · refine w_in 90 [] ?_
      refine ⟨fun z => absurd z (by decide), sw_at 0 (by decide) rfl ?_⟩
      refine ⟨_, g.ro, ?_⟩
      refine ⟨_, rfl, _, rfl, ?_⟩
      refine w_in 90 [] ?_
      refine ⟨fun z => absurd z (by decide), sw_at 0 (by decide) rfl ?_⟩
      refine ⟨0, _, by (first | assumption | (simp only [z_nat, z_lit, ← Int32.ofInt_add, ← Int32.ofInt_sub, ← Int32.ofInt_mul]; exact congrArg Int32.ofInt (by omega)) | (simp only [z_nat, z_lit, ← Int32.ofInt_add, ← Int32.ofInt_sub, ← Int32.ofInt_mul]; done) | exact congrArg Int32.ofInt (by omega) | rfl), by (dsimp only; omega), g.R.R0, ?_⟩
      exact ⟨_, rfl, rfl, hP⟩
    · refine w_in 90 [] ?_
      refine ⟨fun z => absurd z (by decide), sw_at 1 (by decide) rfl ?_⟩
      refine ⟨_, g.dr, ?_⟩
      refine ⟨_, rfl, _, rfl, ?_⟩
      refine w_in 90 [] ?_
      refine ⟨fun z => absurd z (by decide), sw_at 1 (by decide) rfl ?_⟩
      refine ⟨1, _, by (first | assumption | (simp only [z_nat, z_lit, ← Int32.ofInt_add, ← Int32.ofInt_sub, ← Int32.ofInt_mul]; exact congrArg Int32.ofInt (by omega)) | (simp only [z_nat, z_lit, ← Int32.ofInt_add, ← Int32.ofInt_sub, ← Int32.ofInt_mul]; done) | exact congrArg Int32.ofInt (by omega) | rfl), by (dsimp only; omega), g.R.R1, ?_⟩
      exact ⟨_, rfl, rfl, hP⟩
    · refine w_in 90 [] ?_
      refine ⟨fun z => absurd z (by decide), sw_at 2 (by decide) rfl ?_⟩
      refine ⟨_, g.jN, ?_⟩
      refine ⟨_, rfl, _, rfl, ?_⟩
      refine w_in 90 [] ?_
      refine ⟨fun z => absurd z (by decide), sw_at 2 (by decide) rfl ?_⟩
      refine ⟨2, _, by (first | assumption | (simp only [z_nat, z_lit, ← Int32.ofInt_add, ← Int32.ofInt_sub, ← Int32.ofInt_mul]; exact congrArg Int32.ofInt (by omega)) | (simp only [z_nat, z_lit, ← Int32.ofInt_add, ← Int32.ofInt_sub, ← Int32.ofInt_mul]; done) | exact congrArg Int32.ofInt (by omega) | rfl), by (dsimp only; omega), g.R.R2, ?_⟩
      exact ⟨_, rfl, rfl, hP⟩
    · refine w_in 90 [] ?_
      refine ⟨fun z => absurd z (by decide), sw_at 3 (by decide) rfl ?_⟩
      refine ⟨_, g.dN, ?_⟩
      refine ⟨_, rfl, _, rfl, ?_⟩
      refine w_in 90 [] ?_
      refine ⟨fun z => absurd z (by decide), sw_at 3 (by decide) rfl ?_⟩
      refine ⟨3, _, by (first | assumption | (simp only [z_nat, z_lit, ← Int32.ofInt_add, ← Int32.ofInt_sub, ← Int32.ofInt_mul]; exact congrArg Int32.ofInt (by omega)) | (simp only [z_nat, z_lit, ← Int32.ofInt_add, ← Int32.ofInt_sub, ← Int32.ofInt_mul]; done) | exact congrArg Int32.ofInt (by omega) | rfl), by (dsimp only; omega), g.R.R3, ?_⟩
      exact ⟨_, rfl, rfl, hP⟩
    · refine w_in 90 [] ?_
      refine ⟨fun z => absurd z (by decide), sw_at 4 (by decide) rfl ?_⟩
      refine ⟨_, g.eN, ?_⟩
      refine ⟨_, rfl, _, rfl, ?_⟩
      refine w_in 90 [] ?_
      refine ⟨fun z => absurd z (by decide), sw_at 4 (by decide) rfl ?_⟩
      refine ⟨4, _, by (first | assumption | (simp only [z_nat, z_lit, ← Int32.ofInt_add, ← Int32.ofInt_sub, ← Int32.ofInt_mul]; exact congrArg Int32.ofInt (by omega)) | (simp only [z_nat, z_lit, ← Int32.ofInt_add, ← Int32.ofInt_sub, ← Int32.ofInt_mul]; done) | exact congrArg Int32.ofInt (by omega) | rfl), by (dsimp only; omega), g.R.R4, ?_⟩
      exact ⟨_, rfl, rfl, hP⟩
    · refine w_in 90 [] ?_
      refine ⟨fun z => absurd z (by decide), sw_at 5 (by decide) rfl ?_⟩
      refine ⟨_, h5, ?_⟩
      refine ⟨_, rfl, _, rfl, ?_⟩
      refine w_in 90 [] ?_
      refine ⟨fun z => absurd z (by decide), sw_at 5 (by decide) rfl ?_⟩
      refine ⟨5, _, by (first | assumption | (simp only [z_nat, z_lit, ← Int32.ofInt_add, ← Int32.ofInt_sub, ← Int32.ofInt_mul]; exact congrArg Int32.ofInt (by omega)) | (simp only [z_nat, z_lit, ← Int32.ofInt_add, ← Int32.ofInt_sub, ← Int32.ofInt_mul]; done) | exact congrArg Int32.ofInt (by omega) | rfl), by (dsimp only; omega), g.R.R5, ?_⟩
      exact ⟨_, rfl, rfl, hP⟩
    · refine w_in 90 [] ?_
      refine ⟨fun z => absurd z (by decide), sw_at 6 (by decide) rfl ?_⟩
      refine ⟨_, g.cN, ?_⟩
      refine ⟨_, rfl, _, rfl, ?_⟩
      refine w_in 90 [] ?_
      refine ⟨fun z => absurd z (by decide), sw_at 6 (by decide) rfl ?_⟩
      refine ⟨6, _, by (first | assumption | (simp only [z_nat, z_lit, ← Int32.ofInt_add, ← Int32.ofInt_sub, ← Int32.ofInt_mul]; exact congrArg Int32.ofInt (by omega)) | (simp only [z_nat, z_lit, ← Int32.ofInt_add, ← Int32.ofInt_sub, ← Int32.ofInt_mul]; done) | exact congrArg Int32.ofInt (by omega) | rfl), by (dsimp only; omega), g.R.R6, ?_⟩
      exact ⟨_, rfl, rfl, hP⟩
    · refine w_in 90 [] ?_
      refine ⟨fun z => absurd z (by decide), sw_at 7 (by decide) rfl ?_⟩
      refine ⟨_, h7, ?_⟩
      refine ⟨_, rfl, _, rfl, ?_⟩
      refine w_in 90 [] ?_
      refine ⟨fun z => absurd z (by decide), sw_at 7 (by decide) rfl ?_⟩
      exact ⟨_, rfl, _, rfl, rfl, hP⟩
    · have fin : q_C q_mt (L, xs, q_shp) E nX12_look (d + 3) 0 0 (.ref 271 :: [.int (Int32.ofInt 8)]) M (fun v' M'' => v' = some (.int (Int32.ofInt (n 633))) ∧ P M'') := by
        refine w_in 90 [] ?_
        refine ⟨fun z => absurd z (by decide), sw_at 8 (by decide) rfl ?_⟩
        refine ⟨633, _, by (first | assumption | (simp only [z_nat, z_lit, ← Int32.ofInt_add, ← Int32.ofInt_sub, ← Int32.ofInt_mul]; exact congrArg Int32.ofInt (by omega)) | (simp only [z_nat, z_lit, ← Int32.ofInt_add, ← Int32.ofInt_sub, ← Int32.ofInt_mul]; done) | exact congrArg Int32.ofInt (by omega) | rfl), by (dsimp only; omega), g.R.at (by omega), ?_⟩
        exact ⟨_, rfl, rfl, hP⟩
      refine w_in 90 [] ?_
      refine ⟨fun z => absurd z (by decide), sw_at 8 (by decide) rfl ?_⟩
      refine ⟨_, g.ro, ?_⟩
      refine z_le (t 0 0) 0 (fun h => ⟨_, rfl, _, rfl, ?_⟩) (fun h => ?_)
      · have e0 := hD.2.1 (by omega)
        rw [e0] at fin
        exact fin
      · refine ⟨_, g.dv, ?_⟩
        by_cases q2 : isB t n
        · obtain ⟨e, r, hb, -⟩ := hD.2.2 q2
          have e6 := g.R.e6
          have he := hb.2.1
          rw [brd_at hb]
          refine z_ne (e : Int) (-1) (fun _ => ⟨_, rfl, _, rfl, ?_⟩) (fun z => by omega)
          rw [hD.1.elim id (fun z => absurd z q2.2)] at fin
          exact fin
        · rw [brd_no q2]
          refine z_ne (-1) (-1) (fun z => absurd rfl z) (fun _ => ⟨_, rfl, _, rfl, ?_⟩)
          rw [hD.1.elim (fun z => absurd ⟨by omega, by omega⟩ q2) id] at fin
          exact fin
    · refine w_in 90 [] ?_
      refine ⟨fun z => absurd z (by decide), sw_at 9 (by decide) rfl ?_⟩
      refine k2_countIn_43 g.Z ⟨_, rfl, _, rfl, ?_⟩
      refine w_in 90 [] ?_
      refine ⟨fun z => absurd z (by decide), sw_at 9 (by decide) rfl ?_⟩
      exact k_inMany g.R ⟨_, rfl, rfl, hP⟩
    · refine w_in 90 [] ?_
      refine ⟨fun z => absurd z (by decide), sw_at 10 (by decide) rfl ?_⟩
      refine ⟨_, h10, ?_⟩
      refine ⟨_, rfl, _, rfl, ?_⟩
      refine w_in 90 [] ?_
      refine ⟨fun z => absurd z (by decide), sw_at 10 (by decide) rfl ?_⟩
      exact ⟨_, rfl, _, rfl, rfl, hP⟩
set_option maxRecDepth 100000 in
set_option maxHeartbeats 4000000 in
theorem k2_boardSlot (g : g_Z 43 M t n) {e r : Nat} (hb : b_B t n e r) (hQ : Q (some (.int (nI (16 * (6 * e + r))))) M) : q_C q_mt (L, xs, q_shp) E nX8_boardSlot (d) 0 0 [.ref 43] M Q := by
  have h6 := g.R.e6
  have h7 := g.R.r6
  have he := hb.2.1
  have hr := hb.2.2.1
  have h31 := hb.2.2.2.1
  have e1 := g.dv
  have e2 := g.rn
  rw [brd_at hb] at e1
  rw [h31] at e2
  refine w_in 90 [] ?_
  refine ⟨_, e1, ?_⟩
  refine ⟨_, e2, ?_⟩
  exact ⟨_, by (first | assumption | (simp only [z_nat, z_lit, ← Int32.ofInt_add, ← Int32.ofInt_sub, ← Int32.ofInt_mul]; exact congrArg Int32.ofInt (by omega)) | (simp only [z_nat, z_lit, ← Int32.ofInt_add, ← Int32.ofInt_sub, ← Int32.ofInt_mul]; done) | exact congrArg Int32.ofInt (by omega) | rfl), hQ⟩
set_option maxRecDepth 100000 in
set_option maxHeartbeats 4000000 in
theorem k2_boardSlot_257 (g : g_Z 257 M t n) {e r : Nat} (hb : b_B t n e r) (hQ : Q (some (.int (nI (16 * (6 * e + r))))) M) : q_C q_mt (L, xs, q_shp) E nX8_boardSlot (d) 0 0 [.ref 257] M Q := by
  have h6 := g.R.e6
  have h7 := g.R.r6
  have he := hb.2.1
  have hr := hb.2.2.1
  have h31 := hb.2.2.2.1
  have e1 := g.dv
  have e2 := g.rn
  rw [brd_at hb] at e1
  rw [h31] at e2
  refine w_in 90 [] ?_
  refine ⟨_, e1, ?_⟩
  refine ⟨_, e2, ?_⟩
  exact ⟨_, by (first | assumption | (simp only [z_nat, z_lit, ← Int32.ofInt_add, ← Int32.ofInt_sub, ← Int32.ofInt_mul]; exact congrArg Int32.ofInt (by omega)) | (simp only [z_nat, z_lit, ← Int32.ofInt_add, ← Int32.ofInt_sub, ← Int32.ofInt_mul]; done) | exact congrArg Int32.ofInt (by omega) | rfl), hQ⟩
set_option maxRecDepth 100000 in
set_option maxHeartbeats 4000000 in
theorem o_marked {a : Int32} (g : g_A 43 M t n) (hD : b_D t n) (hP : P M) : zOp L xs E nX11_marked nX12_marked (d + 3) [.int a] M P := by
  have e1 := g.dv
  have h6 := g.R.e6
  have h7 := g.R.r6
  have h11 := g.R.j11
  by_cases q : isB t n
  · obtain ⟨e, r, hb, -⟩ := hD.2.2 q
    have he := hb.2.1
    have hr := hb.2.2.1
    have h31 := hb.2.2.2.1
    rw [brd_at hb] at e1
    have ref0 : ∀ Q', (∀ j, j < t 2 0 → a = nI j → Q' (some (.int (Int32.ofInt (mk n e r j)))) M) → ((¬ ∃ j, j < t 2 0 ∧ a = nI j) → Q' (some (.int (Int32.ofInt (-1)))) M) → q_C q_mt (L, xs, q_shp) E nX12_marked (d + 3) 0 0 (.ref 271 :: [.int a]) M Q' := by
      intro Q' y1 y0
      refine w_in 90 [] ?_
      refine k_boardOf g.R hD.1 (fun z => absurd q z) (fun _ => ⟨e, r, hb, ?_⟩)
      refine z_eq (e : Int) (-1) (fun z => by omega) (fun _ => ?_)
      refine c_X12_isJudge g.R.1 g.R.b (fun j hj ej => bn_t (by decide) ?_) (fun z => bn_f (by decide) ⟨_, rfl, y0 z⟩)
      subst ej
      refine k_roundNow g.R ?_
      refine k_slot e r ?_ (hb := by rw [h31]; rfl)
      refine ⟨36 + 11 * (6 * e + r) + j, _, by (first | assumption | (simp only [z_nat, z_lit, ← Int32.ofInt_add, ← Int32.ofInt_sub, ← Int32.ofInt_mul]; exact congrArg Int32.ofInt (by omega)) | (simp only [z_nat, z_lit, ← Int32.ofInt_add, ← Int32.ofInt_sub, ← Int32.ofInt_mul]; done) | exact congrArg Int32.ofInt (by omega) | rfl), by (dsimp only; omega), g.R.at (by omega), ?_⟩
      exact ⟨_, rfl, y1 j hj rfl⟩
    refine w_in 90 [] ?_
    refine ⟨_, e1, ?_⟩
    refine z_eq (e : Int) (-1) (fun z => by omega) (fun _ => ?_)
    refine d_hasJudge g.C g.R.b (fun j hj ej => bn_t (by decide) ?_) (fun z => bn_f (by decide) ⟨_, rfl, _, rfl, ref0 _ (fun j hj ej => absurd ⟨j, hj, ej⟩ z) (fun _ => ⟨rfl, hP⟩)⟩)
    subst ej
    refine k2_boardSlot g.Z hb ?_
    refine ⟨16 * (6 * e + r) + 5 + j, _, by (first | assumption | (simp only [z_nat, z_lit, ← Int32.ofInt_add, ← Int32.ofInt_sub, ← Int32.ofInt_mul]; exact congrArg Int32.ofInt (by omega)) | (simp only [z_nat, z_lit, ← Int32.ofInt_add, ← Int32.ofInt_sub, ← Int32.ofInt_mul]; done) | exact congrArg Int32.ofInt (by omega) | rfl), by (dsimp only; omega), g.mk (show 6 * e + r < 36 by omega) (show j < 11 by omega), ?_⟩
    refine ⟨_, rfl, _, rfl, ref0 _ (fun j' hj' ej => ⟨?_, hP⟩) (fun z => absurd ⟨j, hj, rfl⟩ z)⟩
    rw [(nI_eq (by omega) (by omega)).mp ej]
  · rw [brd_no q] at e1
    refine w_in 90 [] ?_
    refine ⟨_, e1, ?_⟩
    refine z_eq (-1) (-1) (fun _ => ⟨_, rfl, _, rfl, ?_⟩) (fun z => absurd rfl z)
    refine w_in 90 [] ?_
    refine k_boardOf g.R hD.1 (fun _ => ?_) (fun z => absurd z q)
    exact z_eq (-1) (-1) (fun _ => ⟨_, rfl, rfl, hP⟩) (fun z => absurd rfl z)
set_option maxRecDepth 100000 in
set_option maxHeartbeats 4000000 in
theorem o_board {a : Int32} (g : g_A 43 M t n) (hD : b_D t n) (hP : P M) : zOp L xs E nX11_board nX12_board (d + 4) [.int a] M P := by
  have e1 := g.dv
  have h6 := g.R.e6
  have h7 := g.R.r6
  have h11 := g.R.j11
  obtain ⟨w, hw, rfl⟩ := z_of a
  by_cases q : isB t n
  · obtain ⟨e, r, hb, -⟩ := hD.2.2 q
    have he := hb.2.1
    have hr := hb.2.2.1
    have h31 := hb.2.2.2.1
    have e2 := g.rn
    have hs := g.sl (show 6 * e + r < 36 by omega)
    rw [brd_at hb] at e1
    rw [h31] at e2
    have c0 : ∀ Q', q_G q_mt (L, xs, q_shp) E nX11_board (d + 4) 0 0 (q_Q (L, xs, q_shp) E Q') 21 [some (.ref 2), some (.int (Int32.ofInt w)), some (.int (nI (16 * (6 * e + r))))] [] M → q_C q_mt (L, xs, q_shp) E nX11_board (d + 4) 0 0 (.ref 2 :: [.int (Int32.ofInt w)]) M Q' := by
      intro Q' y
      refine w_in 90 [21] ?_
      refine ⟨_, e1, ?_⟩
      refine z_ne (e : Int) (-1) (fun _ => ?_) (fun z => by omega)
      exact k2_boardSlot g.Z hb y
    have r0 : ∀ Q', q_G q_mt (L, xs, q_shp) E nX12_board (d + 4) 0 0 (q_Q (L, xs, q_shp) E Q') 21 [some (.ref 271), some (.int (Int32.ofInt w)), some (.int (nI e)), some (.int (nI (6 * e + r)))] [] M → q_C q_mt (L, xs, q_shp) E nX12_board (d + 4) 0 0 (.ref 271 :: [.int (Int32.ofInt w)]) M Q' := by
      intro Q' y
      refine w_in 90 [21] ?_
      refine k_boardOf g.R hD.1 (fun z => absurd q z) (fun _ => ⟨e, r, hb, ?_⟩)
      refine z_ne (e : Int) (-1) (fun _ => ?_) (fun z => by omega)
      refine k_roundNow g.R ?_
      exact k_slot e r y (hb := by rw [h31]; rfl)
    refine c0 _ ?_
    by_cases q0 : w < 0 ∨ 8 < w
    · refine w_at 90 [] ?_
      refine ⟨fun _ => ⟨_, rfl, _, rfl, r0 _ ?_⟩, sw_no (by rw [z_toInt hw]; exact q0.elim Or.inl (fun z => Or.inr (by show (0 : Int) + 9 ≤ w; omega)))⟩
      refine w_at 90 [] ?_
      exact ⟨fun _ => ⟨_, rfl, rfl, hP⟩, sw_no (by rw [z_toInt hw]; exact q0.elim Or.inl (fun z => Or.inr (by show (0 : Int) + 9 ≤ w; omega)))⟩
    · obtain rfl | rfl | rfl | rfl | rfl | rfl | rfl | rfl | rfl : w = 0 ∨ w = 1 ∨ w = 2 ∨ w = 3 ∨ w = 4 ∨ w = 5 ∨ w = 6 ∨ w = 7 ∨ w = 8 := by omega
      · refine w_at 90 [] ?_
        refine ⟨fun z => absurd z (by decide), sw_at 0 (by decide) rfl ?_⟩
        refine ⟨_, e1, ?_⟩
        refine ⟨_, rfl, _, rfl, r0 _ ?_⟩
        refine w_at 90 [] ?_
        refine ⟨fun z => absurd z (by decide), sw_at 0 (by decide) rfl ?_⟩
        exact ⟨_, rfl, rfl, hP⟩
      · refine w_at 90 [] ?_
        refine ⟨fun z => absurd z (by decide), sw_at 1 (by decide) rfl ?_⟩
        refine ⟨_, e2, ?_⟩
        refine ⟨_, rfl, _, rfl, r0 _ ?_⟩
        refine w_at 90 [] ?_
        refine ⟨fun z => absurd z (by decide), sw_at 1 (by decide) rfl ?_⟩
        exact k_roundNow g.R ⟨_, rfl, by rw [h31], hP⟩
      · refine w_at 90 [] ?_
        refine ⟨fun z => absurd z (by decide), sw_at 2 (by decide) rfl ?_⟩
        refine ⟨_, e1, ?_⟩
        refine ⟨_, e2, ?_⟩
        refine k2_cellOf e r ?_
        refine ⟨6 * e + r, _, by (first | assumption | (simp only [z_nat, z_lit, ← Int32.ofInt_add, ← Int32.ofInt_sub, ← Int32.ofInt_mul]; exact congrArg Int32.ofInt (by omega)) | (simp only [z_nat, z_lit, ← Int32.ofInt_add, ← Int32.ofInt_sub, ← Int32.ofInt_mul]; done) | exact congrArg Int32.ofInt (by omega) | rfl), by (dsimp only; omega), g.li he hr, ?_⟩
        refine ⟨_, rfl, _, rfl, r0 _ ?_⟩
        refine w_at 90 [] ?_
        refine ⟨fun z => absurd z (by decide), sw_at 2 (by decide) rfl ?_⟩
        refine ⟨6 * e + r, _, by (first | assumption | (simp only [z_nat, z_lit, ← Int32.ofInt_add, ← Int32.ofInt_sub, ← Int32.ofInt_mul]; exact congrArg Int32.ofInt (by omega)) | (simp only [z_nat, z_lit, ← Int32.ofInt_add, ← Int32.ofInt_sub, ← Int32.ofInt_mul]; done) | exact congrArg Int32.ofInt (by omega) | rfl), by (dsimp only; omega), g.R.at (by omega), ?_⟩
        exact ⟨_, rfl, rfl, hP⟩
      · refine w_at 90 [] ?_
        refine ⟨fun z => absurd z (by decide), sw_at 3 (by decide) rfl ?_⟩
        refine k2_countMarks g.Z e r he hr ⟨_, rfl, _, rfl, r0 _ ?_⟩
        refine w_at 90 [] ?_
        refine ⟨fun z => absurd z (by decide), sw_at 3 (by decide) rfl ?_⟩
        refine k_roundNow g.R ?_
        exact k_markedMany g.R e r he hr ⟨_, rfl, rfl, hP⟩ (hb := by rw [h31]; rfl)
      · refine w_at 90 [] ?_
        refine ⟨fun z => absurd z (by decide), sw_at 4 (by decide) rfl ?_⟩
        refine ⟨_, e1, ?_⟩
        refine k2_countPanel g.Z e he ⟨_, rfl, _, rfl, r0 _ ?_⟩
        refine w_at 90 [] ?_
        refine ⟨fun z => absurd z (by decide), sw_at 4 (by decide) rfl ?_⟩
        exact k_judgesMany g.R e he ⟨_, rfl, rfl, hP⟩
      · refine w_at 90 [] ?_
        refine ⟨fun z => absurd z (by decide), sw_at 5 (by decide) rfl ?_⟩
        refine ⟨16 * (6 * e + r) + 3, _, by (first | assumption | (simp only [z_nat, z_lit, ← Int32.ofInt_add, ← Int32.ofInt_sub, ← Int32.ofInt_mul]; exact congrArg Int32.ofInt (by omega)) | (simp only [z_nat, z_lit, ← Int32.ofInt_add, ← Int32.ofInt_sub, ← Int32.ofInt_mul]; done) | exact congrArg Int32.ofInt (by omega) | rfl), by (dsimp only; omega), hs.2.2.1, ?_⟩
        refine ⟨_, rfl, _, rfl, r0 _ ?_⟩
        refine w_at 90 [] ?_
        refine ⟨fun z => absurd z (by decide), sw_at 5 (by decide) rfl ?_⟩
        refine ⟨468 + (6 * e + r), _, by (first | assumption | (simp only [z_nat, z_lit, ← Int32.ofInt_add, ← Int32.ofInt_sub, ← Int32.ofInt_mul]; exact congrArg Int32.ofInt (by omega)) | (simp only [z_nat, z_lit, ← Int32.ofInt_add, ← Int32.ofInt_sub, ← Int32.ofInt_mul]; done) | exact congrArg Int32.ofInt (by omega) | rfl), by (dsimp only; omega), g.R.at (by omega), ?_⟩
        exact ⟨_, rfl, rfl, hP⟩
      · refine w_at 90 [] ?_
        refine ⟨fun z => absurd z (by decide), sw_at 6 (by decide) rfl ?_⟩
        refine ⟨16 * (6 * e + r) + 2, _, by (first | assumption | (simp only [z_nat, z_lit, ← Int32.ofInt_add, ← Int32.ofInt_sub, ← Int32.ofInt_mul]; exact congrArg Int32.ofInt (by omega)) | (simp only [z_nat, z_lit, ← Int32.ofInt_add, ← Int32.ofInt_sub, ← Int32.ofInt_mul]; done) | exact congrArg Int32.ofInt (by omega) | rfl), by (dsimp only; omega), hs.2.1, ?_⟩
        refine ⟨_, rfl, _, rfl, r0 _ ?_⟩
        refine w_at 90 [] ?_
        refine ⟨fun z => absurd z (by decide), sw_at 6 (by decide) rfl ?_⟩
        refine ⟨432 + (6 * e + r), _, by (first | assumption | (simp only [z_nat, z_lit, ← Int32.ofInt_add, ← Int32.ofInt_sub, ← Int32.ofInt_mul]; exact congrArg Int32.ofInt (by omega)) | (simp only [z_nat, z_lit, ← Int32.ofInt_add, ← Int32.ofInt_sub, ← Int32.ofInt_mul]; done) | exact congrArg Int32.ofInt (by omega) | rfl), by (dsimp only; omega), g.R.at (by omega), ?_⟩
        exact ⟨_, rfl, rfl, hP⟩
      · refine w_at 90 [] ?_
        refine ⟨fun z => absurd z (by decide), sw_at 7 (by decide) rfl ?_⟩
        refine ⟨16 * (6 * e + r) + 4, _, by (first | assumption | (simp only [z_nat, z_lit, ← Int32.ofInt_add, ← Int32.ofInt_sub, ← Int32.ofInt_mul]; exact congrArg Int32.ofInt (by omega)) | (simp only [z_nat, z_lit, ← Int32.ofInt_add, ← Int32.ofInt_sub, ← Int32.ofInt_mul]; done) | exact congrArg Int32.ofInt (by omega) | rfl), by (dsimp only; omega), hs.2.2.2, ?_⟩
        refine ⟨_, rfl, _, rfl, r0 _ ?_⟩
        refine w_at 90 [] ?_
        refine ⟨fun z => absurd z (by decide), sw_at 7 (by decide) rfl ?_⟩
        refine ⟨504 + (6 * e + r), _, by (first | assumption | (simp only [z_nat, z_lit, ← Int32.ofInt_add, ← Int32.ofInt_sub, ← Int32.ofInt_mul]; exact congrArg Int32.ofInt (by omega)) | (simp only [z_nat, z_lit, ← Int32.ofInt_add, ← Int32.ofInt_sub, ← Int32.ofInt_mul]; done) | exact congrArg Int32.ofInt (by omega) | rfl), by (dsimp only; omega), g.R.at (by omega), ?_⟩
        exact ⟨_, rfl, rfl, hP⟩
      · refine w_at 90 [] ?_
        refine ⟨fun z => absurd z (by decide), sw_at 8 (by decide) rfl ?_⟩
        refine ⟨16 * (6 * e + r) + 1, _, by (first | assumption | (simp only [z_nat, z_lit, ← Int32.ofInt_add, ← Int32.ofInt_sub, ← Int32.ofInt_mul]; exact congrArg Int32.ofInt (by omega)) | (simp only [z_nat, z_lit, ← Int32.ofInt_add, ← Int32.ofInt_sub, ← Int32.ofInt_mul]; done) | exact congrArg Int32.ofInt (by omega) | rfl), by (dsimp only; omega), hs.1, ?_⟩
        refine ⟨_, rfl, _, rfl, r0 _ ?_⟩
        refine w_at 90 [] ?_
        refine ⟨fun z => absurd z (by decide), sw_at 8 (by decide) rfl ?_⟩
        refine ⟨540 + (6 * e + r), _, by (first | assumption | (simp only [z_nat, z_lit, ← Int32.ofInt_add, ← Int32.ofInt_sub, ← Int32.ofInt_mul]; exact congrArg Int32.ofInt (by omega)) | (simp only [z_nat, z_lit, ← Int32.ofInt_add, ← Int32.ofInt_sub, ← Int32.ofInt_mul]; done) | exact congrArg Int32.ofInt (by omega) | rfl), by (dsimp only; omega), g.R.at (by omega), ?_⟩
        exact ⟨_, rfl, rfl, hP⟩
  · rw [brd_no q] at e1
    refine w_in 90 [] ?_
    refine ⟨_, e1, ?_⟩
    refine z_ne (-1) (-1) (fun z => absurd rfl z) (fun _ => ⟨_, rfl, _, rfl, ?_⟩)
    refine w_in 90 [] ?_
    refine k_boardOf g.R hD.1 (fun _ => ?_) (fun z => absurd z q)
    exact z_ne (-1) (-1) (fun z => absurd rfl z) (fun _ => ⟨_, rfl, rfl, hP⟩)
set_option maxRecDepth 100000 in
set_option maxHeartbeats 4000000 in
theorem o_expected {a : Int32} (g : g_A 43 M t n) (hP : ∀ M', q_fs [293] fD M M' → P M') : zOp L xs E nX11_expected nX12_expected (d + 9) [.int a] M P := by
  by_cases q : ∃ e, e < t 8 0 ∧ a = nI e
  · obtain ⟨e, he, rfl⟩ := q
    refine w_in 90 [] ?_
    refine d_hasEntrant g.C g.R.b (fun i _ _ => br_f (by decide) ?_) (fun z => absurd ⟨e, he, rfl⟩ z)
    refine k2_isIn_43 g.Z e he (fun h1 => bn_t (by decide) ?_) (fun h1 => bn_f (by decide) ⟨_, rfl, _, rfl, ?_⟩)
    · refine ⟨_, g.ro, ?_⟩
      refine k2_totalByForm g e (t 0 0) he (Nat.le_refl _) ⟨_, rfl, _, rfl, ?_⟩
      refine w_in 90 [] ?_
      refine c_X12_isEntrant g.R.1 g.R.b (fun i _ _ => br_f (by decide) ?_) (fun z => absurd ⟨e, he, rfl⟩ z)
      refine k_isInStill g.R e he (fun _ => br_f (by decide) ?_) (fun z => absurd (h1.symm.trans z) (by decide))
      refine ⟨0, _, by (first | assumption | (simp only [z_nat, z_lit, ← Int32.ofInt_add, ← Int32.ofInt_sub, ← Int32.ofInt_mul]; exact congrArg Int32.ofInt (by omega)) | (simp only [z_nat, z_lit, ← Int32.ofInt_add, ← Int32.ofInt_sub, ← Int32.ofInt_mul]; done) | exact congrArg Int32.ofInt (by omega) | rfl), by (dsimp only; omega), g.R.R0, ?_⟩
      exact k_formTotal g e (t 0 0) he (Nat.le_refl _) (fun M' hf => ⟨_, rfl, rfl, hP M' hf⟩)
    · refine w_in 90 [] ?_
      refine c_X12_isEntrant g.R.1 g.R.b (fun i _ _ => br_f (by decide) ?_) (fun z => absurd ⟨e, he, rfl⟩ z)
      exact k_isInStill g.R e he (fun z => absurd (h1.symm.trans z) (by decide)) (fun _ => br_t (by decide) ⟨_, rfl, rfl, hP M q_fs.rf⟩)
  · refine w_in 90 [] ?_
    refine d_hasEntrant g.C g.R.b (fun i hi e => absurd ⟨i, hi, e⟩ q) (fun _ => br_t (by decide) ⟨_, rfl, _, rfl, ?_⟩)
    refine w_in 90 [] ?_
    exact c_X12_isEntrant g.R.1 g.R.b (fun i hi e => absurd ⟨i, hi, e⟩ q) (fun _ => br_t (by decide) ⟨_, rfl, rfl, hP M q_fs.rf⟩)
/-- two that differ -/
def aTwo (t : q_T) (a b : Int32) : Prop := ∃ e o, e < t 8 0 ∧ o < t 8 0 ∧ ¬ e = o ∧ a = nI e ∧ b = nI o
set_option maxRecDepth 100000 in
set_option maxHeartbeats 4000000 in
theorem k2_isOther {c : Nat} (g : g_A c M t n) {a b : Int32} (h1 : ∀ e o, e < t 8 0 → o < t 8 0 → ¬ e = o → a = nI e → b = nI o → Q (some (.int 1)) M) (h0 : ¬ aTwo t a b → Q (some (.int 0)) M) : q_C q_mt (L, xs, q_shp) E nX11_isOther (d + 1) 0 0 [.ref 2, .int (a), .int (b)] M Q := by
  have h6 := g.R.e6
  refine w_in 90 [] ?_
  refine d_hasEntrant g.C g.R.b (fun e he e1 => br_f (by decide) ?_) (fun z => br_t (by decide) ⟨z_0, h0 (fun ⟨e, o, he, ho, hd, e1, e2⟩ => z ⟨e, he, e1⟩)⟩)
  refine d_hasEntrant g.C g.R.b (fun o ho e2 => br_f (by decide) ?_) (fun z => br_t (by decide) ⟨z_0, h0 (fun ⟨e, o, he, ho, hd, e1, e2⟩ => z ⟨o, ho, e2⟩)⟩)
  subst e1 e2
  refine z_eq (e : Int) (o : Int) (fun h => ⟨z_0, h0 (fun ⟨e', o', he', ho', hd, e1, e2⟩ => ?_)⟩) (fun h => ⟨z_1, h1 e o he ho (by omega) rfl rfl⟩)
  have q1 := (nI_eq (by omega) (by omega)).mp e1
  have q2 := (nI_eq (by omega) (by omega)).mp e2
  omega
/-- the least award that makes up for more than D -/
def isLW (t : q_T) (i : Nat) (D : Int) (w : Nat) : Prop := w ≤ 20 ∧ D < apt t w i ∧ ∀ v, v < w → ¬ D < apt t v i
theorem isLW.un {i : Nat} {D : Int} {w w' : Nat} (h : isLW t i D w) (h' : isLW t i D w') : w = w' := by
  rcases Nat.lt_trichotomy w w' with q | q | q
  · exact absurd h.2.1 (h'.2.2 w q)
  · exact q
  · exact absurd h'.2.1 (h.2.2 w' q)
set_option maxRecDepth 100000 in
set_option maxHeartbeats 4000000 in
theorem k_firstLeft (g : g_R M t n) {a : Int32} (e : Nat) (he : e < t 8 0) (hG : ∀ r, r < t 0 0 → (n (576 + (6 * e + r)) = 1 ↔ r < gvN t n e)) (h1 : gvN t n e < t 0 0 → Q (some (.int (nI (gvN t n e + 1)))) M) (h0 : gvN t n e = t 0 0 → Q (some (.int (Int32.ofInt (-1)))) M) (ha : a = nI e := by (first | assumption | (simp only [z_nat, z_lit, ← Int32.ofInt_add, ← Int32.ofInt_sub, ← Int32.ofInt_mul]; exact congrArg Int32.ofInt (by omega)) | (simp only [z_nat, z_lit, ← Int32.ofInt_add, ← Int32.ofInt_sub, ← Int32.ofInt_mul]; done) | exact congrArg Int32.ofInt (by omega) | rfl)) : q_C q_mt (L, xs, q_shp) E nX12_firstLeft (d + 2) 0 0 [.ref 271, .int (a)] M Q := by
  subst ha
  have h7 := g.r6
  have hle : gvN t n e ≤ t 0 0 := fb_ct_le _ _
  have W := lp_up (W := fun r => ∀ v, v = nI (r + 1) → q_G q_mt (L, xs, q_shp) E nX12_firstLeft (d + 2) 0 0 (q_Q (L, xs, q_shp) E Q) 2 [some (.ref 271), some (.int (nI e)), some (.int (v))] [] M) (gvN t n e) ?_ ?_ 0 (Nat.zero_le _)
  · refine w_in 90 [2] ?_
    exact W _ rfl
  · rintro v rfl
    refine w_at 90 [2] ?_
    refine ⟨0, _, by (first | assumption | (simp only [z_nat, z_lit, ← Int32.ofInt_add, ← Int32.ofInt_sub, ← Int32.ofInt_mul]; exact congrArg Int32.ofInt (by omega)) | (simp only [z_nat, z_lit, ← Int32.ofInt_add, ← Int32.ofInt_sub, ← Int32.ofInt_mul]; done) | exact congrArg Int32.ofInt (by omega) | rfl), by (dsimp only; omega), g.R0, ?_⟩
    refine z_lt (t 0 0) ((gvN t n e + 1 : Nat) : Int) (fun h => ⟨_, rfl, h0 (by omega)⟩) (fun h => ?_)
    exact k_isGiven g e (gvN t n e) he (by omega) (fun h2 => absurd ((hG _ (by omega)).mp h2) (Nat.lt_irrefl _)) (fun h2 => bn_f (by decide) ⟨_, rfl, h1 (by omega)⟩)
  · rintro r hr ih v rfl
    refine w_at 90 [2] ?_
    refine ⟨0, _, by (first | assumption | (simp only [z_nat, z_lit, ← Int32.ofInt_add, ← Int32.ofInt_sub, ← Int32.ofInt_mul]; exact congrArg Int32.ofInt (by omega)) | (simp only [z_nat, z_lit, ← Int32.ofInt_add, ← Int32.ofInt_sub, ← Int32.ofInt_mul]; done) | exact congrArg Int32.ofInt (by omega) | rfl), by (dsimp only; omega), g.R0, ?_⟩
    refine z_lt (t 0 0) ((r + 1 : Nat) : Int) (fun h => by omega) (fun h => ?_)
    have hg := (hG r (by omega)).mpr hr
    refine k_isGiven g e r he (by omega) (fun h2 => bn_t (by decide) ?_) (fun h2 => by omega)
    exact ih _ (by (first | assumption | (simp only [z_nat, z_lit, ← Int32.ofInt_add, ← Int32.ofInt_sub, ← Int32.ofInt_mul]; exact congrArg Int32.ofInt (by omega)) | (simp only [z_nat, z_lit, ← Int32.ofInt_add, ← Int32.ofInt_sub, ← Int32.ofInt_mul]; done) | exact congrArg Int32.ofInt (by omega) | rfl))
set_option maxRecDepth 100000 in
set_option maxHeartbeats 4000000 in
theorem k2_leastAward (g : g_A 43 M t n) {a b : Int32} (e o : Nat) (he : e < t 8 0) (ho : o < t 8 0) (h1 : ∀ w, gvN t n e < t 0 0 → isLW t (n (6 * e + gvN t n e)).toNat (toF t n o - toF t n e) w → Q (some (.int (nI w))) M) (h0 : gvN t n e < t 0 0 → (∀ w : Nat, w ≤ 20 → ¬ toF t n o - toF t n e < apt t w (n (6 * e + gvN t n e)).toNat) → Q (some (.int (Int32.ofInt (-1)))) M) (h2 : gvN t n e = t 0 0 → Q (some (.int (Int32.ofInt (-1)))) M) (ha : a = nI e := by (first | assumption | (simp only [z_nat, z_lit, ← Int32.ofInt_add, ← Int32.ofInt_sub, ← Int32.ofInt_mul]; exact congrArg Int32.ofInt (by omega)) | (simp only [z_nat, z_lit, ← Int32.ofInt_add, ← Int32.ofInt_sub, ← Int32.ofInt_mul]; done) | exact congrArg Int32.ofInt (by omega) | rfl)) (hb : b = nI o := by (first | assumption | (simp only [z_nat, z_lit, ← Int32.ofInt_add, ← Int32.ofInt_sub, ← Int32.ofInt_mul]; exact congrArg Int32.ofInt (by omega)) | (simp only [z_nat, z_lit, ← Int32.ofInt_add, ← Int32.ofInt_sub, ← Int32.ofInt_mul]; done) | exact congrArg Int32.ofInt (by omega) | rfl)) : q_C q_mt (L, xs, q_shp) E nX4_leastAward (d + 2) 0 0 [.ref 256, .int (a), .int (b)] M Q := by
  subst ha hb
  have h6 := g.R.e6
  have h7 := g.R.r6
  have hle : gvN t n e ≤ t 0 0 := fb_ct_le _ _
  have b1 := toE_b g.R (dr := t 1 0) (bar := -1) he
  have b2 := toE_b g.R (dr := t 1 0) (bar := -1) ho
  by_cases q : gvN t n e < t 0 0
  · have hdi := dv_i g.Z he q
    have W := lp_up (W := fun w => ∀ v x y, v = nI w → y = nI (gvN t n e + 1) → x = Int32.ofInt (toF t n o - toF t n e) → (∀ u : Nat, u < w → ¬ toF t n o - toF t n e < apt t u (n (6 * e + gvN t n e)).toNat) → q_G q_mt (L, xs, q_shp) E nX4_leastAward (d + 2) 0 0 (q_Q (L, xs, q_shp) E Q) 64 [some (.ref 256), some (.int (nI e)), some (.int (nI o)), some (.int (y)), some (.int (nI (n (6 * e + gvN t n e)).toNat)), some (.int (x)), some (.int (v))] [] M) 21 ?_ ?_ 0 (Nat.zero_le _)
    · refine w_in 90 [64] ?_
      refine ⟨e, _, by (first | assumption | (simp only [z_nat, z_lit, ← Int32.ofInt_add, ← Int32.ofInt_sub, ← Int32.ofInt_mul]; exact congrArg Int32.ofInt (by omega)) | (simp only [z_nat, z_lit, ← Int32.ofInt_add, ← Int32.ofInt_sub, ← Int32.ofInt_mul]; done) | exact congrArg Int32.ofInt (by omega) | rfl), by (dsimp only; omega), g.gi he, ?_⟩
      refine ⟨_, g.ro, ?_⟩
      refine z_le ((gvN t n e + 1 : Nat) : Int) (t 0 0) (fun h => ?_) (fun h => by omega)
      refine k2_cellOf e (gvN t n e) ?_
      refine ⟨6 * e + gvN t n e, _, by (first | assumption | (simp only [z_nat, z_lit, ← Int32.ofInt_add, ← Int32.ofInt_sub, ← Int32.ofInt_mul]; exact congrArg Int32.ofInt (by omega)) | (simp only [z_nat, z_lit, ← Int32.ofInt_add, ← Int32.ofInt_sub, ← Int32.ofInt_mul]; done) | exact congrArg Int32.ofInt (by omega) | rfl), by (dsimp only; omega), (g.li he q).trans hdi.1, ?_⟩
      refine ⟨o, _, by (first | assumption | (simp only [z_nat, z_lit, ← Int32.ofInt_add, ← Int32.ofInt_sub, ← Int32.ofInt_mul]; exact congrArg Int32.ofInt (by omega)) | (simp only [z_nat, z_lit, ← Int32.ofInt_add, ← Int32.ofInt_sub, ← Int32.ofInt_mul]; done) | exact congrArg Int32.ofInt (by omega) | rfl), by (dsimp only; omega), g.to ho, ?_⟩
      refine ⟨e, _, by (first | assumption | (simp only [z_nat, z_lit, ← Int32.ofInt_add, ← Int32.ofInt_sub, ← Int32.ofInt_mul]; exact congrArg Int32.ofInt (by omega)) | (simp only [z_nat, z_lit, ← Int32.ofInt_add, ← Int32.ofInt_sub, ← Int32.ofInt_mul]; done) | exact congrArg Int32.ofInt (by omega) | rfl), by (dsimp only; omega), g.to he, ?_⟩
      refine W _ _ _ rfl ?_ ?_ (fun u hu => by omega)
      · (first | assumption | (simp only [z_nat, z_lit, ← Int32.ofInt_add, ← Int32.ofInt_sub, ← Int32.ofInt_mul]; exact congrArg Int32.ofInt (by omega)) | (simp only [z_nat, z_lit, ← Int32.ofInt_add, ← Int32.ofInt_sub, ← Int32.ofInt_mul]; done) | exact congrArg Int32.ofInt (by omega) | rfl)
      · unfold toF
        (first | assumption | (simp only [z_nat, z_lit, ← Int32.ofInt_add, ← Int32.ofInt_sub, ← Int32.ofInt_mul]; exact congrArg Int32.ofInt (by omega)) | (simp only [z_nat, z_lit, ← Int32.ofInt_add, ← Int32.ofInt_sub, ← Int32.ofInt_mul]; done) | exact congrArg Int32.ofInt (by omega) | rfl)
    · rintro v x y rfl rfl rfl hn
      refine w_at 90 [64] ?_
      exact z_lt 20 (21 : Nat) (fun h => ⟨_, rfl, h0 q (fun w hw => hn w (by omega))⟩) (fun h => by omega)
    · rintro w hw ih v x y rfl rfl rfl hn
      have hp := apt_b (t := t) (a := (w : Int)) (i := (n (6 * e + gvN t n e)).toNat) (by omega) (g.R.bd hdi.2).2.2.2
      refine w_at 90 [64] ?_
      refine z_lt 20 (w : Int) (fun h => by omega) (fun h => ?_)
      refine k2_pointsAlike g.Z _ (w : Int) hdi.2 ?_
      refine z_le (apt t w (n (6 * e + gvN t n e)).toNat) (toF t n o - toF t n e) (fun h => ?_) (fun h => ⟨_, rfl, h1 w q ⟨by omega, h, hn⟩⟩) (hb := by unfold toF; omega)
      refine ih _ _ _ (by (first | assumption | (simp only [z_nat, z_lit, ← Int32.ofInt_add, ← Int32.ofInt_sub, ← Int32.ofInt_mul]; exact congrArg Int32.ofInt (by omega)) | (simp only [z_nat, z_lit, ← Int32.ofInt_add, ← Int32.ofInt_sub, ← Int32.ofInt_mul]; done) | exact congrArg Int32.ofInt (by omega) | rfl)) rfl rfl (fun u hu => ?_)
      by_cases q2 : u = w
      · subst q2
        omega
      · exact hn u (by omega)
  · refine w_in 90 [64] ?_
    refine ⟨e, _, by (first | assumption | (simp only [z_nat, z_lit, ← Int32.ofInt_add, ← Int32.ofInt_sub, ← Int32.ofInt_mul]; exact congrArg Int32.ofInt (by omega)) | (simp only [z_nat, z_lit, ← Int32.ofInt_add, ← Int32.ofInt_sub, ← Int32.ofInt_mul]; done) | exact congrArg Int32.ofInt (by omega) | rfl), by (dsimp only; omega), g.gi he, ?_⟩
    refine ⟨_, g.ro, ?_⟩
    exact z_le ((gvN t n e + 1 : Nat) : Int) (t 0 0) (fun h => by omega) (fun h => ⟨_, rfl, h2 (by omega)⟩)
set_option maxRecDepth 100000 in
set_option maxHeartbeats 4000000 in
theorem o_needs {a b : Int32} (g : g_A 43 M t n) (hG : b_G t n) (hP : ∀ M', q_fs [293] fD M M' → P M') : zOp L xs E nX11_needs nX12_needs (d + 9) [.int a, .int b] M P := by
  by_cases q : aTwo t a b
  · obtain ⟨e, o, he, ho, hd, rfl, rfl⟩ := q
    have h6 := g.R.e6
    have h7 := g.R.r6
    have b1 := toE_b g.R (dr := t 1 0) (bar := -1) he
    have b2 := toE_b g.R (dr := t 1 0) (bar := -1) ho
    have r0 : ∀ Q', (inE n e = true → q_G q_mt (L, xs, q_shp) E nX12_needs (d + 9) 0 0 (q_Q (L, xs, q_shp) E Q') 29 [some (.ref 271), some (.int (nI e)), some (.int (nI o)), none, none] [] M) → (inE n e = false → Q' (some (.int (Int32.ofInt (-1)))) M) → q_C q_mt (L, xs, q_shp) E nX12_needs (d + 9) 0 0 (.ref 271 :: [.int (nI e), .int (nI o)]) M Q' := by
      intro Q' y1 y0
      refine w_in 90 [29] ?_
      refine c_X12_isEntrant g.R.1 g.R.b (fun i _ _ => br_f (by decide) ?_) (fun z => absurd ⟨e, he, rfl⟩ z)
      refine c_X12_isEntrant g.R.1 g.R.b (fun i _ _ => br_f (by decide) ?_) (fun z => absurd ⟨o, ho, rfl⟩ z)
      refine z_eq (e : Int) (o : Int) (fun h => by omega) (fun _ => ?_)
      exact k_isInStill g.R e he (fun z => br_f (by decide) (y1 z)) (fun z => br_t (by decide) ⟨_, rfl, y0 z⟩)
    refine w_in 90 [] ?_
    refine k2_isOther g (fun e' o' _ _ _ _ _ => br_f (by decide) ?_) (fun z => absurd ⟨e, o, he, ho, hd, rfl, rfl⟩ z)
    refine k2_isIn_43 g.Z e he (fun hi => bn_t (by decide) ?_) (fun hi => bn_f (by decide) ⟨_, rfl, _, rfl, r0 _ (fun z => absurd (hi.symm.trans z) (by decide)) (fun _ => ⟨rfl, hP M q_fs.rf⟩)⟩)
    have hg := hG e he hi
    by_cases q : gvN t n e < t 0 0
    · have hdi := dv_i g.Z he q
      have r1 : ∀ Q', (∀ w M', isLW t (n (6 * e + gvN t n e)).toNat (toF t n o - toF t n e) w → q_fs [293] fD M M' → Q' (some (.int (nI w))) M') → (∀ M', (∀ w : Nat, w ≤ 20 → ¬ toF t n o - toF t n e < apt t w (n (6 * e + gvN t n e)).toNat) → q_fs [293] fD M M' → Q' (some (.int (Int32.ofInt (-1)))) M') → q_C q_mt (L, xs, q_shp) E nX12_needs (d + 9) 0 0 (.ref 271 :: [.int (nI e), .int (nI o)]) M Q' := by
        intro Q' y1 y0
        refine r0 _ (fun _ => ?_) (fun z => absurd (hi.symm.trans z) (by decide))
        have W := lp_m (W := fun w M' => ∀ v, v = nI w → (∀ u : Nat, u < w → ¬ toF t n o - toF t n e < apt t u (n (6 * e + gvN t n e)).toNat) → q_G q_mt (L, xs, q_shp) E nX12_needs (d + 9) 0 0 (q_Q (L, xs, q_shp) E Q') 58 [some (.ref 271), some (.int (nI e)), some (.int (nI o)), some (.int (nI (t 7 (n (6 * e + gvN t n e)).toNat))), some (.int v)] [] M') (J := fun r M' => q_fs [293] fD M M') 21 ?_ ?_ 0 M (Nat.zero_le _) q_fs.rf
        · refine w_at 90 [58] ?_
          refine k_firstLeft g.R e he hg (fun _ => ?_) (fun z => by omega)
          refine z_ne ((gvN t n e + 1 : Nat) : Int) (-1) (fun _ => ?_) (fun z => by omega)
          refine k_firstLeft g.R e he hg (fun _ => ?_) (fun z => by omega)
          refine k_diveOf g.R e (gvN t n e) he q ?_
          refine k_degreeOf g.R _ hdi.2 ?_ (ha := hdi.1)
          exact W _ rfl (fun u hu => by omega)
        · rintro M' hf v rfl hn
          refine w_at 90 [58] ?_
          exact z_lt 20 (21 : Nat) (fun h => ⟨_, rfl, y0 M' (fun w hw => hn w (by omega)) hf⟩) (fun h => by omega)
        · rintro w M' hw hf ih v rfl hn
          have g' := g.R.fs hf
          have hp := apt_b (t := t) (a := (w : Int)) (i := (n (6 * e + gvN t n e)).toNat) (by omega) (g.R.bd hdi.2).2.2.2
          refine w_at 90 [58] ?_
          refine z_lt 20 (w : Int) (fun h => by omega) (fun h => ?_)
          refine k_totalOf g' e he (fun M2 hf2 => ?_)
          refine k_alikePoints (t := t) (w : Int) (n (6 * e + gvN t n e)).toNat ?_
          have hf3 := hf.tr hf2
          refine k_totalOf (g.R.fs hf3) o ho (fun M3 hf4 => ?_)
          have hf5 := hf3.tr hf4
          refine z_le (toE t n e (t 1 0) (-1) + apt t w (n (6 * e + gvN t n e)).toNat) (toE t n o (t 1 0) (-1)) (fun h2 => ?_) (fun h2 => ⟨_, rfl, y1 w M3 ⟨by omega, by unfold toF; omega, hn⟩ hf5⟩)
          refine ih M3 hf5 _ (by (first | assumption | (simp only [z_nat, z_lit, ← Int32.ofInt_add, ← Int32.ofInt_sub, ← Int32.ofInt_mul]; exact congrArg Int32.ofInt (by omega)) | (simp only [z_nat, z_lit, ← Int32.ofInt_add, ← Int32.ofInt_sub, ← Int32.ofInt_mul]; done) | exact congrArg Int32.ofInt (by omega) | rfl)) (fun u hu => ?_)
          by_cases q2 : u = w
          · subst q2
            unfold toF
            omega
          · exact hn u (by omega)
      refine k2_leastAward g e o he ho (fun w _ hw => ⟨_, rfl, _, rfl, ?_⟩) (fun _ hn => ⟨_, rfl, _, rfl, ?_⟩) (fun z => by omega)
      · exact r1 _ (fun w' M' hw' hf => ⟨by rw [hw.un hw'], hP M' hf⟩) (fun M' hn hf => absurd hw.2.1 (hn w hw.1))
      · exact r1 _ (fun w' M' hw' hf => absurd hw'.2.1 (hn w' hw'.1)) (fun M' _ hf => ⟨rfl, hP M' hf⟩)
    · have hle : gvN t n e ≤ t 0 0 := fb_ct_le _ _
      refine k2_leastAward g e o he ho (fun w z _ => by omega) (fun z _ => by omega) (fun _ => ⟨_, rfl, _, rfl, ?_⟩)
      refine r0 _ (fun _ => ?_) (fun z => absurd (hi.symm.trans z) (by decide))
      refine w_at 90 [58] ?_
      refine k_firstLeft g.R e he hg (fun z => by omega) (fun _ => ?_)
      exact z_ne (-1) (-1) (fun z => absurd rfl z) (fun _ => ⟨_, rfl, rfl, hP M q_fs.rf⟩)
  · have h6 := g.R.e6
    refine w_in 90 [] ?_
    refine k2_isOther g (fun e o he ho hd e1 e2 => absurd ⟨e, o, he, ho, hd, e1, e2⟩ q) (fun _ => br_t (by decide) ⟨_, rfl, _, rfl, ?_⟩)
    refine w_in 90 [] ?_
    refine c_X12_isEntrant g.R.1 g.R.b (fun e he e1 => br_f (by decide) ?_) (fun _ => br_t (by decide) ⟨_, rfl, rfl, hP M q_fs.rf⟩)
    refine c_X12_isEntrant g.R.1 g.R.b (fun o ho e2 => br_f (by decide) ?_) (fun _ => br_t (by decide) ⟨_, rfl, rfl, hP M q_fs.rf⟩)
    subst e1 e2
    refine z_eq (e : Int) (o : Int) (fun h => ⟨_, rfl, rfl, hP M q_fs.rf⟩) (fun h => ?_)
    exact absurd ⟨e, o, he, ho, by omega, rfl, rfl⟩ q
end O2
