/-! the calls look, board, marked, expected, needs -/
theorem sw_at {k : Nat → Prop} {x : Int} {p : Nat} : ∀ {ts : List Nat} {lo : Int} (j : Nat), x = lo + j → ts[j]? = some p → k p → q_swt k x lo ts
  | [], _, j, _, h, _ => by simp at h
  | a :: ts, lo, 0, hx, h, hk => by
    refine ⟨fun _ => ?_, ?_⟩
    · rw [show a = p by simpa using h]
      exact hk
    · have : ∀ (ts : List Nat) (lo : Int), x < lo → q_swt k x lo ts := by
        intro ts
        induction ts with
        | nil => intro _ _; exact trivial
        | cons b ts ih => intro lo hl; exact ⟨fun e => by omega, ih (lo + 1) (by omega)⟩
      exact this ts (lo + 1) (by omega)
  | a :: ts, lo, j + 1, hx, h, hk => ⟨fun e => by omega, sw_at j (by omega) (by simpa using h) hk⟩
theorem sw_no {k : Nat → Prop} {x : Int} : ∀ {ts : List Nat} {lo : Int}, x < lo ∨ lo + ts.length ≤ x → q_swt k x lo ts
  | [], _, _ => trivial
  | a :: ts, lo, h => by
    rw [List.length_cons] at h
    exact ⟨fun e => by omega, sw_no (by omega)⟩
section O2
variable {L : Nat} {xs : Nat → Int32} {E : q_E} {d : Nat} {M : q_M} {t : q_T} {n : sN} {Q : Option Value → q_M → Prop} {P : q_M → Prop}
set_option maxRecDepth 100000 in
set_option maxHeartbeats 4000000 in
theorem o_look {a : Int32} (g : g_A 43 M t n) (hD : b_D t n) (h5 : M.1 17 5 = nI (t 17 0)) (h7 : M.1 68 2 = M.1 271 28) (h10 : M.1 3 2 = M.1 271 1) (hP : P M) : zOp L xs E nX11_look nX12_look (d + 3) [.int a] M P := by
  obtain ⟨w, hw, rfl⟩ := z_of a
  have h6 := g.R.r6
  by_cases q : w < 0 ∨ 10 < w
  · refine w_in 90 [] ?_
    refine ⟨fun _ => ⟨_, rfl, _, rfl, ?_⟩, sw_no (by rw [z_toInt hw]; exact q.elim Or.inl (fun z => Or.inr (by show (0 : Int) + 11 ≤ w; omega)))⟩
    refine w_in 90 [] ?_
    exact ⟨fun _ => ⟨_, rfl, rfl, hP⟩, sw_no (by rw [z_toInt hw]; exact q.elim Or.inl (fun z => Or.inr (by show (0 : Int) + 11 ≤ w; omega)))⟩
  · obtain rfl | rfl | rfl | rfl | rfl | rfl | rfl | rfl | rfl | rfl | rfl : w = 0 ∨ w = 1 ∨ w = 2 ∨ w = 3 ∨ w = 4 ∨ w = 5 ∨ w = 6 ∨ w = 7 ∨ w = 8 ∨ w = 9 ∨ w = 10 := by omega
    · refine w_in 90 [] ?_
      refine ⟨fun z => absurd z (by decide), sw_at 0 (by decide) rfl ?_⟩
      refine ⟨_, g.ro, ?_⟩
      refine ⟨_, rfl, _, rfl, ?_⟩
      refine w_in 90 [] ?_
      refine ⟨fun z => absurd z (by decide), sw_at 0 (by decide) rfl ?_⟩
      refine ⟨0, _, by (first | assumption | (simp only [z_nat, z_lit, ← Int32.ofInt_add, ← Int32.ofInt_sub, ← Int32.ofInt_mul]; exact congrArg Int32.ofInt (by omega)) | (simp only [z_nat, z_lit, ← Int32.ofInt_add, ← Int32.ofInt_sub, ← Int32.ofInt_mul]; done) | exact congrArg Int32.ofInt (by omega) | rfl), by (dsimp only; omega), g.R.R0, ?_⟩
      exact ⟨_, rfl, rfl, hP⟩
    · refine w_in 90 [] ?_
      refine ⟨fun z => absurd z (by decide), sw_at 1 (by decide) rfl ?_⟩
      refine ⟨_, g.dr, ?_⟩
      refine ⟨_, rfl, _, rfl, ?_⟩
      refine w_in 90 [] ?_
      refine ⟨fun z => absurd z (by decide), sw_at 1 (by decide) rfl ?_⟩
      refine ⟨1, _, by (first | assumption | (simp only [z_nat, z_lit, ← Int32.ofInt_add, ← Int32.ofInt_sub, ← Int32.ofInt_mul]; exact congrArg Int32.ofInt (by omega)) | (simp only [z_nat, z_lit, ← Int32.ofInt_add, ← Int32.ofInt_sub, ← Int32.ofInt_mul]; done) | exact congrArg Int32.ofInt (by omega) | rfl), by (dsimp only; omega), g.R.R1, ?_⟩
      exact ⟨_, rfl, rfl, hP⟩
    · refine w_in 90 [] ?_
      refine ⟨fun z => absurd z (by decide), sw_at 2 (by decide) rfl ?_⟩
      refine ⟨_, g.jN, ?_⟩
      refine ⟨_, rfl, _, rfl, ?_⟩
      refine w_in 90 [] ?_
      refine ⟨fun z => absurd z (by decide), sw_at 2 (by decide) rfl ?_⟩
      refine ⟨2, _, by (first | assumption | (simp only [z_nat, z_lit, ← Int32.ofInt_add, ← Int32.ofInt_sub, ← Int32.ofInt_mul]; exact congrArg Int32.ofInt (by omega)) | (simp only [z_nat, z_lit, ← Int32.ofInt_add, ← Int32.ofInt_sub, ← Int32.ofInt_mul]; done) | exact congrArg Int32.ofInt (by omega) | rfl), by (dsimp only; omega), g.R.R2, ?_⟩
      exact ⟨_, rfl, rfl, hP⟩
    · refine w_in 90 [] ?_
      refine ⟨fun z => absurd z (by decide), sw_at 3 (by decide) rfl ?_⟩
      refine ⟨_, g.dN, ?_⟩
      refine ⟨_, rfl, _, rfl, ?_⟩
      refine w_in 90 [] ?_
      refine ⟨fun z => absurd z (by decide), sw_at 3 (by decide) rfl ?_⟩
      refine ⟨3, _, by (first | assumption | (simp only [z_nat, z_lit, ← Int32.ofInt_add, ← Int32.ofInt_sub, ← Int32.ofInt_mul]; exact congrArg Int32.ofInt (by omega)) | (simp only [z_nat, z_lit, ← Int32.ofInt_add, ← Int32.ofInt_sub, ← Int32.ofInt_mul]; done) | exact congrArg Int32.ofInt (by omega) | rfl), by (dsimp only; omega), g.R.R3, ?_⟩
      exact ⟨_, rfl, rfl, hP⟩
    · refine w_in 90 [] ?_
      refine ⟨fun z => absurd z (by decide), sw_at 4 (by decide) rfl ?_⟩
      refine ⟨_, g.eN, ?_⟩
      refine ⟨_, rfl, _, rfl, ?_⟩
      refine w_in 90 [] ?_
      refine ⟨fun z => absurd z (by decide), sw_at 4 (by decide) rfl ?_⟩
      refine ⟨4, _, by (first | assumption | (simp only [z_nat, z_lit, ← Int32.ofInt_add, ← Int32.ofInt_sub, ← Int32.ofInt_mul]; exact congrArg Int32.ofInt (by omega)) | (simp only [z_nat, z_lit, ← Int32.ofInt_add, ← Int32.ofInt_sub, ← Int32.ofInt_mul]; done) | exact congrArg Int32.ofInt (by omega) | rfl), by (dsimp only; omega), g.R.R4, ?_⟩
      exact ⟨_, rfl, rfl, hP⟩
    · refine w_in 90 [] ?_
      refine ⟨fun z => absurd z (by decide), sw_at 5 (by decide) rfl ?_⟩
      refine ⟨_, h5, ?_⟩
      refine ⟨_, rfl, _, rfl, ?_⟩
      refine w_in 90 [] ?_
      refine ⟨fun z => absurd z (by decide), sw_at 5 (by decide) rfl ?_⟩
      refine ⟨5, _, by (first | assumption | (simp only [z_nat, z_lit, ← Int32.ofInt_add, ← Int32.ofInt_sub, ← Int32.ofInt_mul]; exact congrArg Int32.ofInt (by omega)) | (simp only [z_nat, z_lit, ← Int32.ofInt_add, ← Int32.ofInt_sub, ← Int32.ofInt_mul]; done) | exact congrArg Int32.ofInt (by omega) | rfl), by (dsimp only; omega), g.R.R5, ?_⟩
      exact ⟨_, rfl, rfl, hP⟩
    · refine w_in 90 [] ?_
      refine ⟨fun z => absurd z (by decide), sw_at 6 (by decide) rfl ?_⟩
      refine ⟨_, g.cN, ?_⟩
      refine ⟨_, rfl, _, rfl, ?_⟩
      refine w_in 90 [] ?_
      refine ⟨fun z => absurd z (by decide), sw_at 6 (by decide) rfl ?_⟩
      refine ⟨6, _, by (first | assumption | (simp only [z_nat, z_lit, ← Int32.ofInt_add, ← Int32.ofInt_sub, ← Int32.ofInt_mul]; exact congrArg Int32.ofInt (by omega)) | (simp only [z_nat, z_lit, ← Int32.ofInt_add, ← Int32.ofInt_sub, ← Int32.ofInt_mul]; done) | exact congrArg Int32.ofInt (by omega) | rfl), by (dsimp only; omega), g.R.R6, ?_⟩
      exact ⟨_, rfl, rfl, hP⟩
    · refine w_in 90 [] ?_
      refine ⟨fun z => absurd z (by decide), sw_at 7 (by decide) rfl ?_⟩
      refine ⟨_, h7, ?_⟩
      refine ⟨_, rfl, _, rfl, ?_⟩
      refine w_in 90 [] ?_
      refine ⟨fun z => absurd z (by decide), sw_at 7 (by decide) rfl ?_⟩
      exact ⟨_, rfl, _, rfl, rfl, hP⟩
    · have fin : q_C q_mt (L, xs, q_shp) E nX12_look (d + 3) 0 0 (.ref 271 :: [.int (Int32.ofInt 8)]) M (fun v' M'' => v' = some (.int (Int32.ofInt (n 633))) ∧ P M'') := by
        refine w_in 90 [] ?_
        refine ⟨fun z => absurd z (by decide), sw_at 8 (by decide) rfl ?_⟩
        refine ⟨633, _, by (first | assumption | (simp only [z_nat, z_lit, ← Int32.ofInt_add, ← Int32.ofInt_sub, ← Int32.ofInt_mul]; exact congrArg Int32.ofInt (by omega)) | (simp only [z_nat, z_lit, ← Int32.ofInt_add, ← Int32.ofInt_sub, ← Int32.ofInt_mul]; done) | exact congrArg Int32.ofInt (by omega) | rfl), by (dsimp only; omega), g.R.at (by omega), ?_⟩
        exact ⟨_, rfl, rfl, hP⟩
      refine w_in 90 [] ?_
      refine ⟨fun z => absurd z (by decide), sw_at 8 (by decide) rfl ?_⟩
      refine ⟨_, g.ro, ?_⟩
      refine z_le (t 0 0) 0 (fun h => ⟨_, rfl, _, rfl, ?_⟩) (fun h => ?_)
      · have e0 := hD.2.1 (by omega)
        rw [e0] at fin
        exact fin
      · refine ⟨_, g.dv, ?_⟩
        by_cases q2 : isB t n
        · obtain ⟨e, r, hb, -⟩ := hD.2.2 q2
          have e6 := g.R.e6
          have he := hb.2.1
          rw [brd_at hb]
          refine z_ne (e : Int) (-1) (fun _ => ⟨_, rfl, _, rfl, ?_⟩) (fun z => by omega)
          rw [hD.1.elim id (fun z => absurd z q2.2)] at fin
          exact fin
        · rw [brd_no q2]
          refine z_ne (-1) (-1) (fun z => absurd rfl z) (fun _ => ⟨_, rfl, _, rfl, ?_⟩)
          rw [hD.1.elim (fun z => absurd ⟨by omega, by omega⟩ q2) id] at fin
          exact fin
    · refine w_in 90 [] ?_
      refine ⟨fun z => absurd z (by decide), sw_at 9 (by decide) rfl ?_⟩
      refine k2_countIn_43 g ⟨_, rfl, _, rfl, ?_⟩
      refine w_in 90 [] ?_
      refine ⟨fun z => absurd z (by decide), sw_at 9 (by decide) rfl ?_⟩
      exact k_inMany g.R ⟨_, rfl, rfl, hP⟩
    · refine w_in 90 [] ?_
      refine ⟨fun z => absurd z (by decide), sw_at 10 (by decide) rfl ?_⟩
      refine ⟨_, h10, ?_⟩
      refine ⟨_, rfl, _, rfl, ?_⟩
      refine w_in 90 [] ?_
      refine ⟨fun z => absurd z (by decide), sw_at 10 (by decide) rfl ?_⟩
      exact ⟨_, rfl, _, rfl, rfl, hP⟩
set_option maxRecDepth 100000 in
set_option maxHeartbeats 4000000 in
theorem k2_boardSlot (g : g_A 43 M t n) {e r : Nat} (hb : b_B t n e r) (hQ : Q (some (.int (nI (16 * (6 * e + r))))) M) : q_C q_mt (L, xs, q_shp) E nX8_boardSlot (d) 0 0 [.ref 43] M Q := by
  have h6 := g.R.e6
  have h7 := g.R.r6
  have he := hb.2.1
  have hr := hb.2.2.1
  have h31 := hb.2.2.2.1
  have e1 := g.dv
  have e2 := g.rn
  rw [brd_at hb] at e1
  rw [h31] at e2
  refine w_in 90 [] ?_
  refine ⟨_, e1, ?_⟩
  refine ⟨_, e2, ?_⟩
  exact ⟨_, by (first | assumption | (simp only [z_nat, z_lit, ← Int32.ofInt_add, ← Int32.ofInt_sub, ← Int32.ofInt_mul]; exact congrArg Int32.ofInt (by omega)) | (simp only [z_nat, z_lit, ← Int32.ofInt_add, ← Int32.ofInt_sub, ← Int32.ofInt_mul]; done) | exact congrArg Int32.ofInt (by omega) | rfl), hQ⟩
set_option maxRecDepth 100000 in
set_option maxHeartbeats 4000000 in
theorem o_marked {a : Int32} (g : g_A 43 M t n) (hD : b_D t n) (hP : P M) : zOp L xs E nX11_marked nX12_marked (d + 3) [.int a] M P := by
  have e1 := g.dv
  have h6 := g.R.e6
  have h7 := g.R.r6
  have h11 := g.R.j11
  by_cases q : isB t n
  · obtain ⟨e, r, hb, -⟩ := hD.2.2 q
    have he := hb.2.1
    have hr := hb.2.2.1
    have h31 := hb.2.2.2.1
    rw [brd_at hb] at e1
    have ref0 : ∀ Q', (∀ j, j < t 2 0 → a = nI j → Q' (some (.int (Int32.ofInt (mk n e r j)))) M) → ((¬ ∃ j, j < t 2 0 ∧ a = nI j) → Q' (some (.int (Int32.ofInt (-1)))) M) → q_C q_mt (L, xs, q_shp) E nX12_marked (d + 3) 0 0 (.ref 271 :: [.int a]) M Q' := by
      intro Q' y1 y0
      refine w_in 90 [] ?_
      refine k_boardOf g.R hD.1 (fun z => absurd q z) (fun _ => ⟨e, r, hb, ?_⟩)
      refine z_eq (e : Int) (-1) (fun z => by omega) (fun _ => ?_)
      refine c_X12_isJudge g.R.1 g.R.b (fun j hj ej => bn_t (by decide) ?_) (fun z => bn_f (by decide) ⟨_, rfl, y0 z⟩)
      subst ej
      refine k_roundNow g.R ?_
      refine k_slot e r ?_ (hb := by rw [h31]; rfl)
      refine ⟨36 + 11 * (6 * e + r) + j, _, by (first | assumption | (simp only [z_nat, z_lit, ← Int32.ofInt_add, ← Int32.ofInt_sub, ← Int32.ofInt_mul]; exact congrArg Int32.ofInt (by omega)) | (simp only [z_nat, z_lit, ← Int32.ofInt_add, ← Int32.ofInt_sub, ← Int32.ofInt_mul]; done) | exact congrArg Int32.ofInt (by omega) | rfl), by (dsimp only; omega), g.R.at (by omega), ?_⟩
      exact ⟨_, rfl, y1 j hj rfl⟩
    refine w_in 90 [] ?_
    refine ⟨_, e1, ?_⟩
    refine z_eq (e : Int) (-1) (fun z => by omega) (fun _ => ?_)
    refine d_hasJudge g.C g.R.b (fun j hj ej => bn_t (by decide) ?_) (fun z => bn_f (by decide) ⟨_, rfl, _, rfl, ref0 _ (fun j hj ej => absurd ⟨j, hj, ej⟩ z) (fun _ => ⟨rfl, hP⟩)⟩)
    subst ej
    refine k2_boardSlot g hb ?_
    refine ⟨16 * (6 * e + r) + 5 + j, _, by (first | assumption | (simp only [z_nat, z_lit, ← Int32.ofInt_add, ← Int32.ofInt_sub, ← Int32.ofInt_mul]; exact congrArg Int32.ofInt (by omega)) | (simp only [z_nat, z_lit, ← Int32.ofInt_add, ← Int32.ofInt_sub, ← Int32.ofInt_mul]; done) | exact congrArg Int32.ofInt (by omega) | rfl), by (dsimp only; omega), g.mk (show 6 * e + r < 36 by omega) (show j < 11 by omega), ?_⟩
    refine ⟨_, rfl, _, rfl, ref0 _ (fun j' hj' ej => ⟨?_, hP⟩) (fun z => absurd ⟨j, hj, rfl⟩ z)⟩
    rw [(nI_eq (by omega) (by omega)).mp ej]
  · rw [brd_no q] at e1
    refine w_in 90 [] ?_
    refine ⟨_, e1, ?_⟩
    refine z_eq (-1) (-1) (fun _ => ⟨_, rfl, _, rfl, ?_⟩) (fun z => absurd rfl z)
    refine w_in 90 [] ?_
    refine k_boardOf g.R hD.1 (fun _ => ?_) (fun z => absurd z q)
    exact z_eq (-1) (-1) (fun _ => ⟨_, rfl, rfl, hP⟩) (fun z => absurd rfl z)
end O2
