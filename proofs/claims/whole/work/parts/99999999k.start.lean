/-! the invariant where both objects are new -/
theorem hm_1 {M : q_M} {r i : Nat} (h : i ≠ 9 ∨ r < 68 ∨ 238 ≤ r) : ∀ k, k ≤ 21 → (h_mem 67 M k).1 r i = M.1 r i
  | 0, _ => rfl
  | k + 1, hk => by
    show (q_si (h_mem 67 M k) (67 + 1 + 8 * k + 2) 9 (Int32.ofInt (-1))).1 r i = _
    rw [q_si_nn (fun e => by omega)]
    exact hm_1 h k (by omega)
theorem hm_2 {M : q_M} : ∀ k, (h_mem 67 M k).2 = M.2
  | 0 => rfl
  | k + 1 => hm_2 (M := M) k
theorem wm_1 {M : q_M} {r i : Nat} (h : r ≠ 271 ∨ (i ≠ 12 ∧ i ≠ 29)) : (w_modM M).1 r i = M.1 r i := by
  unfold w_modM
  rw [q_si_nn (fun e => by omega)]
  show (q_si M 271 12 (Int32.ofInt (-1))).1 r i = _
  exact q_si_nn (fun e => by omega)
theorem wz {r i : Nat} (h2 : r ≠ 2) (h27 : r ≠ 270) (h3 : r ≠ 3 ∨ i ≠ 8) (h9 : i ≠ 9 ∨ (r ≠ 43 ∧ r ≠ 52 ∧ r ≠ 60 ∧ r ≠ 257 ∧ (r < 68 ∨ 238 ≤ r))) (h71 : r ≠ 271 ∨ (i ≠ 12 ∧ i ≠ 29)) : (w_modM d_M13).1 r i = nI 0 := by
  rw [wm_1 h71]
  unfold d_M13
  rw [q_si_nn (fun e => h2 e.1), q_si_nn (fun e => h2 e.1), q_si_nn (fun e => h2 e.1), q_si_nn (fun e => h2 e.1), q_si_nn (fun e => h27 e.1), q_si_nn (fun e => h27 e.1)]
  unfold d_M12
  rw [q_si_nn (fun e => by omega)]
  unfold d_M11 d_M10 d_M9 d_M8 d_M7
  rw [hm_1 (by omega) 21 (Nat.le_refl _)]
  unfold d_M6
  rw [q_si_nn (fun e => by omega), q_si_nn (fun e => by omega)]
  unfold d_M5
  rw [q_si_nn (fun e => by omega)]
  unfold d_M4 d_M3 d_M2 d_M1
  rw [q_si_nn (fun e => by omega)]
  exact nI_0.symm
theorem ow_0 : ∀ k, k < 34 → (w_modM d_M13).2 278 k = W8 (if k = 25 then 26 else if k = 26 then 25 else k) := by decide +kernel
theorem lx_0 (w : Nat) : (w_modM d_M13).2 5 w = (tpM d_M0 179).2 5 w := by
  have e1 : (w_modM d_M13).2 5 w = d_M13.2 5 w := rfl
  have e2 : d_M13.2 5 w = (h_mem 67 d_M6 21).2 5 w := rfl
  have e3 : d_M6.2 5 w = (tpM d_M0 179).2 5 w := rfl
  rw [e1, e2, hm_2]
  exact e3
theorem no_0 {P : Nat → Prop} : ∀ j, j < 0 → P j := fun _ h => absurd h (Nat.not_lt_zero _)
theorem wz6 {r i : Nat} (h : 6 ≤ r) (h' : r < 43) : (w_modM d_M13).1 r i = nI 0 := wz (by omega) (by omega) (by omega) (by omega) (by omega)
theorem wz44 {r i : Nat} (h : 44 ≤ r) (h' : r < 52) : (w_modM d_M13).1 r i = nI 0 := wz (by omega) (by omega) (by omega) (by omega) (by omega)
theorem wz2 {r i : Nat} (h : 272 ≤ r) : (w_modM d_M13).1 r i = nI 0 := wz (by omega) (by omega) (by omega) (by omega) (by omega)
theorem gS_0 : g_S 43 (w_modM d_M13) (fun _ _ => 0) (fun _ => 0) := by
  have l0 : ∀ s, lS (fun _ _ => 0) (fun _ => 0) s = 0 := fun s => by
    unfold lS oZ
    rw [if_neg (fun h => absurd h.1 (Nat.not_lt_zero _)), if_pos rfl]
  have p0 : ∀ s, pS (fun _ _ => 0) (fun _ => 0) s = 0 := fun s => by
    unfold pS oZ
    rw [if_neg (show ¬ (0 : Int) = 1 by decide), if_pos rfl]
  have b0 : ∀ e, bS (fun _ _ => 0) (fun _ => 0) e = 0 := fun e => if_neg (Nat.not_lt_zero _)
  have g0 : ∀ e, gS (fun _ _ => 0) (fun _ => 0) e = 0 := fun e => if_neg (Nat.not_lt_zero _)
  have t0 : ∀ e, tS (fun _ _ => 0) (fun _ => 0) e = 0 := fun e => if_neg (Nat.not_lt_zero _)
  have r0 : brd (fun _ _ => 0) (fun _ => 0) = -1 := if_pos (Or.inl rfl)
  refine ⟨fun s hs => ?_, fun s hs => ⟨⟨?_, wz44 (by omega) (by omega), wz44 (by omega) (by omega), wz44 (by omega) (by omega), wz44 (by omega) (by omega)⟩, fun j hj => wz44 (by omega) (by omega)⟩, fun e he => ⟨wz44 (by omega) (by omega), ?_, ?_, ?_⟩, ?_, ?_, fun z => absurd rfl z.1⟩
  · rw [l0]
    exact wz44 (by omega) (by omega)
  · rw [p0]
    exact wz44 (by omega) (by omega)
  · rw [b0]
    exact wz44 (by omega) (by omega)
  · rw [g0]
    exact wz44 (by omega) (by omega)
  · rw [t0]
    exact wz44 (by omega) (by omega)
  · exact wz (by omega) (by omega) (by omega) (by omega) (by omega)
  · rw [r0]
    decide +kernel
theorem iW_0 : iW (w_modM d_M13) := by
  have b0 : ∀ k, k < 2 → bt (nI 0) k = false := by decide +kernel
  have e13 : (w_modM d_M13).1 2 13 = nI 0 := by decide +kernel
  have bT : b_T (fun _ _ => 0) := ⟨Nat.zero_le _, Nat.zero_le _, Nat.zero_le _, Nat.zero_le _, Nat.zero_le _, Nat.zero_le _, Nat.zero_le _, no_0, no_0, no_0⟩
  have bT2 : b_T2 (fun _ _ => 0) := ⟨no_0, no_0, fun c c' _ h => absurd h (Nat.not_lt_zero _), Iff.rfl, no_0⟩
  have bN : b_N (fun _ _ => 0) (fun _ => 0) := ⟨no_0, no_0, no_0⟩
  have bJ : b_J (fun _ _ => 0) (fun _ => 0) := ⟨⟨bN, fun _ _ _ => rfl, no_0, no_0⟩, ⟨Or.inl rfl, fun _ => rfl⟩, fun z => absurd rfl z.1⟩
  have gR : g_R (w_modM d_M13) (fun _ _ => 0) (fun _ => 0) := ⟨⟨wz2 (by omega), wz2 (by omega), wz2 (by omega), wz2 (by omega), wz2 (by omega), wz2 (by omega), wz2 (by omega), no_0, no_0, no_0, no_0, no_0⟩, ⟨bT, bT2⟩, fun k _ => wz2 (by omega), bN⟩
  have rC : r_C 6 (w_modM d_M13) (fun _ _ => 0) := ⟨wz6 (by omega) (by omega), wz6 (by omega) (by omega), wz6 (by omega) (by omega), wz6 (by omega) (by omega), wz6 (by omega) (by omega), wz6 (by omega) (by omega), wz6 (by omega) (by omega), no_0, no_0, no_0, no_0, no_0⟩
  refine ⟨fun _ _ => 0, fun _ => 0, 0, 0, fun _ _ => 0, fun _ => none, ⟨⟨⟨gR, rC, gS_0⟩, bJ⟩, ⟨by omega, by omega, ?_, ?_, no_0⟩, ⟨Nat.zero_le _, ?_, no_0⟩, no_0⟩, ⟨i_tape.no ?_ ?_, ?_, ?_, ?_⟩, ⟨⟨wz6 (by omega) (by omega), no_0⟩, ⟨Nat.zero_le _, Nat.zero_le _, no_0⟩, ⟨no_0, no_0⟩⟩, ⟨g_lx.tp (fun w _ => lx_0 w), ow_0, ?_⟩, fun pr hp hb => ?_, fun k hk => ⟨fun _ => ⟨by rw [e13]; exact b0 k hk, wz2 (by omega)⟩, fun m e => by cases e⟩, fun k m _ e => by cases e⟩
  · exact wz (by omega) (by omega) (by omega) (by omega) (by omega)
  · exact wz (by omega) (by omega) (by omega) (by omega) (by omega)
  · exact wz (by omega) (by omega) (by omega) (by omega) (by omega)
  · exact wz (by omega) (by omega) (by omega) (by omega) (by omega)
  · exact wz (by omega) (by omega) (by omega) (by omega) (by omega)
  · decide +kernel
  · decide +kernel
  · decide +kernel
  · decide +kernel
  · rw [show (w_modM d_M13).1 244 8 = nI 0 from wz (by omega) (by omega) (by omega) (by omega) (by omega), b0 pr hp] at hb
    cases hb
