/-! the call back, where nothing is kept -/
section B2
variable {L : Nat} {xs : Nat → Int32} {E : q_E} {d : Nat} {M : q_M} {t : q_T} {n : sN} {Q : Option Value → q_M → Prop} {P : q_M → Prop}
set_option maxRecDepth 100000 in
set_option maxHeartbeats 4000000 in
theorem o_back_no {a : Int32} (g : g_A 43 M t n) (h : ¬ ∃ k, k < 2 ∧ a = nI k) (hP : P M) : zOp L xs E nX11_back nX12_back (d + 6) [.int a] M P := by
  obtain ⟨w, hw, rfl⟩ := z_of a
  have q : ¬ (0 ≤ w ∧ w ≤ 1) := fun q => h ⟨w.toNat, by omega, by rw [z_nat]; exact congrArg Int32.ofInt (by omega)⟩
  have fin : q_C q_mt (L, xs, q_shp) E nX12_back (d + 6) 0 0 (.ref 271 :: [.int (Int32.ofInt w)]) M (fun v' M'' => v' = some (.int (Int32.ofInt (-2))) ∧ P M'') := by
    refine w_in 90 [26] ?_
    exact k_isIn w 0 1 hw (by omega) (by omega) (fun z1 z2 => absurd ⟨z1, z2⟩ q) (fun _ => bn_f (by decide) ⟨_, rfl, rfl, hP⟩)
  refine w_in 90 [] ?_
  refine z_lt w 0 (fun z => ⟨_, rfl, _, rfl, fin⟩) (fun _ => ?_)
  exact z_lt w 2 (fun _ => by omega) (fun z => ⟨_, rfl, _, rfl, fin⟩)
set_option maxRecDepth 100000 in
set_option maxHeartbeats 4000000 in
theorem o_back_none_0 {kp : Nat → Option sN} (hk : g_Kp M t kp) (hm : kp 0 = none) (hP : P M) : zOp L xs E nX11_back nX12_back (d + 6) [.int (nI 0)] M P := by
  obtain ⟨a1, a2⟩ := (hk 0 (by omega)).1 hm
  have hx := b_at (x := M.1 2 13) (j := 0) (by omega)
  rw [a1] at hx
  refine w_in 90 [] ?_
  refine z_lt (0 : Nat) 0 (fun z => by omega) (fun _ => ?_)
  refine z_lt (0 : Nat) 2 (fun _ => ?_) (fun z => by omega)
  refine ⟨_, rfl, ?_⟩
  refine z_ne 0 0 (fun z => absurd rfl z) (fun _ => ⟨_, rfl, _, rfl, ?_⟩) (hx := hx)
  refine w_in 90 [26] ?_
  refine k_isIn (0 : Nat) 0 1 (by omega) (by omega) (by omega) (fun _ _ => bn_t (by decide) ?_) (fun z => absurd ⟨by omega, by omega⟩ z)
  refine ⟨⟨by decide, by decide⟩, ?_⟩
  exact z_ne 0 0 (fun z => absurd rfl z) (fun _ => ⟨_, rfl, rfl, hP⟩) (hx := a2)
set_option maxRecDepth 100000 in
set_option maxHeartbeats 4000000 in
theorem o_back_none_1 {kp : Nat → Option sN} (hk : g_Kp M t kp) (hm : kp 1 = none) (hP : P M) : zOp L xs E nX11_back nX12_back (d + 6) [.int (nI 1)] M P := by
  obtain ⟨a1, a2⟩ := (hk 1 (by omega)).1 hm
  have hx := b_at (x := M.1 2 13) (j := 1) (by omega)
  rw [a1] at hx
  refine w_in 90 [] ?_
  refine z_lt (1 : Nat) 0 (fun z => by omega) (fun _ => ?_)
  refine z_lt (1 : Nat) 2 (fun _ => ?_) (fun z => by omega)
  refine ⟨_, rfl, ?_⟩
  refine z_ne 0 0 (fun z => absurd rfl z) (fun _ => ⟨_, rfl, _, rfl, ?_⟩) (hx := hx)
  refine w_in 90 [26] ?_
  refine k_isIn (1 : Nat) 0 1 (by omega) (by omega) (by omega) (fun _ _ => bn_t (by decide) ?_) (fun z => absurd ⟨by omega, by omega⟩ z)
  refine ⟨⟨by decide, by decide⟩, ?_⟩
  exact z_ne 0 0 (fun z => absurd rfl z) (fun _ => ⟨_, rfl, rfl, hP⟩) (hx := a2)
end B2
