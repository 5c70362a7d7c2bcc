/-! System.arraycopy between two rows of the system -/
theorem q_cpi_ne {M : q_M} {a sp b dp n j : Nat} (h : j ≠ b) : (q_cpi M a sp b dp n).1 j = M.1 j := by
  funext i
  have hb : Nat.beq j b = false := by
    cases hq : Nat.beq j b with
    | false => rfl
    | true => exact absurd (Nat.eq_of_beq_eq_true hq) h
  show (bif Nat.beq j b && (Nat.ble dp i && Nat.blt i (dp + n)) then _ else M.1 j i) = _
  rw [hb]
  rfl
theorem q_cpl_ne {M : q_M} {a sp b dp n j : Nat} (h : j ≠ b) : (q_cpl M a sp b dp n).2 j = M.2 j := by
  funext i
  have hb : Nat.beq j b = false := by
    cases hq : Nat.beq j b with
    | false => rfl
    | true => exact absurd (Nat.eq_of_beq_eq_true hq) h
  show (bif Nat.beq j b && (Nat.ble dp i && Nat.blt i (dp + n)) then _ else M.2 j i) = _
  rw [hb]
  rfl
theorem q_run {α : Type} (dp n i : Nat) (x y : α) : (bif Nat.ble dp i && Nat.blt i (dp + n) then x else y) = if dp ≤ i ∧ i < dp + n then x else y := by
  by_cases h : dp ≤ i ∧ i < dp + n
  · rw [if_pos h, Nat.ble_eq_true_of_le h.1, show Nat.blt i (dp + n) = true from Nat.ble_eq_true_of_le h.2]
    rfl
  · rw [if_neg h]
    cases h1 : Nat.ble dp i with
    | false => rfl
    | true =>
      cases h2 : Nat.blt i (dp + n) with
      | false => rfl
      | true => exact absurd ⟨Nat.le_of_ble_eq_true h1, Nat.le_of_ble_eq_true h2⟩ h
theorem q_cpi_at (M : q_M) (a sp b dp n : Nat) : (q_cpi M a sp b dp n).1 b = va_cpy (M.1 a) (M.1 b) sp dp n := by
  funext i
  show (bif Nat.beq b b && (Nat.ble dp i && Nat.blt i (dp + n)) then M.1 a (sp + (i - dp)) else M.1 b i) = _
  rw [q_beq_refl, Bool.true_and, q_run]
  rfl
theorem q_cpl_at (M : q_M) (a sp b dp n : Nat) : (q_cpl M a sp b dp n).2 b = va_cpy (M.2 a) (M.2 b) sp dp n := by
  funext i
  show (bif Nat.beq b b && (Nat.ble dp i && Nat.blt i (dp + n)) then M.2 a (sp + (i - dp)) else M.2 b i) = _
  rw [q_beq_refl, Bool.true_and, q_run]
  rfl
theorem q_nw : nativeFrameWords "java/lang/System" "arraycopy" 5 + 11 ≤ 40 := by decide +kernel
section QY
variable {mt : Nat → q_Me} {Z : q_Z} {E : q_E} {mi d rc rs : Nat} {Y : Array Value → State → Outcome → State → Prop} {pc idx : Nat} {lv : q_L} {rest : List Value} {M : q_M}
/-- what a copy asks of its numbers -/
def q_cpok (sp dp n : Int32) (n0 n1 : Nat) : Prop := 0 ≤ sp.toInt ∧ 0 ≤ dp.toInt ∧ 0 ≤ n.toInt ∧ sp.toInt + n.toInt ≤ (n0 : Int) ∧ dp.toInt + n.toInt ≤ (n1 : Int)
theorem q_cpok.use {sp dp n : Int32} {n0 n1 : Nat} (h : q_cpok sp dp n n0 n1) : ¬ sp < 0 ∧ ¬ dp < 0 ∧ ¬ n < 0 ∧ sp.toNatClampNeg + n.toNatClampNeg ≤ n0 ∧ dp.toNatClampNeg + n.toNatClampNeg ≤ n1 := by
  obtain ⟨h1, h2, h3, h4, h5⟩ := h
  have e1 : sp.toNatClampNeg = sp.toInt.toNat := rfl
  have e2 : dp.toNatClampNeg = dp.toInt.toNat := rfl
  have e3 : n.toNatClampNeg = n.toInt.toNat := rfl
  rw [Int32.lt_iff_toInt_lt, Int32.lt_iff_toInt_lt, Int32.lt_iff_toInt_lt, Int32.toInt_zero, e1, e2, e3]
  omega
theorem q_copyi {a b ca cb na nb : Nat} {ra rb : List (Option Nat)} {sp dp n : Int32} (ha : q_cell Z a = some (1, ca, na, ra)) (hb : q_cell Z b = some (1, cb, nb, rb)) (hok : q_cpok sp dp n na nb)
    (h1 : Cond.methodLink (mt mi).1 idx arraycopyName ∈ q_wT) (h2 : Cond.native arraycopyName ∈ q_wT) (h3 : Cond.static arraycopyName ∈ q_wT) (h4 : Cond.initialized "java/lang/System" ∈ q_wT) (hroom : (rest.map fun v => v.category).sum ≤ 8) (hd : decode (mt mi).2.2.1 pc = .ok (.invokestatic idx, 3))
    (kk : q_G mt Z E mi (d + 1) rc rs Y (pc + 3) lv rest (q_cpi M a sp.toNatClampNeg b dp.toNatClampNeg n.toNatClampNeg)) : q_G mt Z E mi (d + 1) rc rs Y pc lv (.int n :: .int dp :: .ref b :: .int sp :: .ref a :: rest) M := by
  intro l p e R s m args below meth c H locs cells slots ls A hl hR hcc hss
  obtain ⟨a0, rfl⟩ := q_own ha (Nat.le_of_ble_eq_true rfl)
  obtain ⟨b0, rfl⟩ := q_own hb (Nat.le_of_ble_eq_true rfl)
  obtain ⟨hK, ⟨sv, X, hP, hD, hSB⟩, hS, hX, hz, hE, hN⟩ := hR
  obtain ⟨g1, g2, g3, g4, g5⟩ := hok.use
  have hcat : ((rest.map (q_vm E.1)).map fun v => v.category).sum ≤ 8 := by
    rw [List.map_map, show ((fun v => Value.category v) ∘ q_vm E.1) = (fun v => v.category) from funext (fun v => q_vm_cat E.1 v)]
    exact hroom
  refine va_copyi A.1 A.2.1 (by rw [hl.1]; exact A.2.2.2.1) A.2.2.2.2.1 (q_word A h1) (q_word A h2) (q_word A h3) (q_word A h4) hK hP hD hS a0 b0 0 0 (q_wl_at X ha) (q_wl_at X hb) (ty := .int) rfl rfl rfl g1 g2 g3 g4 g5 (fun _ _ => rfl) (by have := A.2.2.2.2.2.2.2.1; omega) (by have := A.2.2.2.2.2.2.2.2; have := q_nw; omega) hd (fun H1 locs1 hP1 hD1 hS1 => ?_)
  have e2 : (q_wl Z E M sv ++ X).set b0 (E.1 (b0 + 2), .inl (E.2.2.1 1, nb, .inl (va_cpy (M.1 (a0 + 2)) (M.1 (b0 + 2)) sp.toNatClampNeg dp.toNatClampNeg n.toNatClampNeg))) = q_wl Z E (q_cpi M (a0 + 2) sp.toNatClampNeg (b0 + 2) dp.toNatClampNeg n.toNatClampNeg) sv ++ X := by
    rw [← q_cpi_at]
    exact q_wl_upd (M' := q_cpi M (a0 + 2) sp.toNatClampNeg (b0 + 2) dp.toNatClampNeg n.toNatClampNeg) hb (fun j hj => ⟨q_cpi_ne hj, rfl⟩)
  have hP1 : va_P E.2.1 vwCl ((q_wl Z E M sv ++ X).set b0 (E.1 (b0 + 2), .inl (E.2.2.1 1, nb, .inl (va_cpy (M.1 (a0 + 2)) (M.1 (b0 + 2)) sp.toNatClampNeg dp.toNatClampNeg n.toNatClampNeg)))) H1 := hP1
  have hD1 : va_D (q_A E) ((q_wl Z E M sv ++ X).set b0 (E.1 (b0 + 2), .inl (E.2.2.1 1, nb, .inl (va_cpy (M.1 (a0 + 2)) (M.1 (b0 + 2)) sp.toNatClampNeg dp.toNatClampNeg n.toNatClampNeg)))) := hD1
  rw [e2] at hP1 hD1
  exact kk l p e R s m args below meth c H1 locs1 cells slots ls A hl ⟨hK, ⟨sv, X, hP1, hD1, q_SB hE hb (show (1 : Nat) ≠ 7 by decide) (fun j hj => q_cpi_ne hj) hSB⟩, hS1, hX, hz, hE, hN⟩ hcc hss
theorem q_copyl {a b ca cb na nb : Nat} {ra rb : List (Option Nat)} {sp dp n : Int32} (ha : q_cell Z a = some (2, ca, na, ra)) (hb : q_cell Z b = some (2, cb, nb, rb)) (hok : q_cpok sp dp n na nb)
    (h1 : Cond.methodLink (mt mi).1 idx arraycopyName ∈ q_wT) (h2 : Cond.native arraycopyName ∈ q_wT) (h3 : Cond.static arraycopyName ∈ q_wT) (h4 : Cond.initialized "java/lang/System" ∈ q_wT) (hroom : (rest.map fun v => v.category).sum ≤ 8) (hd : decode (mt mi).2.2.1 pc = .ok (.invokestatic idx, 3))
    (kk : q_G mt Z E mi (d + 1) rc rs Y (pc + 3) lv rest (q_cpl M a sp.toNatClampNeg b dp.toNatClampNeg n.toNatClampNeg)) : q_G mt Z E mi (d + 1) rc rs Y pc lv (.int n :: .int dp :: .ref b :: .int sp :: .ref a :: rest) M := by
  intro l p e R s m args below meth c H locs cells slots ls A hl hR hcc hss
  obtain ⟨a0, rfl⟩ := q_own ha (Nat.le_of_ble_eq_true rfl)
  obtain ⟨b0, rfl⟩ := q_own hb (Nat.le_of_ble_eq_true rfl)
  obtain ⟨hK, ⟨sv, X, hP, hD, hSB⟩, hS, hX, hz, hE, hN⟩ := hR
  obtain ⟨g1, g2, g3, g4, g5⟩ := hok.use
  have hcat : ((rest.map (q_vm E.1)).map fun v => v.category).sum ≤ 8 := by
    rw [List.map_map, show ((fun v => Value.category v) ∘ q_vm E.1) = (fun v => v.category) from funext (fun v => q_vm_cat E.1 v)]
    exact hroom
  refine va_copyl A.1 A.2.1 (by rw [hl.1]; exact A.2.2.2.1) A.2.2.2.2.1 (q_word A h1) (q_word A h2) (q_word A h3) (q_word A h4) hK hP hD hS a0 b0 1 1 (q_wl_at X ha) (q_wl_at X hb) (ty := .long) rfl rfl rfl g1 g2 g3 g4 g5 (fun _ _ => rfl) (by have := A.2.2.2.2.2.2.2.1; omega) (by have := A.2.2.2.2.2.2.2.2; have := q_nw; omega) hd (fun H1 locs1 hP1 hD1 hS1 => ?_)
  have e2 : (q_wl Z E M sv ++ X).set b0 (E.1 (b0 + 2), .inl (E.2.2.1 2, nb, .inr (.inl (va_cpy (M.2 (a0 + 2)) (M.2 (b0 + 2)) sp.toNatClampNeg dp.toNatClampNeg n.toNatClampNeg)))) = q_wl Z E (q_cpl M (a0 + 2) sp.toNatClampNeg (b0 + 2) dp.toNatClampNeg n.toNatClampNeg) sv ++ X := by
    rw [← q_cpl_at]
    exact q_wl_upd (M' := q_cpl M (a0 + 2) sp.toNatClampNeg (b0 + 2) dp.toNatClampNeg n.toNatClampNeg) hb (fun j hj => ⟨rfl, q_cpl_ne hj⟩)
  have hP1 : va_P E.2.1 vwCl ((q_wl Z E M sv ++ X).set b0 (E.1 (b0 + 2), .inl (E.2.2.1 2, nb, .inr (.inl (va_cpy (M.2 (a0 + 2)) (M.2 (b0 + 2)) sp.toNatClampNeg dp.toNatClampNeg n.toNatClampNeg))))) H1 := hP1
  have hD1 : va_D (q_A E) ((q_wl Z E M sv ++ X).set b0 (E.1 (b0 + 2), .inl (E.2.2.1 2, nb, .inr (.inl (va_cpy (M.2 (a0 + 2)) (M.2 (b0 + 2)) sp.toNatClampNeg dp.toNatClampNeg n.toNatClampNeg))))) := hD1
  rw [e2] at hP1 hD1
  exact kk l p e R s m args below meth c H1 locs1 cells slots ls A hl ⟨hK, ⟨sv, X, hP1, hD1, q_SB (M := M) hE hb (show (2 : Nat) ≠ 7 by decide) (fun j hj => rfl) hSB⟩, hS1, hX, hz, hE, hN⟩ hcc hss
end QY
