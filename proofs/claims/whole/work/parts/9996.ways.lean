/-! rows that obey, in their order: the pure picture -/
abbrev CT : Type := Nat → Nat → Nat → Bool
def exF (g : Nat → List (List Nat)) : Nat → Nat → List (List Nat)
  | 0, _ => []
  | j + 1, a => g a ++ exF g j (a + 1)
/-- all ends of rows from place p on, k places, behind a set -/
def ext (C : CT) (D : Nat) : Nat → Nat → Nat → List (List Nat)
  | 0, _, _ => [[]]
  | k + 1, p, S => exF (fun d => if C p S d = true then (ext C D k (p + 1) (S ||| 2 ^ d)).map (List.cons d) else []) D 0
def blk (C : CT) (D k p S d : Nat) : List (List Nat) := if C p S d = true then (ext C D k (p + 1) (S ||| 2 ^ d)).map (List.cons d) else []
/-- those whose first dive is a or later -/
def exA (C : CT) (D k p S a : Nat) : List (List Nat) := exF (blk C D k p S) (D - a) a
def lrow (row : Nat → Nat) (p : Nat) : Nat → List Nat
  | 0 => []
  | k + 1 => row p :: lrow row (p + 1) k
/-- what is still ahead of a row, from its first p places -/
def remP (C : CT) (D N : Nat) (row : Nat → Nat) : Nat → List (List Nat)
  | 0 => []
  | p + 1 => (exA C D (N - 1 - p) p (stO row p) (row p + 1)).map (lrow row 0 p ++ ·) ++ remP C D N row p
def updR (row : Nat → Nat) (p d : Nat) : Nat → Nat := fun i => if i = p then d else row i
section EX
variable {C : CT} {D k p S a N : Nat} {row row' : Nat → Nat}
theorem exA_0 : exA C D k p S 0 = ext C D (k + 1) p S := rfl
theorem exA_ge (h : D ≤ a) : exA C D k p S a = [] := by
  unfold exA
  rw [show D - a = 0 by omega]
  rfl
theorem exA_s (h : a < D) : exA C D k p S a = blk C D k p S a ++ exA C D k p S (a + 1) := by
  unfold exA
  rw [show D - a = (D - (a + 1)) + 1 by omega]
  rfl
theorem exA_skip : ∀ (m : Nat) {a : Nat}, a + m ≤ D → (∀ d, a ≤ d → d < a + m → C p S d = false) → exA C D k p S a = exA C D k p S (a + m)
  | 0, a, _, _ => rfl
  | m + 1, a, h, hc => by
    rw [exA_s (by omega), exA_skip m (a := a + 1) (by omega) (fun d h1 h2 => hc d (by omega) (by omega))]
    have : blk C D k p S a = [] := if_neg (by rw [hc a (Nat.le_refl _) (by omega)]; decide)
    rw [this, show a + 1 + m = a + (m + 1) by omega]
    rfl
theorem exA_none (h : ∀ d, a ≤ d → d < D → C p S d = false) : exA C D k p S a = [] := by
  by_cases q : a ≤ D
  · rw [exA_skip (D - a) (by omega) (fun d h1 h2 => h d h1 (by omega))]
    exact exA_ge (by omega)
  · exact exA_ge (by omega)
theorem lrow_eq : ∀ {k p : Nat}, (∀ i, p ≤ i → i < p + k → row' i = row i) → lrow row' p k = lrow row p k
  | 0, _, _ => rfl
  | k + 1, p, h => by
    show row' p :: lrow row' (p + 1) k = row p :: lrow row (p + 1) k
    rw [h p (Nat.le_refl _) (by omega), lrow_eq (k := k) (fun i h1 h2 => h i (by omega) (by omega))]
theorem lrow_s : ∀ {k p : Nat}, lrow row p (k + 1) = lrow row p k ++ [row (p + k)]
  | 0, p => rfl
  | k + 1, p => by
    show row p :: lrow row (p + 1) (k + 1) = row p :: lrow row (p + 1) k ++ [row (p + (k + 1))]
    rw [lrow_s (k := k) (p := p + 1), show p + 1 + k = p + (k + 1) by omega]
    rfl
theorem lrow_len : ∀ {k p : Nat}, (lrow row p k).length = k
  | 0, _ => rfl
  | k + 1, p => by
    show (lrow row (p + 1) k).length + 1 = _
    rw [lrow_len]
theorem lrow_get : ∀ {k p i : Nat}, i < k → (lrow row p k)[i]? = some (row (p + i))
  | 0, _, _, h => by omega
  | k + 1, p, 0, _ => rfl
  | k + 1, p, i + 1, h => by
    show (lrow row (p + 1) k)[i]? = _
    rw [lrow_get (by omega), show p + 1 + i = p + (i + 1) by omega]
theorem stO_eq (h : ∀ i, i < k → row' i = row i) : stO row' k = stO row k := by
  induction k with
  | zero => rfl
  | succ k ih =>
    show stO row' k ||| 2 ^ row' k = stO row k ||| 2 ^ row k
    rw [ih (fun i hi => h i (by omega)), h k (by omega)]
theorem remP_eq (h : ∀ i, i < p → row' i = row i) : remP C D N row' p = remP C D N row p := by
  induction p with
  | zero => rfl
  | succ p ih =>
    show _ ++ remP C D N row' p = _ ++ remP C D N row p
    rw [ih (fun i hi => h i (by omega)), stO_eq (k := p) (fun i hi => h i (by omega)), h p (by omega)]
    congr 2
    funext x
    rw [lrow_eq (k := p) (fun i _ h2 => h i (by omega))]
/-- what is ahead where place p stands, dives from a on -/
def gAh (C : CT) (D N : Nat) (row : Nat → Nat) (p a : Nat) : List (List Nat) := (exA C D (N - 1 - p) p (stO row p) a).map (lrow row 0 p ++ ·) ++ remP C D N row p
theorem gAh_end (h : ∀ d, a ≤ d → d < D → C p (stO row p) d = false) : gAh C D N row p a = remP C D N row p := by
  unfold gAh
  rw [exA_none h]
  rfl
theorem gAh_back : remP C D N row (p + 1) = gAh C D N row p (row p + 1) := rfl
theorem upd_lt {d : Nat} : ∀ i, i < p → updR row p d i = row i := fun i hi => if_neg (by omega)
theorem upd_at {d : Nat} : updR row p d p = d := if_pos rfl
theorem gAh_skip {d : Nat} (h1 : a ≤ d) (h2 : d < D) (h : ∀ x, a ≤ x → x ≤ d → C p (stO row p) x = false) : gAh C D N row p a = gAh C D N (updR row p d) p (d + 1) := by
  unfold gAh
  rw [exA_skip (d + 1 - a) (by omega) (fun x y1 y2 => h x y1 (by omega)), show a + (d + 1 - a) = d + 1 by omega, remP_eq upd_lt, stO_eq upd_lt]
  congr 2
  funext x
  rw [lrow_eq (row' := updR row p d) (row := row) (k := p) (p := 0) (fun i _ h2 => upd_lt i (by omega))]
theorem gAh_down {d : Nat} (h1 : a ≤ d) (h2 : d < D) (h : ∀ x, a ≤ x → x < d → C p (stO row p) x = false) (hc : C p (stO row p) d = true) (hp : p + 1 < N) : gAh C D N row p a = gAh C D N (updR row p d) (p + 1) 0 := by
  have e1 : exA C D (N - 1 - p) p (stO row p) a = (ext C D (N - 1 - p) (p + 1) (stO row p ||| 2 ^ d)).map (List.cons d) ++ exA C D (N - 1 - p) p (stO row p) (d + 1) := by
    rw [exA_skip (d - a) (by omega) (fun x y1 y2 => h x y1 (by omega)), show a + (d - a) = d by omega, exA_s h2]
    unfold blk
    rw [if_pos hc]
  have e2 : stO (updR row p d) (p + 1) = stO row p ||| 2 ^ d := by
    show stO (updR row p d) p ||| 2 ^ updR row p d p = _
    rw [stO_eq upd_lt, upd_at]
  have e3 : lrow (updR row p d) 0 p = lrow row 0 p := lrow_eq (fun i _ h2 => upd_lt i (by omega))
  have e4 : lrow (updR row p d) 0 (p + 1) = lrow row 0 p ++ [d] := by
    rw [lrow_s, e3, Nat.zero_add, upd_at]
  unfold gAh
  rw [e1, exA_0, show N - 1 - (p + 1) + 1 = N - 1 - p by omega, e2, e4, List.map_append, List.map_map, List.append_assoc]
  congr 1
  · congr 1
    funext x
    show lrow row 0 p ++ (d :: x) = (lrow row 0 p ++ [d]) ++ x
    rw [List.append_assoc]
    rfl
  · show _ = (exA C D (N - 1 - p) p (stO (updR row p d) p) (updR row p d p + 1)).map (lrow (updR row p d) 0 p ++ ·) ++ remP C D N (updR row p d) p
    rw [stO_eq upd_lt, upd_at, e3, remP_eq upd_lt]
theorem gAh_hit {d : Nat} (h1 : a ≤ d) (h2 : d < D) (h : ∀ x, a ≤ x → x < d → C p (stO row p) x = false) (hc : C p (stO row p) d = true) (hp : p + 1 = N) : gAh C D N row p a = lrow (updR row p d) 0 N :: remP C D N (updR row p d) N := by
  subst hp
  have e1 : exA C D 0 p (stO row p) a = [[d]] ++ exA C D 0 p (stO row p) (d + 1) := by
    rw [exA_skip (d - a) (by omega) (fun x y1 y2 => h x y1 (by omega)), show a + (d - a) = d by omega, exA_s h2]
    unfold blk
    rw [if_pos hc]
    rfl
  have e3 : lrow (updR row p d) 0 p = lrow row 0 p := lrow_eq (fun i _ h2 => upd_lt i (by omega))
  have e4 : lrow (updR row p d) 0 (p + 1) = lrow row 0 p ++ [d] := by
    rw [lrow_s, e3, Nat.zero_add, upd_at]
  unfold gAh
  rw [show p + 1 - 1 - p = 0 by omega, e1, e4]
  show (lrow row 0 p ++ [d]) :: ((exA C D 0 p (stO row p) (d + 1)).map (lrow row 0 p ++ ·) ++ remP C D (p + 1) row p) = _
  congr 1
  show _ = (exA C D (p + 1 - 1 - p) p (stO (updR row p d) p) (updR row p d p + 1)).map (lrow (updR row p d) 0 p ++ ·) ++ remP C D (p + 1) (updR row p d) p
  rw [show p + 1 - 1 - p = 0 by omega, stO_eq upd_lt, upd_at, e3, remP_eq upd_lt]
/-- how long a search may still go on -/
def muR (D N : Nat) (row : Nat → Nat) (p a : Nat) : Nat := fb_sm (fun i => (D - row i) * 12 ^ (N - 1 - i)) p + (D + 1 - a) * 12 ^ (N - 1 - p)
theorem mu_sm (h : ∀ i, i < p → row' i = row i) : fb_sm (fun i => (D - row' i) * 12 ^ (N - 1 - i)) p = fb_sm (fun i => (D - row i) * 12 ^ (N - 1 - i)) p := fb_sm_cong (fun i hi => by rw [h i hi])
theorem mu_back (h : a ≤ D) (hr : row p < D) (hp : p + 1 < N) : muR D N row p (row p + 1) < muR D N row (p + 1) a := by
  unfold muR
  rw [fb_sm_succ, show D + 1 - (row p + 1) = D - row p by omega]
  have : 0 < 12 ^ (N - 1 - (p + 1)) := Nat.pow_pos (by decide)
  have : 1 * 12 ^ (N - 1 - (p + 1)) ≤ (D + 1 - a) * 12 ^ (N - 1 - (p + 1)) := Nat.mul_le_mul_right _ (by omega)
  omega
theorem mu_skip {d : Nat} (h : a ≤ d) (hd : d < D) : muR D N (updR row p d) p (d + 1) < muR D N row p a := by
  unfold muR
  rw [mu_sm (row := row) upd_lt]
  have : 0 < 12 ^ (N - 1 - p) := Nat.pow_pos (by decide)
  have : (D + 1 - (d + 1) + 1) * 12 ^ (N - 1 - p) ≤ (D + 1 - a) * 12 ^ (N - 1 - p) := Nat.mul_le_mul_right _ (by omega)
  rw [Nat.add_mul] at this
  omega
theorem mu_down {d : Nat} (h : a ≤ d) (hd : d < D) (hD : D ≤ 10) (hp : p + 1 < N) : muR D N (updR row p d) (p + 1) 0 < muR D N row p a := by
  unfold muR
  rw [fb_sm_succ, mu_sm (row := row) upd_lt, upd_at]
  have e : 12 ^ (N - 1 - p) = 12 * 12 ^ (N - 1 - (p + 1)) := by
    rw [show N - 1 - p = (N - 1 - (p + 1)) + 1 by omega, Nat.pow_succ, Nat.mul_comm]
  have h0 : 0 < 12 ^ (N - 1 - (p + 1)) := Nat.pow_pos (by decide)
  have h1 : (D - d + 1) * 12 ^ (N - 1 - p) ≤ (D + 1 - a) * 12 ^ (N - 1 - p) := Nat.mul_le_mul_right _ (by omega)
  rw [Nat.add_mul, Nat.one_mul] at h1
  have h2 : (D + 1 - 0) * 12 ^ (N - 1 - (p + 1)) ≤ 11 * 12 ^ (N - 1 - (p + 1)) := Nat.mul_le_mul_right _ (by omega)
  omega
end EX
