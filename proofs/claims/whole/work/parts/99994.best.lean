/-! the first best row: the pure picture -/
/-- the first best of a list, by strict steps -/
def bB (w : List Nat → Int) : List (List Nat) → Int → List Nat → Int × List Nat
  | [], b, r => (b, r)
  | x :: X, b, r => if b < w x then bB w X (w x) x else bB w X b r
def mx (w : List Nat → Int) (X : List (List Nat)) : Int := (bB w X (-1) []).1
def ar (w : List Nat → Int) (X : List (List Nat)) : List Nat := (bB w X (-1) []).2
section BB
variable {w w' : List Nat → Int}
theorem bB_ch : ∀ {X : List (List Nat)} {b : Int} {r : List Nat}, (∀ x, x ∈ X → 0 ≤ w x) → -1 ≤ b → bB w X b r = if b < mx w X then (mx w X, ar w X) else (b, r)
  | [], b, r, _, hb => by
    show (b, r) = if b < -1 then _ else (b, r)
    rw [if_neg (by omega)]
  | x :: X, b, r, h, hb => by
    have h0 := h x (List.mem_cons_self ..)
    have hX : ∀ y, y ∈ X → 0 ≤ w y := fun y hy => h y (List.mem_cons_of_mem _ hy)
    have e : bB w (x :: X) (-1) [] = if w x < mx w X then (mx w X, ar w X) else (w x, x) := by
      show (if -1 < w x then bB w X (w x) x else bB w X (-1) []) = _
      rw [if_pos (by omega)]
      exact bB_ch hX (by omega)
    have e1 : mx w (x :: X) = if w x < mx w X then mx w X else w x := by
      unfold mx
      rw [e]
      split
      · next q => rw [if_pos (show w x < (bB w X (-1) []).1 from q)]; rfl
      · next q => rw [if_neg (show ¬ w x < (bB w X (-1) []).1 from q)]
    have e2 : ar w (x :: X) = if w x < mx w X then ar w X else x := by
      unfold ar
      rw [e]
      split
      · next q => rfl
      · next q => rfl
    show (if b < w x then bB w X (w x) x else bB w X b r) = _
    rw [e1, e2]
    by_cases q : b < w x
    · rw [if_pos q, bB_ch hX (by omega)]
      by_cases q2 : w x < mx w X
      · rw [if_pos q2, if_pos q2, if_pos q2, if_pos (by omega)]
      · rw [if_neg q2, if_neg q2, if_neg q2, if_pos q]
    · rw [if_neg q, bB_ch hX hb]
      by_cases q2 : w x < mx w X
      · rw [if_pos q2, if_pos q2]
      · rw [if_neg q2, if_neg q2, if_neg (by omega), if_neg q]
theorem mx_c {x : List Nat} {X : List (List Nat)} (h : ∀ y, y ∈ x :: X → 0 ≤ w y) : mx w (x :: X) = (if w x < mx w X then mx w X else w x) ∧ ar w (x :: X) = if w x < mx w X then ar w X else x := by
  have h0 := h x (List.mem_cons_self ..)
  have e : bB w (x :: X) (-1) [] = if w x < mx w X then (mx w X, ar w X) else (w x, x) := by
    show (if -1 < w x then bB w X (w x) x else bB w X (-1) []) = _
    rw [if_pos (by omega)]
    exact bB_ch (fun y hy => h y (List.mem_cons_of_mem _ hy)) (by omega)
  refine ⟨?_, ?_⟩
  · show (bB w (x :: X) (-1) []).1 = _
    rw [e]
    split <;> rfl
  · show (bB w (x :: X) (-1) []).2 = _
    rw [e]
    split <;> rfl
theorem mx_ge {X : List (List Nat)} (h : ∀ y, y ∈ X → 0 ≤ w y) (hX : ¬ X = []) : 0 ≤ mx w X := by
  cases X with
  | nil => exact absurd rfl hX
  | cons x X =>
    rw [(mx_c h).1]
    have := h x (List.mem_cons_self ..)
    split <;> omega
theorem mx_le {X : List (List Nat)} {c : Int} (h : ∀ y, y ∈ X → 0 ≤ w y ∧ w y ≤ c) (hc : -1 ≤ c) : -1 ≤ mx w X ∧ mx w X ≤ c := by
  induction X with
  | nil => exact ⟨Int.le_refl _, hc⟩
  | cons x X ih =>
    have a := ih (fun y hy => h y (List.mem_cons_of_mem _ hy))
    have b := h x (List.mem_cons_self ..)
    rw [(mx_c (fun y hy => (h y hy).1)).1]
    split <;> omega
theorem mx_map {c : Int} {f : List Nat → List Nat} {X : List (List Nat)} (h : ∀ y, y ∈ X → 0 ≤ w' y ∧ w (f y) = c + w' y ∧ 0 ≤ w (f y)) (hX : ¬ X = []) : mx w (X.map f) = c + mx w' X ∧ ar w (X.map f) = f (ar w' X) := by
  induction X with
  | nil => exact absurd rfl hX
  | cons x X ih =>
    have hx := h x (List.mem_cons_self ..)
    have h1 : ∀ y, y ∈ (x :: X).map f → 0 ≤ w y := fun y hy => by
      obtain ⟨z, hz, rfl⟩ := List.mem_map.mp hy
      exact (h z hz).2.2
    have a := mx_c (w := w) (x := f x) (X := X.map f) h1
    have b := mx_c (w := w') (x := x) (X := X) (fun y hy => (h y hy).1)
    rw [List.map_cons, a.1, a.2, b.1, b.2]
    by_cases q : X = []
    · subst q
      have m0 : mx w' [] = -1 := rfl
      have m1 : mx w (List.map f []) = -1 := rfl
      rw [m0, m1, if_neg (by omega), if_neg (by omega), if_neg (by omega), if_neg (by omega)]
      exact ⟨hx.2.1, rfl⟩
    · have i := ih (fun y hy => h y (List.mem_cons_of_mem _ hy)) q
      rw [i.1, i.2, hx.2.1]
      by_cases q2 : w' x < mx w' X
      · rw [if_pos (by omega), if_pos q2, if_pos (by omega), if_pos q2]
        exact ⟨rfl, rfl⟩
      · rw [if_neg (by omega), if_neg q2, if_neg (by omega), if_neg q2]
        exact ⟨rfl, rfl⟩
theorem bB_app {X Y : List (List Nat)} : ∀ {b : Int} {r : List Nat}, bB w (X ++ Y) b r = bB w Y (bB w X b r).1 (bB w X b r).2 := by
  induction X with
  | nil => intro b r; rfl
  | cons x X ih =>
    intro b r
    show (if b < w x then bB w (X ++ Y) (w x) x else bB w (X ++ Y) b r) = bB w Y (if b < w x then bB w X (w x) x else bB w X b r).1 (if b < w x then bB w X (w x) x else bB w X b r).2
    split
    · exact ih
    · exact ih
end BB
theorem exF_snoc {g : Nat → List (List Nat)} : ∀ {j a : Nat}, exF g (j + 1) a = exF g j a ++ g (a + j)
  | 0, a => by
    show g a ++ [] = [] ++ g (a + 0)
    rw [List.append_nil]
    rfl
  | j + 1, a => by
    show g a ++ exF g (j + 1) (a + 1) = (g a ++ exF g j (a + 1)) ++ g (a + (j + 1))
    rw [exF_snoc (j := j) (a := a + 1), List.append_assoc, show a + 1 + j = a + (j + 1) by omega]
/-- what a row brings from place p on -/
def vl (cst : Nat → Nat → Int) : Nat → List Nat → Int
  | _, [] => 0
  | p, d :: h => cst p d + vl cst (p + 1) h
theorem vl_0 {cst : Nat → Nat → Int} (h : ∀ p d, 0 ≤ cst p d) : ∀ {l : List Nat} {p : Nat}, 0 ≤ vl cst p l
  | [], _ => Int.le_refl _
  | d :: l, p => by
    have := vl_0 h (l := l) (p := p + 1)
    have := h p d
    show 0 ≤ cst p d + vl cst (p + 1) l
    omega
/-- the most from a place on where a dive stands there -/
def cdV (C : CT) (D : Nat) (cst : Nat → Nat → Int) (k p S d : Nat) : Int := if C p S d = true ∧ ¬ mx (vl cst (p + 1)) (ext C D k (p + 1) (S ||| 2 ^ d)) = -1 then mx (vl cst (p + 1)) (ext C D k (p + 1) (S ||| 2 ^ d)) + cst p d else -1
def rM (f : Nat → Int) : Nat → Int
  | 0 => -1
  | m + 1 => max (rM f m) (f m)
section BX
variable {C : CT} {D k p S : Nat} {cst : Nat → Nat → Int}
theorem mx_nil (h : ∀ p d, 0 ≤ cst p d) {X : List (List Nat)} : mx (vl cst p) X = -1 ↔ X = [] := by
  constructor
  · intro e
    refine Classical.byContradiction (fun q => ?_)
    have := mx_ge (w := vl cst p) (fun y _ => vl_0 h) q
    omega
  · intro e
    rw [e]
    rfl
theorem blk_v (h : ∀ p d, 0 ≤ cst p d) {d : Nat} : mx (vl cst p) (blk C D k p S d) = cdV C D cst k p S d ∧ (¬ cdV C D cst k p S d = -1 → ar (vl cst p) (blk C D k p S d) = d :: ar (vl cst (p + 1)) (ext C D k (p + 1) (S ||| 2 ^ d))) := by
  unfold blk cdV
  by_cases q : C p S d = true
  · rw [if_pos q]
    by_cases q2 : ext C D k (p + 1) (S ||| 2 ^ d) = []
    · have e : mx (vl cst (p + 1)) (ext C D k (p + 1) (S ||| 2 ^ d)) = -1 := (mx_nil h).mpr q2
      rw [if_neg (fun z => z.2 e), q2]
      exact ⟨rfl, fun z => absurd rfl z⟩
    · have e := mx_map (w := vl cst p) (w' := vl cst (p + 1)) (c := cst p d) (f := List.cons d) (X := ext C D k (p + 1) (S ||| 2 ^ d)) (fun y _ => ⟨vl_0 h, rfl, vl_0 h⟩) q2
      rw [if_pos ⟨q, fun z => q2 ((mx_nil h).mp z)⟩]
      exact ⟨e.1.trans (Int.add_comm _ _), fun _ => e.2⟩
  · rw [if_neg q, if_neg (fun z => q z.1)]
    exact ⟨rfl, fun z => absurd rfl z⟩
theorem cdV_b (h : ∀ p d, 0 ≤ cst p d) {d : Nat} : -1 ≤ cdV C D cst k p S d := by
  unfold cdV
  split
  · next q =>
    have a := mx_ge (w := vl cst (p + 1)) (X := ext C D k (p + 1) (S ||| 2 ^ d)) (fun y _ => vl_0 h) (fun z => q.2 ((mx_nil h).mpr z))
    have := h p d
    omega
  · omega
/-- of all dives at a place the most, and the first that brings it -/
theorem ext_mx (h : ∀ p d, 0 ≤ cst p d) : mx (vl cst p) (ext C D (k + 1) p S) = rM (cdV C D cst k p S) D ∧ (¬ rM (cdV C D cst k p S) D = -1 → ∃ d, d < D ∧ cdV C D cst k p S d = rM (cdV C D cst k p S) D ∧ (∀ y, y < d → ¬ cdV C D cst k p S y = rM (cdV C D cst k p S) D) ∧ ar (vl cst p) (ext C D (k + 1) p S) = d :: ar (vl cst (p + 1)) (ext C D k (p + 1) (S ||| 2 ^ d))) := by
  have key : ∀ m, m ≤ D → -1 ≤ rM (cdV C D cst k p S) m ∧ (∀ y, y < m → cdV C D cst k p S y ≤ rM (cdV C D cst k p S) m) ∧ (bB (vl cst p) (exF (blk C D k p S) m 0) (-1) []).1 = rM (cdV C D cst k p S) m ∧ (¬ rM (cdV C D cst k p S) m = -1 → ∃ d, d < m ∧ cdV C D cst k p S d = rM (cdV C D cst k p S) m ∧ (∀ y, y < d → ¬ cdV C D cst k p S y = rM (cdV C D cst k p S) m) ∧ (bB (vl cst p) (exF (blk C D k p S) m 0) (-1) []).2 = d :: ar (vl cst (p + 1)) (ext C D k (p + 1) (S ||| 2 ^ d))) := by
    intro m
    induction m with
    | zero => intro _; exact ⟨Int.le_refl _, fun y hy => by omega, rfl, fun z => absurd rfl z⟩
    | succ m ih =>
      intro hm
      obtain ⟨i0, i1, i2, i3⟩ := ih (by omega)
      have e : bB (vl cst p) (exF (blk C D k p S) (m + 1) 0) (-1) [] = if rM (cdV C D cst k p S) m < cdV C D cst k p S m then (cdV C D cst k p S m, ar (vl cst p) (blk C D k p S m)) else ((bB (vl cst p) (exF (blk C D k p S) m 0) (-1) []).1, (bB (vl cst p) (exF (blk C D k p S) m 0) (-1) []).2) := by
        rw [exF_snoc, bB_app, Nat.zero_add, bB_ch (fun y _ => vl_0 h) (by rw [i2]; exact i0), (blk_v h).1, i2]
      have er : rM (cdV C D cst k p S) (m + 1) = max (rM (cdV C D cst k p S) m) (cdV C D cst k p S m) := rfl
      by_cases q : rM (cdV C D cst k p S) m < cdV C D cst k p S m
      · rw [if_pos q] at e
        have em : rM (cdV C D cst k p S) (m + 1) = cdV C D cst k p S m := by rw [er]; omega
        rw [em, e]
        refine ⟨by omega, fun y hy => ?_, rfl, fun z => ⟨m, by omega, rfl, fun y hy w => ?_, (blk_v h).2 z⟩⟩
        · by_cases w : y = m
          · rw [w]
            exact Int.le_refl _
          · have := i1 y (by omega)
            omega
        · have := i1 y hy
          omega
      · rw [if_neg q] at e
        have em : rM (cdV C D cst k p S) (m + 1) = rM (cdV C D cst k p S) m := by rw [er]; omega
        rw [em, e]
        refine ⟨i0, fun y hy => ?_, i2, fun z => ?_⟩
        · by_cases w : y = m
          · rw [w]
            omega
          · exact i1 y (by omega)
        · obtain ⟨d, d1, d2, d3, d4⟩ := i3 z
          exact ⟨d, by omega, d2, d3, d4⟩
  obtain ⟨-, -, a, b⟩ := key D (Nat.le_refl _)
  exact ⟨a, b⟩
theorem rM_b {f : Nat → Int} {c : Int} (hc : -1 ≤ c) : ∀ {m : Nat}, (∀ i, i < m → -1 ≤ f i ∧ f i ≤ c) → -1 ≤ rM f m ∧ rM f m ≤ c
  | 0, _ => ⟨Int.le_refl _, hc⟩
  | m + 1, h => by
    have a := rM_b hc (m := m) (fun i hi => h i (by omega))
    have b := h m (by omega)
    show -1 ≤ max (rM f m) (f m) ∧ max (rM f m) (f m) ≤ c
    omega
end BX
