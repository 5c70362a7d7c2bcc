/-! the pure picture: t what was told, n the row of numbers that acts change -/
/-- whether judge j is of entrant e's panel -/
def onP (t : q_T) (j e : Nat) : Bool := decide (0 < t 4 j) == decide (t 9 e = 1)
/-- where round r + 1 of entrant e lies -/
abbrev sl (e r : Nat) : Nat := 6 * e + r
/-- its marks -/
abbrev mk (n : sN) (e r j : Nat) : Int := n (36 + 11 * (6 * e + r) + j)
def inE (n : sN) (e : Nat) : Bool := decide (n (612 + e) = 0)
def gvE (n : sN) (e r : Nat) : Bool := decide (n (576 + (6 * e + r)) = 1)
def mkd (n : sN) (e r j : Nat) : Bool := !decide (mk n e r j = -1)
def b_slot (t : q_T) (n : sN) (e r : Nat) : Prop := (0 ≤ n (6 * e + r) ∧ n (6 * e + r) < t 5 0) ∧ (∀ j, j < 11 → -1 ≤ mk n e r j ∧ mk n e r j ≤ 20 ∧ (¬ mk n e r j = -1 → j < t 2 0 ∧ onP t j e = true)) ∧ (0 ≤ n (432 + (6 * e + r)) ∧ n (432 + (6 * e + r)) ≤ 20) ∧ (0 ≤ n (468 + (6 * e + r)) ∧ n (468 + (6 * e + r)) ≤ 2) ∧ (0 ≤ n (504 + (6 * e + r)) ∧ n (504 + (6 * e + r)) ≤ 3) ∧ (n (540 + (6 * e + r)) = 0 ∨ n (540 + (6 * e + r)) = 1) ∧ (n (576 + (6 * e + r)) = 0 ∨ n (576 + (6 * e + r)) = 1) ∧ (n (540 + (6 * e + r)) = 1 → ∀ j, j < 11 → mk n e r j = -1) ∧ (n (576 + (6 * e + r)) = 1 → n (540 + (6 * e + r)) = 0 → ∀ j, j < t 2 0 → onP t j e = true → ¬ mk n e r j = -1)
def b_N (t : q_T) (n : sN) : Prop := (∀ e, e < t 8 0 → ∀ r, r < t 0 0 → b_slot t n e r) ∧ (∀ e, e < t 8 0 → (0 ≤ n (612 + e) ∧ n (612 + e) ≤ 7) ∧ (1 ≤ n (618 + e) ∧ n (618 + e) ≤ t 0 0)) ∧ (∀ e, e < t 8 0 → ∀ r, r < t 0 0 → ∀ r', r' < t 0 0 → ¬ r = r' → ¬ n (6 * e + r) = n (6 * e + r'))
/-- more of what was told -/
def b_T2 (t : q_T) : Prop := (∀ e, e < t 8 0 → ∀ g, g < 6 → t 12 (6 * e + g) ≤ 20) ∧ (∀ c, c < t 13 0 → 1 ≤ t 14 c ∧ t 14 c < t 0 0 ∧ 1 ≤ t 15 c ∧ t 15 c ≤ 5 ∧ t 16 c ≤ 1) ∧ (∀ c c', c < c' → c' < t 13 0 → t 14 c < t 14 c') ∧ (0 < t 8 0 ↔ 0 < t 0 0) ∧ (∀ e, e < t 8 0 → (t 9 e = 0 → ∃ j, j < t 2 0 ∧ t 4 j = 0) ∧ (t 9 e = 1 → ∀ s, 1 ≤ s → s ≤ 3 → ∃ j, j < t 2 0 ∧ t 4 j = s))
def r_N (a o : Nat) (M : q_M) (n : sN) : Prop := ∀ k, k < 634 → M.1 a (o + k) = Int32.ofInt (n k)
/-- the pure bounds alone -/
def b_A (t : q_T) (n : sN) : Prop := (b_T t ∧ b_T2 t) ∧ b_N t n
section BA
variable {t : q_T} {n : sN}
theorem b_A.A (g : b_A t n) : b_A t n := g
theorem b_A.b (g : b_A t n) : b_T t := g.1.1
theorem b_A.b2 (g : b_A t n) : b_T2 t := g.1.2
theorem b_A.bn (g : b_A t n) : b_N t n := g.2
theorem b_A.r6 (g : b_A t n) : t 0 0 ≤ 6 := g.b.1
theorem b_A.p3 (g : b_A t n) : t 1 0 ≤ 3 := g.b.2.1
theorem b_A.j11 (g : b_A t n) : t 2 0 ≤ 11 := g.b.2.2.1
theorem b_A.d10 (g : b_A t n) : t 5 0 ≤ 10 := g.b.2.2.2.1
theorem b_A.e6 (g : b_A t n) : t 8 0 ≤ 6 := g.b.2.2.2.2.1
theorem b_A.c3 (g : b_A t n) : t 13 0 ≤ 3 := g.b.2.2.2.2.2.1
theorem b_A.l6 (g : b_A t n) : t 17 0 ≤ 6 := g.b.2.2.2.2.2.2.1
theorem b_A.bj (g : b_A t n) {j : Nat} (h : j < t 2 0) : t 3 j ≤ 7 ∧ t 4 j ≤ 3 := g.b.2.2.2.2.2.2.2.1 j h
theorem b_A.bd (g : b_A t n) {i : Nat} (h : i < t 5 0) : 1 ≤ t 6 i ∧ t 6 i ≤ 6 ∧ 10 ≤ t 7 i ∧ t 7 i ≤ 60 := g.b.2.2.2.2.2.2.2.2.1 i h
theorem b_A.be (g : b_A t n) {e : Nat} (h : e < t 8 0) : t 9 e ≤ 1 ∧ t 10 e ≤ 7 := g.b.2.2.2.2.2.2.2.2.2 e h
theorem b_A.bs (g : b_A t n) {e r : Nat} (h : e < t 8 0) (h' : r < t 0 0) : b_slot t n e r := g.bn.1 e h r h'
end BA
/-- what the reference's calls go by -/
def g_R (M : q_M) (t : q_T) (n : sN) : Prop := r_R 280 M t ∧ (b_T t ∧ b_T2 t) ∧ r_N 284 0 M n ∧ b_N t n
section GR
variable {M M' : q_M} {t : q_T} {n : sN} (g : g_R M t n)
theorem g_R.eq (g : g_R M t n) (h1 : M'.1 280 = M.1 280) (h2 : M'.1 284 = M.1 284) : g_R M' t n := by
  obtain ⟨a, b, c, e⟩ := g
  refine ⟨?_, b, ?_, e⟩
  · unfold r_R at a ⊢
    rw [h1]
    exact a
  · unfold r_N at c ⊢
    rw [h2]
    exact c
theorem g_R.A (g : g_R M t n) : b_A t n := ⟨g.2.1, g.2.2.2⟩
theorem g_R.b (g : g_R M t n) : b_T t := g.2.1.1
theorem g_R.b2 (g : g_R M t n) : b_T2 t := g.2.1.2
theorem g_R.bn (g : g_R M t n) : b_N t n := g.2.2.2
theorem g_R.at (g : g_R M t n) {k : Nat} (h : k < 634) : M.1 284 k = Int32.ofInt (n k) := by
  have h1 := g.2.2.1 k h
  rw [Nat.zero_add] at h1
  exact h1
theorem g_R.r6 (g : g_R M t n) : t 0 0 ≤ 6 := g.b.1
theorem g_R.p3 (g : g_R M t n) : t 1 0 ≤ 3 := g.b.2.1
theorem g_R.j11 (g : g_R M t n) : t 2 0 ≤ 11 := g.b.2.2.1
theorem g_R.d10 (g : g_R M t n) : t 5 0 ≤ 10 := g.b.2.2.2.1
theorem g_R.e6 (g : g_R M t n) : t 8 0 ≤ 6 := g.b.2.2.2.2.1
theorem g_R.c3 (g : g_R M t n) : t 13 0 ≤ 3 := g.b.2.2.2.2.2.1
theorem g_R.l6 (g : g_R M t n) : t 17 0 ≤ 6 := g.b.2.2.2.2.2.2.1
theorem g_R.bj (g : g_R M t n) {j : Nat} (h : j < t 2 0) : t 3 j ≤ 7 ∧ t 4 j ≤ 3 := g.b.2.2.2.2.2.2.2.1 j h
theorem g_R.bd (g : g_R M t n) {i : Nat} (h : i < t 5 0) : 1 ≤ t 6 i ∧ t 6 i ≤ 6 ∧ 10 ≤ t 7 i ∧ t 7 i ≤ 60 := g.b.2.2.2.2.2.2.2.2.1 i h
theorem g_R.be (g : g_R M t n) {e : Nat} (h : e < t 8 0) : t 9 e ≤ 1 ∧ t 10 e ≤ 7 := g.b.2.2.2.2.2.2.2.2.2 e h
theorem g_R.bs (g : g_R M t n) {e r : Nat} (h : e < t 8 0) (h' : r < t 0 0) : b_slot t n e r := g.bn.1 e h r h'
theorem g_R.R0 (g : g_R M t n) : M.1 280 0 = nI (t 0 0) := g.1.1
theorem g_R.R1 (g : g_R M t n) : M.1 280 1 = nI (t 1 0) := g.1.2.1
theorem g_R.R2 (g : g_R M t n) : M.1 280 2 = nI (t 2 0) := g.1.2.2.1
theorem g_R.R3 (g : g_R M t n) : M.1 280 3 = nI (t 5 0) := g.1.2.2.2.1
theorem g_R.R4 (g : g_R M t n) : M.1 280 4 = nI (t 8 0) := g.1.2.2.2.2.1
theorem g_R.R6 (g : g_R M t n) : M.1 280 6 = nI (t 13 0) := g.1.2.2.2.2.2.1
theorem g_R.R5 (g : g_R M t n) : M.1 280 5 = nI (t 17 0) := g.1.2.2.2.2.2.2.1
theorem g_R.ju (g : g_R M t n) {j : Nat} (h : j < t 2 0) : M.1 280 (8 + 2 * j) = nI (t 3 j) ∧ M.1 280 (9 + 2 * j) = nI (t 4 j) := g.1.2.2.2.2.2.2.2.1 j h
theorem g_R.di (g : g_R M t n) {i : Nat} (h : i < t 5 0) : M.1 280 (30 + 2 * i) = nI (t 6 i) ∧ M.1 280 (31 + 2 * i) = nI (t 7 i) := g.1.2.2.2.2.2.2.2.2.1 i h
theorem g_R.en (g : g_R M t n) {e : Nat} (h : e < t 8 0) : M.1 280 (50 + 2 * e) = nI (t 9 e) ∧ M.1 280 (51 + 2 * e) = nI (t 10 e) := g.1.2.2.2.2.2.2.2.2.2.1 e h
theorem g_R.fo (g : g_R M t n) {e k : Nat} (h : e < t 8 0) (h' : k < 6) : M.1 280 (98 + (6 * e + k)) = nI (t 12 (6 * e + k)) := g.1.2.2.2.2.2.2.2.2.2.2.1 e h k h'
theorem g_R.cu (g : g_R M t n) {c : Nat} (h : c < t 13 0) : M.1 280 (134 + 3 * c) = nI (t 14 c) ∧ M.1 280 (135 + 3 * c) = nI (t 15 c) ∧ M.1 280 (136 + 3 * c) = nI (t 16 c) := g.1.2.2.2.2.2.2.2.2.2.2.2 c h
theorem g_R.fs {l : List Nat} {f : List (Nat × Nat)} (g : g_R M t n) (h : q_fs l f M M') (h1 : ∀ i, q_scr l f 280 i = false := by intro i; exact rfl) (h2 : ∀ i, q_scr l f 284 i = false := by intro i; exact rfl) : g_R M' t n := g.eq (h.c1 280 h1) (h.c1 284 h2)
end GR
