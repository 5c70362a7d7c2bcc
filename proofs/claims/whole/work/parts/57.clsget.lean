/-! the class's state as the pure picture has it, and its small questions -/
/-- what stands outside: 0 ahead of the first MEET, then -1 -/
def oZ (t : q_T) : Int := if t 0 0 = 0 then 0 else -1
theorem oZ_1 {t : q_T} (h : 0 < t 0 0) : oZ t = -1 := if_neg (by omega)
def pS (t : q_T) (n : sN) (s : Nat) : Int := if n (576 + s) = 1 then ptE t n (s / 6) (s % 6) (t 1 0) (-1) else oZ t
def bS (t : q_T) (n : sN) (e : Nat) : Int := if e < t 8 0 then n (618 + e) - 1 else 0
def gS (t : q_T) (n : sN) (e : Nat) : Nat := if e < t 8 0 then gvN t n e else 0
def tS (t : q_T) (n : sN) (e : Nat) : Int := if e < t 8 0 then toE t n e (t 1 0) (-1) else 0
def lS (t : q_T) (n : sN) (s : Nat) : Int := if s / 6 < t 8 0 ∧ s % 6 < t 0 0 then n s else oZ t
/-- who is at the board: none -1 -/
def brd (t : q_T) (n : sN) : Int := if t 0 0 = 0 ∨ n 633 = 1 then -1 else n (624 + (n 632).toNat)
/-- the class's queue qu against the reference's order, for those of p -/
def qRl (t : q_T) (n : sN) (p : Nat → Bool) (qu : Nat → Nat) : Prop := (∀ e, e < t 8 0 → p e = true → ∃ i, i < t 8 0 ∧ qu i = e) ∧ (∀ i j, i < t 8 0 → j < t 8 0 → qu i = qu j → i = j) ∧ ∀ i j a b : Nat, i < t 8 0 → j < t 8 0 → (a : Int) < n 630 → (b : Int) < n 630 → n (624 + a) = qu i → n (624 + b) = qu j → p (qu i) = true → p (qu j) = true → (i < j ↔ a < b)
/-- the queue and the turn of a State at cell c -/
def g_Q (c : Nat) (M : q_M) (t : q_T) (n : sN) : Prop := isB t n → ∃ (T : Nat) (qu : Nat → Nat), T < t 8 0 ∧ M.1 c 8 = nI T ∧ (∀ i, i < 6 → i < t 8 0 → M.1 (c + 5) i = nI (qu i) ∧ qu i < t 8 0) ∧ n (624 + (n 632).toNat) = qu T ∧ qRl t n (inE n) qu
/-- a State at cell c -/
def g_S (c : Nat) (M : q_M) (t : q_T) (n : sN) : Prop := (∀ s, s < 36 → M.1 (c + 1) s = Int32.ofInt (lS t n s)) ∧ (∀ s, s < 36 → (M.1 (c + 2) (16 * s) = Int32.ofInt (pS t n s) ∧ M.1 (c + 2) (16 * s + 1) = Int32.ofInt (n (540 + s)) ∧ M.1 (c + 2) (16 * s + 2) = Int32.ofInt (n (432 + s)) ∧ M.1 (c + 2) (16 * s + 3) = Int32.ofInt (n (468 + s)) ∧ M.1 (c + 2) (16 * s + 4) = Int32.ofInt (n (504 + s))) ∧ ∀ j, j < 11 → M.1 (c + 2) (16 * s + 5 + j) = Int32.ofInt (n (36 + 11 * s + j))) ∧ (∀ e, e < 6 → M.1 (c + 3) e = Int32.ofInt (n (612 + e)) ∧ M.1 (c + 4) e = Int32.ofInt (bS t n e) ∧ M.1 (c + 6) e = nI (gS t n e) ∧ M.1 (c + 7) e = Int32.ofInt (tS t n e)) ∧ M.1 c 7 = Int32.ofInt (n 631) ∧ M.1 c 9 = Int32.ofInt (brd t n) ∧ g_Q c M t n
/-- what all questions go by: both sides' rows, the class's state -/
def g_A (c : Nat) (M : q_M) (t : q_T) (n : sN) : Prop := g_R M t n ∧ r_C 6 M t ∧ g_S c M t n
/-- what the class's calls go by -/
def g_Z (c : Nat) (M : q_M) (t : q_T) (n : sN) : Prop := b_A t n ∧ r_C 6 M t ∧ g_S c M t n
section GA
variable {c : Nat} {M M' : q_M} {t : q_T} {n : sN}
theorem g_A.R (g : g_A c M t n) : g_R M t n := g.1
theorem g_A.C (g : g_A c M t n) : r_C 6 M t := g.2.1
theorem g_A.S (g : g_A c M t n) : g_S c M t n := g.2.2
theorem g_Z.R (g : g_Z c M t n) : b_A t n := g.1
theorem g_Z.C (g : g_Z c M t n) : r_C 6 M t := g.2.1
theorem g_Z.S (g : g_Z c M t n) : g_S c M t n := g.2.2
theorem g_Z.Z (g : g_Z c M t n) : g_Z c M t n := g
theorem g_A.Z (g : g_A c M t n) : g_Z c M t n := ⟨g.R.A, g.C, g.S⟩
theorem g_A.ro (g : g_A c M t n) : M.1 6 0 = nI (t 0 0) := g.C.1
theorem g_A.dr (g : g_A c M t n) : M.1 6 1 = nI (t 1 0) := g.C.2.1
theorem g_A.jN (g : g_A c M t n) : M.1 6 2 = nI (t 2 0) := g.C.2.2.1
theorem g_A.dN (g : g_A c M t n) : M.1 6 5 = nI (t 5 0) := g.C.2.2.2.1
theorem g_A.eN (g : g_A c M t n) : M.1 6 9 = nI (t 8 0) := g.C.2.2.2.2.1
theorem g_A.cN (g : g_A c M t n) : M.1 6 16 = nI (t 13 0) := g.C.2.2.2.2.2.1
theorem g_A.ju (g : g_A c M t n) {j : Nat} (h : j < t 2 0) : M.1 7 j = nI (t 3 j) ∧ M.1 8 j = nI (t 4 j) := g.C.2.2.2.2.2.2.2.1 j h
theorem g_A.di (g : g_A c M t n) {i : Nat} (h : i < t 5 0) : M.1 10 i = nI (t 6 i) ∧ M.1 11 i = nI (t 7 i) := g.C.2.2.2.2.2.2.2.2.1 i h
theorem g_A.en (g : g_A c M t n) {e : Nat} (h : e < t 8 0) : M.1 13 e = nI (t 9 e) ∧ M.1 14 e = nI (t 10 e) := g.C.2.2.2.2.2.2.2.2.2.1 e h
theorem g_A.fo (g : g_A c M t n) {e k : Nat} (h : e < t 8 0) (h' : k < 6) : M.1 16 (6 * e + k) = nI (t 12 (6 * e + k)) := g.C.2.2.2.2.2.2.2.2.2.2.1 e h k h'
theorem g_A.cu (g : g_A c M t n) {k : Nat} (h : k < t 13 0) : M.1 21 k = nI (t 14 k) ∧ M.1 22 k = nI (t 15 k) ∧ M.1 23 k = nI (t 16 k) := g.C.2.2.2.2.2.2.2.2.2.2.2 k h
theorem g_A.li (g : g_A c M t n) {e r : Nat} (he : e < t 8 0) (hr : r < t 0 0) : M.1 (c + 1) (6 * e + r) = Int32.ofInt (n (6 * e + r)) := by
  have h6 := g.R.e6
  have h7 := g.R.r6
  have h := g.S.1 (6 * e + r) (by omega)
  unfold lS at h
  rw [if_pos ⟨by omega, by omega⟩] at h
  exact h
theorem g_A.ps (g : g_A c M t n) {e r : Nat} (he : e < t 8 0) (hr : r < t 0 0) : M.1 (c + 2) (16 * (6 * e + r)) = Int32.ofInt (if n (576 + (6 * e + r)) = 1 then ptE t n e r (t 1 0) (-1) else -1) := by
  have h6 := g.R.e6
  have h7 := g.R.r6
  have h := (g.S.2.1 (6 * e + r) (by omega)).1.1
  unfold pS at h
  rw [show (6 * e + r) / 6 = e by omega, show (6 * e + r) % 6 = r by omega, oZ_1 (by omega)] at h
  exact h
theorem g_A.sl (g : g_A c M t n) {s : Nat} (h : s < 36) : M.1 (c + 2) (16 * s + 1) = Int32.ofInt (n (540 + s)) ∧ M.1 (c + 2) (16 * s + 2) = Int32.ofInt (n (432 + s)) ∧ M.1 (c + 2) (16 * s + 3) = Int32.ofInt (n (468 + s)) ∧ M.1 (c + 2) (16 * s + 4) = Int32.ofInt (n (504 + s)) := (g.S.2.1 s h).1.2
theorem g_A.mk (g : g_A c M t n) {s j : Nat} (h : s < 36) (hj : j < 11) : M.1 (c + 2) (16 * s + 5 + j) = Int32.ofInt (n (36 + 11 * s + j)) := (g.S.2.1 s h).2 j hj
theorem g_A.st (g : g_A c M t n) {e : Nat} (he : e < t 8 0) : M.1 (c + 3) e = Int32.ofInt (n (612 + e)) := (g.S.2.2.1 e (by have := g.R.e6; omega)).1
theorem g_A.ba (g : g_A c M t n) {e : Nat} (he : e < t 8 0) : M.1 (c + 4) e = Int32.ofInt (n (618 + e) - 1) := by
  have h := (g.S.2.2.1 e (by have := g.R.e6; omega)).2.1
  unfold bS at h
  rw [if_pos he] at h
  exact h
theorem g_A.gi (g : g_A c M t n) {e : Nat} (he : e < t 8 0) : M.1 (c + 6) e = nI (gvN t n e) := by
  have h := (g.S.2.2.1 e (by have := g.R.e6; omega)).2.2.1
  unfold gS at h
  rw [if_pos he] at h
  exact h
theorem g_A.to (g : g_A c M t n) {e : Nat} (he : e < t 8 0) : M.1 (c + 7) e = Int32.ofInt (toE t n e (t 1 0) (-1)) := by
  have h := (g.S.2.2.1 e (by have := g.R.e6; omega)).2.2.2
  unfold tS at h
  rw [if_pos he] at h
  exact h
theorem g_A.rn (g : g_A c M t n) : M.1 c 7 = Int32.ofInt (n 631) := g.S.2.2.2.1
theorem g_A.dv (g : g_A c M t n) : M.1 c 9 = Int32.ofInt (brd t n) := g.S.2.2.2.2.1
theorem g_A.qu (g : g_A c M t n) : g_Q c M t n := g.S.2.2.2.2.2
theorem g_Z.ro (g : g_Z c M t n) : M.1 6 0 = nI (t 0 0) := g.C.1
theorem g_Z.dr (g : g_Z c M t n) : M.1 6 1 = nI (t 1 0) := g.C.2.1
theorem g_Z.jN (g : g_Z c M t n) : M.1 6 2 = nI (t 2 0) := g.C.2.2.1
theorem g_Z.dN (g : g_Z c M t n) : M.1 6 5 = nI (t 5 0) := g.C.2.2.2.1
theorem g_Z.eN (g : g_Z c M t n) : M.1 6 9 = nI (t 8 0) := g.C.2.2.2.2.1
theorem g_Z.cN (g : g_Z c M t n) : M.1 6 16 = nI (t 13 0) := g.C.2.2.2.2.2.1
theorem g_Z.ju (g : g_Z c M t n) {j : Nat} (h : j < t 2 0) : M.1 7 j = nI (t 3 j) ∧ M.1 8 j = nI (t 4 j) := g.C.2.2.2.2.2.2.2.1 j h
theorem g_Z.di (g : g_Z c M t n) {i : Nat} (h : i < t 5 0) : M.1 10 i = nI (t 6 i) ∧ M.1 11 i = nI (t 7 i) := g.C.2.2.2.2.2.2.2.2.1 i h
theorem g_Z.en (g : g_Z c M t n) {e : Nat} (h : e < t 8 0) : M.1 13 e = nI (t 9 e) ∧ M.1 14 e = nI (t 10 e) := g.C.2.2.2.2.2.2.2.2.2.1 e h
theorem g_Z.fo (g : g_Z c M t n) {e k : Nat} (h : e < t 8 0) (h' : k < 6) : M.1 16 (6 * e + k) = nI (t 12 (6 * e + k)) := g.C.2.2.2.2.2.2.2.2.2.2.1 e h k h'
theorem g_Z.cu (g : g_Z c M t n) {k : Nat} (h : k < t 13 0) : M.1 21 k = nI (t 14 k) ∧ M.1 22 k = nI (t 15 k) ∧ M.1 23 k = nI (t 16 k) := g.C.2.2.2.2.2.2.2.2.2.2.2 k h
theorem g_Z.li (g : g_Z c M t n) {e r : Nat} (he : e < t 8 0) (hr : r < t 0 0) : M.1 (c + 1) (6 * e + r) = Int32.ofInt (n (6 * e + r)) := by
  have h6 := g.R.e6
  have h7 := g.R.r6
  have h := g.S.1 (6 * e + r) (by omega)
  unfold lS at h
  rw [if_pos ⟨by omega, by omega⟩] at h
  exact h
theorem g_Z.ps (g : g_Z c M t n) {e r : Nat} (he : e < t 8 0) (hr : r < t 0 0) : M.1 (c + 2) (16 * (6 * e + r)) = Int32.ofInt (if n (576 + (6 * e + r)) = 1 then ptE t n e r (t 1 0) (-1) else -1) := by
  have h6 := g.R.e6
  have h7 := g.R.r6
  have h := (g.S.2.1 (6 * e + r) (by omega)).1.1
  unfold pS at h
  rw [show (6 * e + r) / 6 = e by omega, show (6 * e + r) % 6 = r by omega, oZ_1 (by omega)] at h
  exact h
theorem g_Z.sl (g : g_Z c M t n) {s : Nat} (h : s < 36) : M.1 (c + 2) (16 * s + 1) = Int32.ofInt (n (540 + s)) ∧ M.1 (c + 2) (16 * s + 2) = Int32.ofInt (n (432 + s)) ∧ M.1 (c + 2) (16 * s + 3) = Int32.ofInt (n (468 + s)) ∧ M.1 (c + 2) (16 * s + 4) = Int32.ofInt (n (504 + s)) := (g.S.2.1 s h).1.2
theorem g_Z.mk (g : g_Z c M t n) {s j : Nat} (h : s < 36) (hj : j < 11) : M.1 (c + 2) (16 * s + 5 + j) = Int32.ofInt (n (36 + 11 * s + j)) := (g.S.2.1 s h).2 j hj
theorem g_Z.st (g : g_Z c M t n) {e : Nat} (he : e < t 8 0) : M.1 (c + 3) e = Int32.ofInt (n (612 + e)) := (g.S.2.2.1 e (by have := g.R.e6; omega)).1
theorem g_Z.ba (g : g_Z c M t n) {e : Nat} (he : e < t 8 0) : M.1 (c + 4) e = Int32.ofInt (n (618 + e) - 1) := by
  have h := (g.S.2.2.1 e (by have := g.R.e6; omega)).2.1
  unfold bS at h
  rw [if_pos he] at h
  exact h
theorem g_Z.gi (g : g_Z c M t n) {e : Nat} (he : e < t 8 0) : M.1 (c + 6) e = nI (gvN t n e) := by
  have h := (g.S.2.2.1 e (by have := g.R.e6; omega)).2.2.1
  unfold gS at h
  rw [if_pos he] at h
  exact h
theorem g_Z.to (g : g_Z c M t n) {e : Nat} (he : e < t 8 0) : M.1 (c + 7) e = Int32.ofInt (toE t n e (t 1 0) (-1)) := by
  have h := (g.S.2.2.1 e (by have := g.R.e6; omega)).2.2.2
  unfold tS at h
  rw [if_pos he] at h
  exact h
theorem g_Z.rn (g : g_Z c M t n) : M.1 c 7 = Int32.ofInt (n 631) := g.S.2.2.2.1
theorem g_Z.dv (g : g_Z c M t n) : M.1 c 9 = Int32.ofInt (brd t n) := g.S.2.2.2.2.1
theorem g_Z.qu (g : g_Z c M t n) : g_Q c M t n := g.S.2.2.2.2.2
end GA
def g_AF (l : List Nat) (f : List (Nat × Nat)) (c : Nat) : Bool := !(q_has1 6 l) && !(q_has1 7 l) && !(q_has1 8 l)
theorem g_S.eq {c : Nat} {M M' : q_M} {t : q_T} {n : sN} (h : g_S c M t n) (e0 : M'.1 c = M.1 c) (e1 : M'.1 (c + 1) = M.1 (c + 1)) (e2 : M'.1 (c + 2) = M.1 (c + 2)) (e3 : M'.1 (c + 3) = M.1 (c + 3)) (e4 : M'.1 (c + 4) = M.1 (c + 4)) (e5 : M'.1 (c + 5) = M.1 (c + 5)) (e6 : M'.1 (c + 6) = M.1 (c + 6)) (e7 : M'.1 (c + 7) = M.1 (c + 7)) : g_S c M' t n := by
  unfold g_S g_Q at h ⊢
  rw [e0, e1, e2, e3, e4, e5, e6, e7]
  exact h
theorem r_C.eq {M M' : q_M} {t : q_T} (h : r_C 6 M t) (hc : ∀ k, k < 18 → M'.1 (6 + k) = M.1 (6 + k)) : r_C 6 M' t := by
  unfold r_C at h ⊢
  rw [show M'.1 6 = M.1 6 from hc 0 (by omega), hc 11 (by omega), hc 1 (by omega), hc 2 (by omega), hc 4 (by omega), hc 5 (by omega), hc 7 (by omega), hc 8 (by omega), hc 10 (by omega), hc 15 (by omega), hc 16 (by omega), hc 17 (by omega)]
  exact h
/-- the cells of a State, those of the Meet, the reference's two rows stand outside -/
def g_o (l : List Nat) (f : List (Nat × Nat)) (c : Nat) : Prop := (∀ k, k < 18 → ∀ i, q_scr l f (6 + k) i = false) ∧ (∀ k, k < 8 → ∀ i, q_scr l f (c + k) i = false) ∧ (∀ i, q_scr l f 280 i = false) ∧ ∀ i, q_scr l f 284 i = false
theorem g_A.fs {l : List Nat} {f : List (Nat × Nat)} {c : Nat} {M M' : q_M} {t : q_T} {n : sN} (g : g_A c M t n) (h : q_fs l f M M') (o : g_o l f c) : g_A c M' t n := by
  refine ⟨g.R.fs h o.2.2.1 o.2.2.2, g.C.eq (fun k hk => h.c1 (6 + k) (o.1 k hk)), g.S.eq (h.c1 c (o.2.1 0 (by omega))) (h.c1 _ (o.2.1 1 (by omega))) (h.c1 _ (o.2.1 2 (by omega))) (h.c1 _ (o.2.1 3 (by omega))) (h.c1 _ (o.2.1 4 (by omega))) (h.c1 _ (o.2.1 5 (by omega))) (h.c1 _ (o.2.1 6 (by omega))) (h.c1 _ (o.2.1 7 (by omega)))⟩
theorem g_Z.fs {l : List Nat} {f : List (Nat × Nat)} {c : Nat} {M M' : q_M} {t : q_T} {n : sN} (g : g_Z c M t n) (h : q_fs l f M M') (o : g_o l f c) : g_Z c M' t n := by
  refine ⟨g.R, g.C.eq (fun k hk => h.c1 (6 + k) (o.1 k hk)), g.S.eq (h.c1 c (o.2.1 0 (by omega))) (h.c1 _ (o.2.1 1 (by omega))) (h.c1 _ (o.2.1 2 (by omega))) (h.c1 _ (o.2.1 3 (by omega))) (h.c1 _ (o.2.1 4 (by omega))) (h.c1 _ (o.2.1 5 (by omega))) (h.c1 _ (o.2.1 6 (by omega))) (h.c1 _ (o.2.1 7 (by omega)))⟩
section CG
variable {L : Nat} {xs : Nat → Int32} {E : q_E} {d : Nat} {M : q_M} {t : q_T} {n : sN} {Q : Option Value → q_M → Prop} {P : q_M → Prop}
set_option maxRecDepth 100000 in
set_option maxHeartbeats 4000000 in
theorem k2_cellOf {a b : Int32} (e r : Nat) (hQ : Q (some (.int (nI (6 * e + r)))) M) (ha : a = nI e := by (first | assumption | (simp only [z_nat, z_lit, ← Int32.ofInt_add, ← Int32.ofInt_sub, ← Int32.ofInt_mul]; exact congrArg Int32.ofInt (by omega)) | (simp only [z_nat, z_lit, ← Int32.ofInt_add, ← Int32.ofInt_sub, ← Int32.ofInt_mul]; done) | exact congrArg Int32.ofInt (by omega) | rfl)) (hb : b = nI (r + 1) := by (first | assumption | (simp only [z_nat, z_lit, ← Int32.ofInt_add, ← Int32.ofInt_sub, ← Int32.ofInt_mul]; exact congrArg Int32.ofInt (by omega)) | (simp only [z_nat, z_lit, ← Int32.ofInt_add, ← Int32.ofInt_sub, ← Int32.ofInt_mul]; done) | exact congrArg Int32.ofInt (by omega) | rfl)) : q_C q_mt (L, xs, q_shp) E nX11_cellOf (d) 0 0 [.int (a), .int (b)] M Q := by
  subst ha hb
  refine w_in 90 [] ?_
  exact ⟨_, by (first | assumption | (simp only [z_nat, z_lit, ← Int32.ofInt_add, ← Int32.ofInt_sub, ← Int32.ofInt_mul]; exact congrArg Int32.ofInt (by omega)) | (simp only [z_nat, z_lit, ← Int32.ofInt_add, ← Int32.ofInt_sub, ← Int32.ofInt_mul]; done) | exact congrArg Int32.ofInt (by omega) | rfl), hQ⟩
set_option maxRecDepth 100000 in
set_option maxHeartbeats 4000000 in
theorem k2_slotOf {a b : Int32} (e r : Nat) (hQ : Q (some (.int (nI (16 * (6 * e + r))))) M) (ha : a = nI e := by (first | assumption | (simp only [z_nat, z_lit, ← Int32.ofInt_add, ← Int32.ofInt_sub, ← Int32.ofInt_mul]; exact congrArg Int32.ofInt (by omega)) | (simp only [z_nat, z_lit, ← Int32.ofInt_add, ← Int32.ofInt_sub, ← Int32.ofInt_mul]; done) | exact congrArg Int32.ofInt (by omega) | rfl)) (hb : b = nI (r + 1) := by (first | assumption | (simp only [z_nat, z_lit, ← Int32.ofInt_add, ← Int32.ofInt_sub, ← Int32.ofInt_mul]; exact congrArg Int32.ofInt (by omega)) | (simp only [z_nat, z_lit, ← Int32.ofInt_add, ← Int32.ofInt_sub, ← Int32.ofInt_mul]; done) | exact congrArg Int32.ofInt (by omega) | rfl)) : q_C q_mt (L, xs, q_shp) E nX8_slotOf (d) 0 0 [.int (a), .int (b)] M Q := by
  subst ha hb
  refine w_in 90 [] ?_
  exact ⟨_, by (first | assumption | (simp only [z_nat, z_lit, ← Int32.ofInt_add, ← Int32.ofInt_sub, ← Int32.ofInt_mul]; exact congrArg Int32.ofInt (by omega)) | (simp only [z_nat, z_lit, ← Int32.ofInt_add, ← Int32.ofInt_sub, ← Int32.ofInt_mul]; done) | exact congrArg Int32.ofInt (by omega) | rfl), hQ⟩
set_option maxRecDepth 100000 in
set_option maxHeartbeats 4000000 in
theorem k2_isOnPanel {c : Nat} (g : g_Z c M t n) {a b : Int32} (j e : Nat) (hj : j < t 2 0) (he : e < t 8 0) (h1 : onP t j e = true → Q (some (.int 1)) M) (h0 : onP t j e = false → Q (some (.int 0)) M) (ha : a = nI j := by (first | assumption | (simp only [z_nat, z_lit, ← Int32.ofInt_add, ← Int32.ofInt_sub, ← Int32.ofInt_mul]; exact congrArg Int32.ofInt (by omega)) | (simp only [z_nat, z_lit, ← Int32.ofInt_add, ← Int32.ofInt_sub, ← Int32.ofInt_mul]; done) | exact congrArg Int32.ofInt (by omega) | rfl)) (hb : b = nI e := by (first | assumption | (simp only [z_nat, z_lit, ← Int32.ofInt_add, ← Int32.ofInt_sub, ← Int32.ofInt_mul]; exact congrArg Int32.ofInt (by omega)) | (simp only [z_nat, z_lit, ← Int32.ofInt_add, ← Int32.ofInt_sub, ← Int32.ofInt_mul]; done) | exact congrArg Int32.ofInt (by omega) | rfl)) : q_C q_mt (L, xs, q_shp) E nX2_isOnPanel (d) 0 0 [.ref 6, .int (a), .int (b)] M Q := by
  subst ha hb
  have h11 := g.R.j11
  have h6 := g.R.e6
  have h4 := g.R.bj hj
  have h5 := g.R.be he
  unfold onP at h1 h0
  refine w_in 90 [] ?_
  refine ⟨j, nI (t 4 j), by (first | assumption | (simp only [z_nat, z_lit, ← Int32.ofInt_add, ← Int32.ofInt_sub, ← Int32.ofInt_mul]; exact congrArg Int32.ofInt (by omega)) | (simp only [z_nat, z_lit, ← Int32.ofInt_add, ← Int32.ofInt_sub, ← Int32.ofInt_mul]; done) | exact congrArg Int32.ofInt (by omega) | rfl), by (dsimp only; omega), (g.ju hj).2, ?_⟩
  refine z_eq (t 4 j) 0 (fun h => ?_) (fun h => ?_)
  · refine ⟨e, nI (t 9 e), by (first | assumption | (simp only [z_nat, z_lit, ← Int32.ofInt_add, ← Int32.ofInt_sub, ← Int32.ofInt_mul]; exact congrArg Int32.ofInt (by omega)) | (simp only [z_nat, z_lit, ← Int32.ofInt_add, ← Int32.ofInt_sub, ← Int32.ofInt_mul]; done) | exact congrArg Int32.ofInt (by omega) | rfl), by (dsimp only; omega), (g.en he).1, ?_⟩
    refine z_ne (t 9 e) 1 (fun h2 => ?_) (fun h2 => ?_)
    · refine bn_f (by decide) ⟨z_1, h1 ?_⟩
      rw [decide_eq_false (by omega), decide_eq_false (by omega)]; rfl
    · refine bn_t (by decide) ⟨z_0, h0 ?_⟩
      rw [decide_eq_false (by omega), decide_eq_true (by omega)]; rfl
  · refine ⟨e, nI (t 9 e), by (first | assumption | (simp only [z_nat, z_lit, ← Int32.ofInt_add, ← Int32.ofInt_sub, ← Int32.ofInt_mul]; exact congrArg Int32.ofInt (by omega)) | (simp only [z_nat, z_lit, ← Int32.ofInt_add, ← Int32.ofInt_sub, ← Int32.ofInt_mul]; done) | exact congrArg Int32.ofInt (by omega) | rfl), by (dsimp only; omega), (g.en he).1, ?_⟩
    refine z_ne (t 9 e) 1 (fun h2 => ?_) (fun h2 => ?_)
    · refine bn_t (by decide) ⟨z_0, h0 ?_⟩
      rw [decide_eq_true (by omega), decide_eq_false (by omega)]; rfl
    · refine bn_f (by decide) ⟨z_1, h1 ?_⟩
      rw [decide_eq_true (by omega), decide_eq_true (by omega)]; rfl
set_option maxRecDepth 100000 in
set_option maxHeartbeats 4000000 in
theorem k2_countPanel {c : Nat} (g : g_Z c M t n) {a : Int32} (e : Nat) (he : e < t 8 0) (hQ : Q (some (.int (nI (pnN t e)))) M) (ha : a = nI e := by (first | assumption | (simp only [z_nat, z_lit, ← Int32.ofInt_add, ← Int32.ofInt_sub, ← Int32.ofInt_mul]; exact congrArg Int32.ofInt (by omega)) | (simp only [z_nat, z_lit, ← Int32.ofInt_add, ← Int32.ofInt_sub, ← Int32.ofInt_mul]; done) | exact congrArg Int32.ofInt (by omega) | rfl)) : q_C q_mt (L, xs, q_shp) E nX2_countPanel (d + 1) 0 0 [.ref 6, .int (a)] M Q := by
  subst ha
  have h11 := g.R.j11
  have W := lp_up (W := fun k => ∀ u v, u = nI (fb_ct (fun j => onP t j e) k) → v = nI k → q_G q_mt (L, xs, q_shp) E nX2_countPanel (d + 1) 0 0 (q_Q (L, xs, q_shp) E Q) 4 [some (.ref 6), some (.int (nI e)), some (.int (u)), some (.int (v))] [] M) (t 2 0) ?_ ?_ 0 (Nat.zero_le _)
  · refine w_in 90 [4] ?_
    exact W _ _ rfl rfl
  · rintro u v rfl rfl
    refine w_at 90 [4] ?_
    refine ⟨nI (t 2 0), g.jN, ?_⟩
    exact z_le (t 2 0) (t 2 0) (fun h => ⟨_, rfl, hQ⟩) (fun h => by omega)
  · rintro k hk ih u v rfl rfl
    have hc := fb_ct_le (fun j => onP t j e) k
    refine w_at 90 [4] ?_
    refine ⟨nI (t 2 0), g.jN, ?_⟩
    refine z_le (t 2 0) k (fun h => by omega) (fun h => ?_)
    refine k2_isOnPanel g.Z k e hk he (fun h1 => br_f (by decide) ?_) (fun h1 => br_t (by decide) ?_)
    · exact ih _ _ (by rw [ct_t (p := fun j => onP t j e) h1]; (first | assumption | (simp only [z_nat, z_lit, ← Int32.ofInt_add, ← Int32.ofInt_sub, ← Int32.ofInt_mul]; exact congrArg Int32.ofInt (by omega)) | (simp only [z_nat, z_lit, ← Int32.ofInt_add, ← Int32.ofInt_sub, ← Int32.ofInt_mul]; done) | exact congrArg Int32.ofInt (by omega) | rfl)) (by (first | assumption | (simp only [z_nat, z_lit, ← Int32.ofInt_add, ← Int32.ofInt_sub, ← Int32.ofInt_mul]; exact congrArg Int32.ofInt (by omega)) | (simp only [z_nat, z_lit, ← Int32.ofInt_add, ← Int32.ofInt_sub, ← Int32.ofInt_mul]; done) | exact congrArg Int32.ofInt (by omega) | rfl))
    · exact ih _ _ (by rw [ct_f (p := fun j => onP t j e) h1]) (by (first | assumption | (simp only [z_nat, z_lit, ← Int32.ofInt_add, ← Int32.ofInt_sub, ← Int32.ofInt_mul]; exact congrArg Int32.ofInt (by omega)) | (simp only [z_nat, z_lit, ← Int32.ofInt_add, ← Int32.ofInt_sub, ← Int32.ofInt_mul]; done) | exact congrArg Int32.ofInt (by omega) | rfl))
/-- how many judges are of a sort -/
def soN (t : q_T) (s : Nat) : Nat := fb_ct (fun j => decide (t 4 j = s)) (t 2 0)
set_option maxRecDepth 100000 in
set_option maxHeartbeats 4000000 in
theorem k2_countSort {c : Nat} (g : g_Z c M t n) {a : Int32} (s : Nat) (hs : s ≤ 3) (hQ : Q (some (.int (nI (soN t s)))) M) (ha : a = nI s := by (first | assumption | (simp only [z_nat, z_lit, ← Int32.ofInt_add, ← Int32.ofInt_sub, ← Int32.ofInt_mul]; exact congrArg Int32.ofInt (by omega)) | (simp only [z_nat, z_lit, ← Int32.ofInt_add, ← Int32.ofInt_sub, ← Int32.ofInt_mul]; done) | exact congrArg Int32.ofInt (by omega) | rfl)) : q_C q_mt (L, xs, q_shp) E nX2_countSort (d) 0 0 [.ref 6, .int (a)] M Q := by
  subst ha
  have h11 := g.R.j11
  have W := lp_up (W := fun k => ∀ u v, u = nI (fb_ct (fun j => decide (t 4 j = s)) k) → v = nI k → q_G q_mt (L, xs, q_shp) E nX2_countSort (d) 0 0 (q_Q (L, xs, q_shp) E Q) 4 [some (.ref 6), some (.int (nI s)), some (.int (u)), some (.int (v))] [] M) (t 2 0) ?_ ?_ 0 (Nat.zero_le _)
  · refine w_in 90 [4] ?_
    exact W _ _ rfl rfl
  · rintro u v rfl rfl
    refine w_at 90 [4] ?_
    refine ⟨nI (t 2 0), g.jN, ?_⟩
    exact z_le (t 2 0) (t 2 0) (fun h => ⟨_, rfl, hQ⟩) (fun h => by omega)
  · rintro k hk ih u v rfl rfl
    have hc := fb_ct_le (fun j => decide (t 4 j = s)) k
    have h4 := g.R.bj hk
    refine w_at 90 [4] ?_
    refine ⟨nI (t 2 0), g.jN, ?_⟩
    refine z_le (t 2 0) k (fun h => by omega) (fun h => ?_)
    refine ⟨k, nI (t 4 k), by (first | assumption | (simp only [z_nat, z_lit, ← Int32.ofInt_add, ← Int32.ofInt_sub, ← Int32.ofInt_mul]; exact congrArg Int32.ofInt (by omega)) | (simp only [z_nat, z_lit, ← Int32.ofInt_add, ← Int32.ofInt_sub, ← Int32.ofInt_mul]; done) | exact congrArg Int32.ofInt (by omega) | rfl), by (dsimp only; omega), (g.ju hk).2, ?_⟩
    refine z_ne (t 4 k) s (fun h1 => ?_) (fun h1 => ?_)
    · exact ih _ _ (by rw [ct_f (p := fun j => decide (t 4 j = s)) (decide_eq_false (by omega))]) (by (first | assumption | (simp only [z_nat, z_lit, ← Int32.ofInt_add, ← Int32.ofInt_sub, ← Int32.ofInt_mul]; exact congrArg Int32.ofInt (by omega)) | (simp only [z_nat, z_lit, ← Int32.ofInt_add, ← Int32.ofInt_sub, ← Int32.ofInt_mul]; done) | exact congrArg Int32.ofInt (by omega) | rfl))
    · exact ih _ _ (by rw [ct_t (p := fun j => decide (t 4 j = s)) (decide_eq_true (by omega))]; (first | assumption | (simp only [z_nat, z_lit, ← Int32.ofInt_add, ← Int32.ofInt_sub, ← Int32.ofInt_mul]; exact congrArg Int32.ofInt (by omega)) | (simp only [z_nat, z_lit, ← Int32.ofInt_add, ← Int32.ofInt_sub, ← Int32.ofInt_mul]; done) | exact congrArg Int32.ofInt (by omega) | rfl)) (by (first | assumption | (simp only [z_nat, z_lit, ← Int32.ofInt_add, ← Int32.ofInt_sub, ← Int32.ofInt_mul]; exact congrArg Int32.ofInt (by omega)) | (simp only [z_nat, z_lit, ← Int32.ofInt_add, ← Int32.ofInt_sub, ← Int32.ofInt_mul]; done) | exact congrArg Int32.ofInt (by omega) | rfl))
set_option maxRecDepth 100000 in
set_option maxHeartbeats 4000000 in
theorem k2_findCut {c : Nat} (g : g_Z c M t n) {a : Int32} (r : Int) (hr : 0 ≤ r ∧ r ≤ 6) (h1 : ∀ k, k < t 13 0 → (t 14 k : Int) = r → (∀ i, i < k → ¬ (t 14 i : Int) = r) → Q (some (.int (nI k))) M) (h0 : (∀ i, i < t 13 0 → ¬ (t 14 i : Int) = r) → Q (some (.int (Int32.ofInt (-1)))) M) (ha : a = Int32.ofInt r := by (first | assumption | (simp only [z_nat, z_lit, ← Int32.ofInt_add, ← Int32.ofInt_sub, ← Int32.ofInt_mul]; exact congrArg Int32.ofInt (by omega)) | (simp only [z_nat, z_lit, ← Int32.ofInt_add, ← Int32.ofInt_sub, ← Int32.ofInt_mul]; done) | exact congrArg Int32.ofInt (by omega) | rfl)) : q_C q_mt (L, xs, q_shp) E nX2_findCutBehind (d) 0 0 [.ref 6, .int (a)] M Q := by
  subst ha
  have h3 := g.R.c3
  have W := lp_up (W := fun k => (∀ i, i < k → ¬ (t 14 i : Int) = r) → ∀ v, v = nI k → q_G q_mt (L, xs, q_shp) E nX2_findCutBehind (d) 0 0 (q_Q (L, xs, q_shp) E Q) 2 [some (.ref 6), some (.int (Int32.ofInt r)), some (.int (v))] [] M) (t 13 0) ?_ ?_ 0 (Nat.zero_le _)
  · refine w_in 90 [2] ?_
    exact W (fun i hi => by omega) _ rfl
  · rintro hno v rfl
    refine w_at 90 [2] ?_
    refine ⟨nI (t 13 0), g.cN, ?_⟩
    exact z_le (t 13 0) (t 13 0) (fun h => ⟨_, rfl, h0 hno⟩) (fun h => by omega)
  · rintro k hk ih hno v rfl
    have hb := g.R.b2.2.1 k hk
    have h6 := g.R.r6
    refine w_at 90 [2] ?_
    refine ⟨nI (t 13 0), g.cN, ?_⟩
    refine z_le (t 13 0) k (fun h => by omega) (fun h => ?_)
    refine ⟨k, nI (t 14 k), by (first | assumption | (simp only [z_nat, z_lit, ← Int32.ofInt_add, ← Int32.ofInt_sub, ← Int32.ofInt_mul]; exact congrArg Int32.ofInt (by omega)) | (simp only [z_nat, z_lit, ← Int32.ofInt_add, ← Int32.ofInt_sub, ← Int32.ofInt_mul]; done) | exact congrArg Int32.ofInt (by omega) | rfl), by (dsimp only; omega), (g.cu hk).1, ?_⟩
    refine z_ne (t 14 k) r (fun h2 => ?_) (fun h2 => ⟨_, rfl, h1 k hk h2 hno⟩)
    refine ih (fun i hi => ?_) _ (by (first | assumption | (simp only [z_nat, z_lit, ← Int32.ofInt_add, ← Int32.ofInt_sub, ← Int32.ofInt_mul]; exact congrArg Int32.ofInt (by omega)) | (simp only [z_nat, z_lit, ← Int32.ofInt_add, ← Int32.ofInt_sub, ← Int32.ofInt_mul]; done) | exact congrArg Int32.ofInt (by omega) | rfl))
    by_cases q : i = k
    · subst q
      exact h2
    · exact hno i (by omega)
end CG
