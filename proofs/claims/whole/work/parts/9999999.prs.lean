/-! a LAW's test, read: the pure picture -/
def bd {α β : Type} (r : Rs α) (f : α → Nat → Rs β) : Rs β := match r with
  | .inl e => .inl e
  | .inr (a, i) => f a i
theorem bd_r {α β : Type} {r : Rs α} {f : α → Nat → Rs β} {y : β × Nat} (h : bd r f = .inr y) : ∃ a i, r = .inr (a, i) ∧ f a i = .inr y := by
  cases r with
  | inl e => cases h
  | inr p => exact ⟨p.1, p.2, rfl, h⟩
def addC (p : Tok) : Nat := if p = (4, 43) then 20 else if p = (4, 45) then 21 else 0
def mulC (p : Tok) : Nat := if p = (4, 42) then 22 else if p = (4, 47) then 23 else if p = (4, 37) then 24 else 0
def cmpC (p : Tok) : Nat := if p = (4, 60) then 25 else if p = (4, 62) then 26 else if p = (4, 61) then 27 else 0
def valC (p : Tok) : Nat := if p.1 = 3 then 1000 + p.2 else if p = (1, 0) then 1 else if p = (1, 21) then 2 else if p = (1, 8) then 3 else if p = (1, 9) then 4 else if p = (1, 22) then 5 else if p = (1, 23) then 6 else if p = (1, 24) then 7 else if p = (1, 11) then 8 else 0
/-- 0 a TEST, 1 its rest, 2 a BOTH, 3 its rest, 4 a FACT, 5 a SUM, 6 its rest, 7 a TERM, 8 its rest, 9 a VALUE: codes, how many values, the next token -/
def prs (tok : Nat → Tok) : Nat → Nat → Nat → Nat → Nat → Rs (List Nat × Nat)
  | 0, _, _, _, _ => .inl (1, 0)
  | f + 1, nt, i, o, v =>
    if nt = 0 then bd (prs tok f 2 i o v) (fun a j => bd (prs tok f 1 j o a.2) (fun b j => .inr ((a.1 ++ b.1, b.2), j)))
    else if nt = 1 then (if tok i = (1, 18) then bd (prs tok f 2 (i + 1) o v) (fun a j => bd (prs tok f 1 j o a.2) (fun b j => .inr ((a.1 ++ 29 :: b.1, b.2), j))) else .inr (([], v), i))
    else if nt = 2 then bd (prs tok f 4 i o v) (fun a j => bd (prs tok f 3 j o a.2) (fun b j => .inr ((a.1 ++ b.1, b.2), j)))
    else if nt = 3 then (if tok i = (1, 19) then bd (prs tok f 4 (i + 1) o v) (fun a j => bd (prs tok f 3 j o a.2) (fun b j => .inr ((a.1 ++ 28 :: b.1, b.2), j))) else .inr (([], v), i))
    else if nt = 4 then (if tok i = (1, 20) then (if 6 ≤ o then .inl (4, i) else bd (prs tok f 4 (i + 1) (o + 1) v) (fun a j => .inr ((a.1 ++ [30], a.2), j)))
      else if tok i = (4, 91) then (if 6 ≤ o then .inl (4, i) else bd (prs tok f 0 (i + 1) (o + 1) v) (fun a j => if tok j = (4, 93) then .inr (a, j + 1) else .inl (1, j)))
      else bd (prs tok f 5 i o v) (fun a j => if cmpC (tok j) = 0 then .inl (1, j) else bd (prs tok f 5 (j + 1) o a.2) (fun b j2 => .inr ((a.1 ++ (b.1 ++ [cmpC (tok j)]), b.2), j2))))
    else if nt = 5 then bd (prs tok f 7 i o v) (fun a j => bd (prs tok f 6 j o a.2) (fun b j => .inr ((a.1 ++ b.1, b.2), j)))
    else if nt = 6 then (if addC (tok i) = 0 then .inr (([], v), i) else bd (prs tok f 7 (i + 1) o v) (fun a j => bd (prs tok f 6 j o a.2) (fun b j => .inr ((a.1 ++ addC (tok i) :: b.1, b.2), j))))
    else if nt = 7 then bd (prs tok f 9 i o v) (fun a j => bd (prs tok f 8 j o a.2) (fun b j => .inr ((a.1 ++ b.1, b.2), j)))
    else if nt = 8 then (if mulC (tok i) = 0 then .inr (([], v), i) else bd (prs tok f 9 (i + 1) o v) (fun a j => bd (prs tok f 8 j o a.2) (fun b j => .inr ((a.1 ++ mulC (tok i) :: b.1, b.2), j))))
    else (if tok i = (4, 40) then (if 6 ≤ o then .inl (4, i) else bd (prs tok f 5 (i + 1) (o + 1) v) (fun a j => if tok j = (4, 41) then .inr (a, j + 1) else .inl (1, j)))
      else if valC (tok i) = 0 then .inl (1, i) else if 40 ≤ v then .inl (4, i) else .inr (([valC (tok i)], v + 1), i + 1))
section PR
variable {tok : Nat → Tok} {f i o v : Nat}
theorem prs_0 : prs tok (f + 1) 0 i o v = bd (prs tok f 2 i o v) (fun a j => bd (prs tok f 1 j o a.2) (fun b j => .inr ((a.1 ++ b.1, b.2), j))) := rfl
theorem prs_1 : prs tok (f + 1) 1 i o v = if tok i = (1, 18) then bd (prs tok f 2 (i + 1) o v) (fun a j => bd (prs tok f 1 j o a.2) (fun b j => .inr ((a.1 ++ 29 :: b.1, b.2), j))) else .inr (([], v), i) := rfl
theorem prs_2 : prs tok (f + 1) 2 i o v = bd (prs tok f 4 i o v) (fun a j => bd (prs tok f 3 j o a.2) (fun b j => .inr ((a.1 ++ b.1, b.2), j))) := rfl
theorem prs_3 : prs tok (f + 1) 3 i o v = if tok i = (1, 19) then bd (prs tok f 4 (i + 1) o v) (fun a j => bd (prs tok f 3 j o a.2) (fun b j => .inr ((a.1 ++ 28 :: b.1, b.2), j))) else .inr (([], v), i) := rfl
theorem prs_4 : prs tok (f + 1) 4 i o v = if tok i = (1, 20) then (if 6 ≤ o then .inl (4, i) else bd (prs tok f 4 (i + 1) (o + 1) v) (fun a j => .inr ((a.1 ++ [30], a.2), j)))
      else if tok i = (4, 91) then (if 6 ≤ o then .inl (4, i) else bd (prs tok f 0 (i + 1) (o + 1) v) (fun a j => if tok j = (4, 93) then .inr (a, j + 1) else .inl (1, j)))
      else bd (prs tok f 5 i o v) (fun a j => if cmpC (tok j) = 0 then .inl (1, j) else bd (prs tok f 5 (j + 1) o a.2) (fun b j2 => .inr ((a.1 ++ (b.1 ++ [cmpC (tok j)]), b.2), j2))) := rfl
theorem prs_5 : prs tok (f + 1) 5 i o v = bd (prs tok f 7 i o v) (fun a j => bd (prs tok f 6 j o a.2) (fun b j => .inr ((a.1 ++ b.1, b.2), j))) := rfl
theorem prs_6 : prs tok (f + 1) 6 i o v = if addC (tok i) = 0 then .inr (([], v), i) else bd (prs tok f 7 (i + 1) o v) (fun a j => bd (prs tok f 6 j o a.2) (fun b j => .inr ((a.1 ++ addC (tok i) :: b.1, b.2), j))) := rfl
theorem prs_7 : prs tok (f + 1) 7 i o v = bd (prs tok f 9 i o v) (fun a j => bd (prs tok f 8 j o a.2) (fun b j => .inr ((a.1 ++ b.1, b.2), j))) := rfl
theorem prs_8 : prs tok (f + 1) 8 i o v = if mulC (tok i) = 0 then .inr (([], v), i) else bd (prs tok f 9 (i + 1) o v) (fun a j => bd (prs tok f 8 j o a.2) (fun b j => .inr ((a.1 ++ mulC (tok i) :: b.1, b.2), j))) := rfl
theorem prs_9 : prs tok (f + 1) 9 i o v = if tok i = (4, 40) then (if 6 ≤ o then .inl (4, i) else bd (prs tok f 5 (i + 1) (o + 1) v) (fun a j => if tok j = (4, 41) then .inr (a, j + 1) else .inl (1, j)))
      else if valC (tok i) = 0 then .inl (1, i) else if 40 ≤ v then .inl (4, i) else .inr (([valC (tok i)], v + 1), i + 1) := rfl
/-- the stack's height behind a row of codes -/
def rn : Nat → List Nat → Option Nat
  | s, [] => some s
  | s, c :: l => if isVal c = true then (if s < 64 then rn (s + 1) l else none) else if c = 30 then (if 1 ≤ s then rn s l else none) else (if 2 ≤ s then rn (s - 1) l else none)
theorem rn_app : ∀ {a b : List Nat} {s s' : Nat}, rn s a = some s' → rn s (a ++ b) = rn s' b
  | [], b, s, s', h => by cases h; rfl
  | c :: a, b, s, s', h => by
    show (if isVal c = true then (if s < 64 then rn (s + 1) (a ++ b) else none) else if c = 30 then (if 1 ≤ s then rn s (a ++ b) else none) else (if 2 ≤ s then rn (s - 1) (a ++ b) else none)) = _
    have h : (if isVal c = true then (if s < 64 then rn (s + 1) a else none) else if c = 30 then (if 1 ≤ s then rn s a else none) else (if 2 ≤ s then rn (s - 1) a else none)) = some s' := h
    split at h
    · next q =>
      split at h
      · next q2 => rw [if_pos q, if_pos q2]; exact rn_app h
      · cases h
    · next q =>
      rw [if_neg q]
      split at h
      · next q1 =>
        split at h
        · next q2 => rw [if_pos q1, if_pos q2]; exact rn_app h
        · cases h
      · next q1 =>
        split at h
        · next q2 => rw [if_neg q1, if_pos q2]; exact rn_app h
        · cases h
/-- what is known of a row that was read -/
def pK (nt i o v : Nat) (c : List Nat) (v' j : Nat) : Prop := (v ≤ v' ∧ v' ≤ 40 ∧ i ≤ j ∧ c.length ≤ j - i) ∧ (∀ x, x ∈ c → cOK x) ∧ ((nt = 0 ∨ nt = 2 ∨ nt = 4) → i < j ∧ v + 2 ≤ v' ∧ 2 * c.length + 2 ≤ (10 - o) * (v' - v) ∧ ∀ s, s + (v' - v) ≤ 64 → rn s c = some (s + 1)) ∧ ((nt = 1 ∨ nt = 3) → 2 * c.length ≤ (10 - o) * (v' - v) ∧ ∀ s, 1 ≤ s → s + (v' - v) ≤ 64 → rn s c = some s) ∧ ((nt = 5 ∨ nt = 7 ∨ nt = 9) → i < j ∧ v + 1 ≤ v' ∧ c.length + 1 = 2 * (v' - v) ∧ ∀ s, s + (v' - v) ≤ 64 → rn s c = some (s + 1)) ∧ ((nt = 6 ∨ nt = 8) → c.length = 2 * (v' - v) ∧ ∀ s, 1 ≤ s → s + (v' - v) ≤ 64 → rn s c = some s)
theorem rn_bin {c s : Nat} {l : List Nat} (h1 : isVal c = false) (h2 : ¬ c = 30) (hs : 2 ≤ s) : rn s (c :: l) = rn (s - 1) l := by
  show (if isVal c = true then (if s < 64 then rn (s + 1) l else none) else if c = 30 then (if 1 ≤ s then rn s l else none) else (if 2 ≤ s then rn (s - 1) l else none)) = _
  rw [if_neg (by rw [h1]; decide), if_neg h2, if_pos hs]
theorem bin_v {c : Nat} (h : 20 ≤ c ∧ c ≤ 29) : isVal c = false ∧ ¬ c = 30 ∧ cOK c := by
  refine ⟨?_, by omega, Or.inr (Or.inr (by omega))⟩
  unfold isVal
  rw [decide_eq_false (by omega), decide_eq_false (by omega)]
  rfl
theorem addC_b {p : Tok} (h : ¬ addC p = 0) : 20 ≤ addC p ∧ addC p ≤ 21 ∧ p.1 = 4 := by
  unfold addC at h ⊢
  split
  · next q => rw [q]; exact ⟨by omega, by omega, rfl⟩
  · next q =>
    rw [if_neg q] at h
    split
    · next q => rw [q]; exact ⟨by omega, by omega, rfl⟩
    · next q2 => rw [if_neg q2] at h; exact absurd rfl h
theorem mulC_b {p : Tok} (h : ¬ mulC p = 0) : 22 ≤ mulC p ∧ mulC p ≤ 24 ∧ p.1 = 4 := by
  unfold mulC at h ⊢
  split
  · next q => rw [q]; exact ⟨by omega, by omega, rfl⟩
  · next q =>
    rw [if_neg q] at h
    split
    · next q => rw [q]; exact ⟨by omega, by omega, rfl⟩
    · next q2 =>
      rw [if_neg q2] at h
      split
      · next q => rw [q]; exact ⟨by omega, by omega, rfl⟩
      · next q3 => rw [if_neg q3] at h; exact absurd rfl h
theorem cmpC_b {p : Tok} (h : ¬ cmpC p = 0) : 25 ≤ cmpC p ∧ cmpC p ≤ 27 ∧ p.1 = 4 := by
  unfold cmpC at h ⊢
  split
  · next q => rw [q]; exact ⟨by omega, by omega, rfl⟩
  · next q =>
    rw [if_neg q] at h
    split
    · next q => rw [q]; exact ⟨by omega, by omega, rfl⟩
    · next q2 =>
      rw [if_neg q2] at h
      split
      · next q => rw [q]; exact ⟨by omega, by omega, rfl⟩
      · next q3 => rw [if_neg q3] at h; exact absurd rfl h
theorem valC_b {p : Tok} (hp : p.2 ≤ 9999) (h : ¬ valC p = 0) : ((1000 ≤ valC p ∧ valC p ≤ 10999 ∧ p.1 = 3 ∧ valC p = 1000 + p.2) ∨ (1 ≤ valC p ∧ valC p ≤ 8 ∧ p.1 = 1)) := by
  unfold valC at h ⊢
  by_cases q : p.1 = 3
  · rw [if_pos q]
    exact Or.inl ⟨by omega, by omega, q, rfl⟩
  · rw [if_neg q] at h ⊢
    right
    by_cases q1 : p = (1, 0)
    · rw [if_pos q1, q1]; exact ⟨by omega, by omega, rfl⟩
    rw [if_neg q1] at h ⊢
    by_cases q1 : p = (1, 21)
    · rw [if_pos q1, q1]; exact ⟨by omega, by omega, rfl⟩
    rw [if_neg q1] at h ⊢
    by_cases q1 : p = (1, 8)
    · rw [if_pos q1, q1]; exact ⟨by omega, by omega, rfl⟩
    rw [if_neg q1] at h ⊢
    by_cases q1 : p = (1, 9)
    · rw [if_pos q1, q1]; exact ⟨by omega, by omega, rfl⟩
    rw [if_neg q1] at h ⊢
    by_cases q1 : p = (1, 22)
    · rw [if_pos q1, q1]; exact ⟨by omega, by omega, rfl⟩
    rw [if_neg q1] at h ⊢
    by_cases q1 : p = (1, 23)
    · rw [if_pos q1, q1]; exact ⟨by omega, by omega, rfl⟩
    rw [if_neg q1] at h ⊢
    by_cases q1 : p = (1, 24)
    · rw [if_pos q1, q1]; exact ⟨by omega, by omega, rfl⟩
    rw [if_neg q1] at h ⊢
    by_cases q1 : p = (1, 11)
    · rw [if_pos q1, q1]; exact ⟨by omega, by omega, rfl⟩
    rw [if_neg q1] at h
    exact absurd rfl h
theorem val_v {c : Nat} (h : (1000 ≤ c ∧ c ≤ 10999) ∨ (1 ≤ c ∧ c ≤ 8)) : isVal c = true ∧ cOK c := by
  refine ⟨?_, ?_⟩
  · unfold isVal
    rw [Bool.or_eq_true, decide_eq_true_iff, decide_eq_true_iff]
    omega
  · unfold cOK
    omega
/-- the head and the rest of a row: c1, then c2 -/
theorem pK_two {a b : List Nat} {v1 v2 d : Nat} (h1 : ∀ s, s + (v1 - v) ≤ 64 → rn s a = some (s + 1)) (h2 : ∀ s, 1 ≤ s → s + (v2 - v1) ≤ 64 → rn s b = some s) (hv : v ≤ v1) (hv2 : v1 ≤ v2) (hd : v + 1 ≤ v1) : ∀ s, s + (v2 - v) ≤ 64 → rn s (a ++ b) = some (s + 1) := fun s hs => by
  rw [rn_app (h1 s (by omega))]
  exact h2 (s + 1) (by omega) (by omega)
theorem pK_op {a b : List Nat} {v1 v2 c : Nat} (hc : 20 ≤ c ∧ c ≤ 29) (h1 : ∀ s, s + (v1 - v) ≤ 64 → rn s a = some (s + 1)) (h2 : ∀ s, 1 ≤ s → s + (v2 - v1) ≤ 64 → rn s b = some s) (hv : v ≤ v1) (hv2 : v1 ≤ v2) : ∀ s, 1 ≤ s → s + (v2 - v) ≤ 64 → rn s (a ++ c :: b) = some s := fun s h s2 => by
  rw [rn_app (h1 s (by omega)), rn_bin (bin_v hc).1 (bin_v hc).2.1 (by omega)]
  exact h2 (s + 1 - 1) (by omega) (by omega)
theorem mem_app {a b : List Nat} (h1 : ∀ x, x ∈ a → cOK x) (h2 : ∀ x, x ∈ b → cOK x) : ∀ x, x ∈ a ++ b → cOK x := fun x hx => (List.mem_append.mp hx).elim (h1 x) (h2 x)
theorem mem_cons' {c : Nat} {b : List Nat} (h1 : cOK c) (h2 : ∀ x, x ∈ b → cOK x) : ∀ x, x ∈ c :: b → cOK x := fun x hx => (List.mem_cons.mp hx).elim (fun e => e ▸ h1) (h2 x)
theorem mul_mono {a b k : Nat} (h : a ≤ b) : k * a ≤ k * b := Nat.mul_le_mul_left k h
theorem prs_pK (ht : ∀ i, (tok i).2 ≤ 9999) : ∀ {f nt i o v v' j : Nat} {c : List Nat}, nt ≤ 9 → o ≤ 6 → v ≤ 40 → prs tok f nt i o v = .inr ((c, v'), j) → pK nt i o v c v' j
  | 0, nt, i, o, v, v', j, c, _, _, _, h => by cases h
  | f + 1, nt, i, o, v, v', j, c, hn, ho, hv, h => by
    obtain rfl | rfl | rfl | rfl | rfl | rfl | rfl | rfl | rfl | rfl : nt = 0 ∨ nt = 1 ∨ nt = 2 ∨ nt = 3 ∨ nt = 4 ∨ nt = 5 ∨ nt = 6 ∨ nt = 7 ∨ nt = 8 ∨ nt = 9 := by omega
    · rw [prs_0] at h
      obtain ⟨a, k, e1, h⟩ := bd_r h
      obtain ⟨b, k2, e2, h⟩ := bd_r h
      cases h
      obtain ⟨⟨p1, p2, p3, p4⟩, p5, p6, -, -, -⟩ := prs_pK ht (by omega) ho hv (c := a.1) (v' := a.2) e1
      obtain ⟨⟨r1, r2, r3, r4⟩, r5, -, r6, -, -⟩ := prs_pK ht (by omega) ho p2 (c := b.1) (v' := b.2) e2
      obtain ⟨q1, q2, q3, q4⟩ := p6 (Or.inr (Or.inl rfl))
      obtain ⟨w1, w2⟩ := r6 (Or.inl rfl)
      have m : (10 - o) * (b.2 - v) = (10 - o) * (a.2 - v) + (10 - o) * (b.2 - a.2) := by rw [← Nat.mul_add, show a.2 - v + (b.2 - a.2) = b.2 - v by omega]
      refine ⟨⟨by omega, r2, by omega, ?_⟩, mem_app p5 r5, fun _ => ⟨by omega, by omega, ?_, pK_two (d := 0) q4 w2 p1 r1 (by omega)⟩, fun z => by omega, fun z => by omega, fun z => by omega⟩
      · rw [List.length_append]
        omega
      · rw [List.length_append]
        omega
    · rw [prs_1] at h
      split at h
      · obtain ⟨a, k, e1, h⟩ := bd_r h
        obtain ⟨b, k2, e2, h⟩ := bd_r h
        cases h
        obtain ⟨⟨p1, p2, p3, p4⟩, p5, p6, -, -, -⟩ := prs_pK ht (by omega) ho hv (c := a.1) (v' := a.2) e1
        obtain ⟨⟨r1, r2, r3, r4⟩, r5, -, r6, -, -⟩ := prs_pK ht (by omega) ho p2 (c := b.1) (v' := b.2) e2
        obtain ⟨q1, q2, q3, q4⟩ := p6 (Or.inr (Or.inl rfl))
        obtain ⟨w1, w2⟩ := r6 (Or.inl rfl)
        have m : (10 - o) * (b.2 - v) = (10 - o) * (a.2 - v) + (10 - o) * (b.2 - a.2) := by rw [← Nat.mul_add, show a.2 - v + (b.2 - a.2) = b.2 - v by omega]
        refine ⟨⟨by omega, r2, by omega, ?_⟩, mem_app p5 (mem_cons' (bin_v (by omega)).2.2 r5), fun z => by omega, fun _ => ⟨?_, pK_op (by omega) q4 w2 p1 r1⟩, fun z => by omega, fun z => by omega⟩
        · rw [List.length_append, List.length_cons]
          omega
        · rw [List.length_append, List.length_cons]
          omega
      · cases h
        exact ⟨⟨Nat.le_refl _, hv, Nat.le_refl _, Nat.zero_le _⟩, fun x hx => (by cases hx), fun z => by omega, fun _ => ⟨Nat.zero_le _, fun s _ _ => rfl⟩, fun z => by omega, fun z => by omega⟩
    · rw [prs_2] at h
      obtain ⟨a, k, e1, h⟩ := bd_r h
      obtain ⟨b, k2, e2, h⟩ := bd_r h
      cases h
      obtain ⟨⟨p1, p2, p3, p4⟩, p5, p6, -, -, -⟩ := prs_pK ht (by omega) ho hv (c := a.1) (v' := a.2) e1
      obtain ⟨⟨r1, r2, r3, r4⟩, r5, -, r6, -, -⟩ := prs_pK ht (by omega) ho p2 (c := b.1) (v' := b.2) e2
      obtain ⟨q1, q2, q3, q4⟩ := p6 (Or.inr (Or.inr rfl))
      obtain ⟨w1, w2⟩ := r6 (Or.inr rfl)
      have m : (10 - o) * (b.2 - v) = (10 - o) * (a.2 - v) + (10 - o) * (b.2 - a.2) := by rw [← Nat.mul_add, show a.2 - v + (b.2 - a.2) = b.2 - v by omega]
      refine ⟨⟨by omega, r2, by omega, ?_⟩, mem_app p5 r5, fun _ => ⟨by omega, by omega, ?_, pK_two (d := 0) q4 w2 p1 r1 (by omega)⟩, fun z => by omega, fun z => by omega, fun z => by omega⟩
      · rw [List.length_append]
        omega
      · rw [List.length_append]
        omega
    · rw [prs_3] at h
      split at h
      · obtain ⟨a, k, e1, h⟩ := bd_r h
        obtain ⟨b, k2, e2, h⟩ := bd_r h
        cases h
        obtain ⟨⟨p1, p2, p3, p4⟩, p5, p6, -, -, -⟩ := prs_pK ht (by omega) ho hv (c := a.1) (v' := a.2) e1
        obtain ⟨⟨r1, r2, r3, r4⟩, r5, -, r6, -, -⟩ := prs_pK ht (by omega) ho p2 (c := b.1) (v' := b.2) e2
        obtain ⟨q1, q2, q3, q4⟩ := p6 (Or.inr (Or.inr rfl))
        obtain ⟨w1, w2⟩ := r6 (Or.inr rfl)
        have m : (10 - o) * (b.2 - v) = (10 - o) * (a.2 - v) + (10 - o) * (b.2 - a.2) := by rw [← Nat.mul_add, show a.2 - v + (b.2 - a.2) = b.2 - v by omega]
        refine ⟨⟨by omega, r2, by omega, ?_⟩, mem_app p5 (mem_cons' (bin_v (by omega)).2.2 r5), fun z => by omega, fun _ => ⟨?_, pK_op (by omega) q4 w2 p1 r1⟩, fun z => by omega, fun z => by omega⟩
        · rw [List.length_append, List.length_cons]
          omega
        · rw [List.length_append, List.length_cons]
          omega
      · cases h
        exact ⟨⟨Nat.le_refl _, hv, Nat.le_refl _, Nat.zero_le _⟩, fun x hx => (by cases hx), fun z => by omega, fun _ => ⟨Nat.zero_le _, fun s _ _ => rfl⟩, fun z => by omega, fun z => by omega⟩
    · rw [prs_4] at h
      split at h
      · split at h
        · cases h
        · next q =>
          obtain ⟨a, k, e1, h⟩ := bd_r h
          cases h
          obtain ⟨⟨p1, p2, p3, p4⟩, p5, p6, -, -, -⟩ := prs_pK ht (by omega) (by omega) hv (c := a.1) (v' := a.2) e1
          obtain ⟨q1, q2, q3, q4⟩ := p6 (Or.inr (Or.inr rfl))
          have m : (10 - o) * (a.2 - v) = (10 - (o + 1)) * (a.2 - v) + (a.2 - v) := by rw [show 10 - o = 10 - (o + 1) + 1 by omega, Nat.succ_mul]
          refine ⟨⟨by omega, p2, by omega, ?_⟩, mem_app p5 (mem_cons' (Or.inr (Or.inr (by omega))) (fun x hx => (by cases hx))), fun _ => ⟨by omega, by omega, ?_, fun s hs => ?_⟩, fun z => by omega, fun z => by omega, fun z => by omega⟩
          · rw [List.length_append]
            show _ + 1 ≤ _
            omega
          · rw [List.length_append]
            show 2 * (_ + 1) + 2 ≤ _
            omega
          · rw [rn_app (q4 s hs)]
            show (if isVal 30 = true then _ else if 30 = 30 then (if 1 ≤ s + 1 then rn (s + 1) [] else none) else _) = _
            rw [if_neg (by decide), if_pos rfl, if_pos (by omega)]
            rfl
      · split at h
        · split at h
          · cases h
          · next q =>
            obtain ⟨a, k, e1, h⟩ := bd_r h
            split at h
            · cases h
              obtain ⟨⟨p1, p2, p3, p4⟩, p5, p6, -, -, -⟩ := prs_pK ht (by omega) (by omega) hv (c := c) (v' := v') e1
              obtain ⟨q1, q2, q3, q4⟩ := p6 (Or.inl rfl)
              have m : (10 - o) * (v' - v) = (10 - (o + 1)) * (v' - v) + (v' - v) := by rw [show 10 - o = 10 - (o + 1) + 1 by omega, Nat.succ_mul]
              exact ⟨⟨by omega, p2, by omega, by omega⟩, p5, fun _ => ⟨by omega, by omega, by omega, q4⟩, fun z => by omega, fun z => by omega, fun z => by omega⟩
            · cases h
        · obtain ⟨a, k, e1, h⟩ := bd_r h
          split at h
          · cases h
          · next q =>
            obtain ⟨b, k2, e2, h⟩ := bd_r h
            cases h
            obtain ⟨⟨p1, p2, p3, p4⟩, p5, -, -, p6, -⟩ := prs_pK ht (by omega) ho hv (c := a.1) (v' := a.2) e1
            obtain ⟨⟨r1, r2, r3, r4⟩, r5, -, -, r6, -⟩ := prs_pK ht (by omega) ho p2 (c := b.1) (v' := b.2) e2
            obtain ⟨q1, q2, q3, q4⟩ := p6 (Or.inl rfl)
            obtain ⟨w1, w2, w3, w4⟩ := r6 (Or.inl rfl)
            have cb := cmpC_b q
            have m : 4 * (b.2 - v) ≤ (10 - o) * (b.2 - v) := Nat.mul_le_mul_right _ (by omega)
            refine ⟨⟨by omega, r2, by omega, ?_⟩, mem_app p5 (mem_app r5 (mem_cons' (bin_v (by omega)).2.2 (fun x hx => (by cases hx)))), fun _ => ⟨by omega, by omega, ?_, fun s hs => ?_⟩, fun z => by omega, fun z => by omega, fun z => by omega⟩
            · rw [List.length_append, List.length_append]
              show _ + (_ + 1) ≤ _
              omega
            · rw [List.length_append, List.length_append]
              show 2 * (_ + (_ + 1)) + 2 ≤ _
              omega
            · rw [rn_app (q4 s (by omega)), rn_app (w4 (s + 1) (by omega)), rn_bin (bin_v (by omega)).1 (bin_v (by omega)).2.1 (by omega)]
              rfl
    · rw [prs_5] at h
      obtain ⟨a, k, e1, h⟩ := bd_r h
      obtain ⟨b, k2, e2, h⟩ := bd_r h
      cases h
      obtain ⟨⟨p1, p2, p3, p4⟩, p5, -, -, p6, -⟩ := prs_pK ht (by omega) ho hv (c := a.1) (v' := a.2) e1
      obtain ⟨⟨r1, r2, r3, r4⟩, r5, -, -, -, r6⟩ := prs_pK ht (by omega) ho p2 (c := b.1) (v' := b.2) e2
      obtain ⟨q1, q2, q3, q4⟩ := p6 (Or.inr (Or.inl rfl))
      obtain ⟨w1, w2⟩ := r6 (Or.inl rfl)
      refine ⟨⟨by omega, r2, by omega, ?_⟩, mem_app p5 r5, fun z => by omega, fun z => by omega, fun _ => ⟨by omega, by omega, ?_, pK_two (d := 0) q4 w2 p1 r1 (by omega)⟩, fun z => by omega⟩
      · rw [List.length_append]
        omega
      · rw [List.length_append]
        omega
    · rw [prs_6] at h
      split at h
      · cases h
        exact ⟨⟨Nat.le_refl _, hv, Nat.le_refl _, Nat.zero_le _⟩, fun x hx => (by cases hx), fun z => by omega, fun z => by omega, fun z => by omega, fun _ => ⟨by rw [Nat.sub_self]; rfl, fun s _ _ => rfl⟩⟩
      · next q =>
        obtain ⟨a, k, e1, h⟩ := bd_r h
        obtain ⟨b, k2, e2, h⟩ := bd_r h
        cases h
        obtain ⟨⟨p1, p2, p3, p4⟩, p5, -, -, p6, -⟩ := prs_pK ht (by omega) ho hv (c := a.1) (v' := a.2) e1
        obtain ⟨⟨r1, r2, r3, r4⟩, r5, -, -, -, r6⟩ := prs_pK ht (by omega) ho p2 (c := b.1) (v' := b.2) e2
        obtain ⟨q1, q2, q3, q4⟩ := p6 (Or.inr (Or.inl rfl))
        obtain ⟨w1, w2⟩ := r6 (Or.inl rfl)
        have cb := addC_b q
        refine ⟨⟨by omega, r2, by omega, ?_⟩, mem_app p5 (mem_cons' (bin_v (by omega)).2.2 r5), fun z => by omega, fun z => by omega, fun z => by omega, fun _ => ⟨?_, pK_op (by omega) q4 w2 p1 r1⟩⟩
        · rw [List.length_append, List.length_cons]
          omega
        · rw [List.length_append, List.length_cons]
          omega
    · rw [prs_7] at h
      obtain ⟨a, k, e1, h⟩ := bd_r h
      obtain ⟨b, k2, e2, h⟩ := bd_r h
      cases h
      obtain ⟨⟨p1, p2, p3, p4⟩, p5, -, -, p6, -⟩ := prs_pK ht (by omega) ho hv (c := a.1) (v' := a.2) e1
      obtain ⟨⟨r1, r2, r3, r4⟩, r5, -, -, -, r6⟩ := prs_pK ht (by omega) ho p2 (c := b.1) (v' := b.2) e2
      obtain ⟨q1, q2, q3, q4⟩ := p6 (Or.inr (Or.inr rfl))
      obtain ⟨w1, w2⟩ := r6 (Or.inr rfl)
      refine ⟨⟨by omega, r2, by omega, ?_⟩, mem_app p5 r5, fun z => by omega, fun z => by omega, fun _ => ⟨by omega, by omega, ?_, pK_two (d := 0) q4 w2 p1 r1 (by omega)⟩, fun z => by omega⟩
      · rw [List.length_append]
        omega
      · rw [List.length_append]
        omega
    · rw [prs_8] at h
      split at h
      · cases h
        exact ⟨⟨Nat.le_refl _, hv, Nat.le_refl _, Nat.zero_le _⟩, fun x hx => (by cases hx), fun z => by omega, fun z => by omega, fun z => by omega, fun _ => ⟨by rw [Nat.sub_self]; rfl, fun s _ _ => rfl⟩⟩
      · next q =>
        obtain ⟨a, k, e1, h⟩ := bd_r h
        obtain ⟨b, k2, e2, h⟩ := bd_r h
        cases h
        obtain ⟨⟨p1, p2, p3, p4⟩, p5, -, -, p6, -⟩ := prs_pK ht (by omega) ho hv (c := a.1) (v' := a.2) e1
        obtain ⟨⟨r1, r2, r3, r4⟩, r5, -, -, -, r6⟩ := prs_pK ht (by omega) ho p2 (c := b.1) (v' := b.2) e2
        obtain ⟨q1, q2, q3, q4⟩ := p6 (Or.inr (Or.inr rfl))
        obtain ⟨w1, w2⟩ := r6 (Or.inr rfl)
        have cb := mulC_b q
        refine ⟨⟨by omega, r2, by omega, ?_⟩, mem_app p5 (mem_cons' (bin_v (by omega)).2.2 r5), fun z => by omega, fun z => by omega, fun z => by omega, fun _ => ⟨?_, pK_op (by omega) q4 w2 p1 r1⟩⟩
        · rw [List.length_append, List.length_cons]
          omega
        · rw [List.length_append, List.length_cons]
          omega
    · rw [prs_9] at h
      split at h
      · split at h
        · cases h
        · next q =>
          obtain ⟨a, k, e1, h⟩ := bd_r h
          split at h
          · cases h
            obtain ⟨⟨p1, p2, p3, p4⟩, p5, -, -, p6, -⟩ := prs_pK ht (by omega) (by omega) hv (c := c) (v' := v') e1
            obtain ⟨q1, q2, q3, q4⟩ := p6 (Or.inl rfl)
            exact ⟨⟨by omega, p2, by omega, by omega⟩, p5, fun z => by omega, fun z => by omega, fun _ => ⟨by omega, by omega, by omega, q4⟩, fun z => by omega⟩
          · cases h
      · split at h
        · cases h
        · next q =>
          split at h
          · cases h
          · next q2 =>
            cases h
            have vb := val_v (show (1000 ≤ valC (tok i) ∧ valC (tok i) ≤ 10999) ∨ (1 ≤ valC (tok i) ∧ valC (tok i) ≤ 8) by have := valC_b (ht i) q; omega)
            refine ⟨⟨by omega, by omega, by omega, ?_⟩, mem_cons' vb.2 (fun x hx => (by cases hx)), fun z => by omega, fun z => by omega, fun _ => ⟨by omega, by omega, ?_, fun s hs => ?_⟩, fun z => by omega⟩
            · show 1 ≤ _
              omega
            · show 1 + 1 = _
              omega
            · show (if isVal (valC (tok i)) = true then (if s < 64 then rn (s + 1) [] else none) else _) = _
              rw [if_pos vb.1, if_pos (by omega)]
              rfl
end PR
