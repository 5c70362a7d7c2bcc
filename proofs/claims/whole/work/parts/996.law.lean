/-! laws: codes, what they say -/
/-- a code of the reference as a step of the class -/
def cS (c : Nat) : Nat := if 1000 ≤ c then c - 1000 else if c ≤ 8 then 9999 + c else if c = 20 then 20043 else if c = 21 then 20045 else if c = 22 then 20042 else if c = 23 then 20047 else if c = 24 then 20037 else if c = 25 then 20060 else if c = 26 then 20062 else if c = 27 then 20061 else if c = 28 then 20001 else if c = 29 then 20000 else 20002
def isVal (c : Nat) : Bool := decide (1000 ≤ c) || decide (c ≤ 8)
def cOK (c : Nat) : Prop := (1000 ≤ c ∧ c ≤ 10999) ∨ (1 ≤ c ∧ c ≤ 8) ∨ (20 ≤ c ∧ c ≤ 30)
def jn (c : Nat) (x y : Int64) : Int64 := if c = 20 then x + y else if c = 21 then x - y else if c = 22 then x * y else if c = 23 then (if y = 0 then 0 else x / y) else if c = 24 then (if y = 0 then 0 else x - x / y * y) else if c = 25 then (if x < y then 1 else 0) else if c = 26 then (if y < x then 1 else 0) else if c = 27 then (if x = y then 1 else 0) else if c = 28 then x &&& y else x ||| y
/-- how many lie on the stack ahead of code i -/
def sd (cd : Nat → Nat) : Nat → Nat
  | 0 => 0
  | i + 1 => if isVal (cd i) then sd cd i + 1 else if cd i = 30 then sd cd i else sd cd i - 1
def vlC (F : Nat → Int64) (c : Nat) : Int64 := if 1000 ≤ c then Int64.ofInt ((c : Int) - 1000) else F (c - 1)
/-- the stack ahead of code i -/
def evS (cd : Nat → Nat) (F : Nat → Int64) : Nat → Nat → Int64
  | 0, _ => 0
  | i + 1, p => if isVal (cd i) then (if p = sd cd i then vlC F (cd i) else evS cd F i p) else if cd i = 30 then (if p = sd cd i - 1 then 1 - evS cd F i p else evS cd F i p) else (if p = sd cd i - 2 then jn (cd i) (evS cd F i (sd cd i - 2)) (evS cd F i (sd cd i - 1)) else evS cd F i p)
/-- a law's row of codes is right -/
def cdOK (cd : Nat → Nat) (len : Nat) : Prop := (∀ i, i < len → cOK (cd i) ∧ (isVal (cd i) = true → sd cd i < 64) ∧ (cd i = 30 → 1 ≤ sd cd i) ∧ (isVal (cd i) = false → ¬ cd i = 30 → 2 ≤ sd cd i)) ∧ 1 ≤ sd cd len
theorem sd_b {cd : Nat → Nat} {len : Nat} (h : cdOK cd len) : ∀ i, i ≤ len → sd cd i ≤ 64 := by
  intro i
  induction i with
  | zero => intro _; exact Nat.zero_le _
  | succ i ih =>
    intro hi
    have a := h.1 i (by omega)
    have b := ih (by omega)
    show (if isVal (cd i) then sd cd i + 1 else if cd i = 30 then sd cd i else sd cd i - 1) ≤ 64
    split
    · next q => have := a.2.1 q; omega
    · split <;> omega
def lwB (cd : Nat → Nat) (len : Nat) (F : Nat → Int64) : Bool := decide (evS cd F len 0 = 1)
/-- where a law's steps begin -/
def lawE (t : q_T) (l : Nat) : Nat := fb_sm (t 18) l
abbrev lcd (t : q_T) (l : Nat) : Nat → Nat := t (19 + l)
/-- both sides' laws -/
def g_W (M : q_M) (t : q_T) : Prop := M.1 17 5 = nI (t 17 0) ∧ ∀ l, l < t 17 0 → M.1 19 l = nI (lawE t (l + 1)) ∧ M.1 280 (143 + l) = nI (t 18 l) ∧ ∀ i, i < t 18 l → M.1 18 (lawE t l + i) = nI (cS (t (19 + l) i)) ∧ M.1 280 (149 + 256 * l + i) = nI (t (19 + l) i)
def b_L (t : q_T) : Prop := t 17 0 ≤ 6 ∧ lawE t (t 17 0) ≤ 1200 ∧ ∀ l, l < t 17 0 → t 18 l ≤ 255 ∧ cdOK (t (19 + l)) (t 18 l)
theorem lawE_le {t : q_T} {l m : Nat} (h : l ≤ m) : lawE t l ≤ lawE t m := by
  unfold lawE
  obtain ⟨j, rfl⟩ : ∃ j, m = l + j := ⟨m - l, by omega⟩
  rw [fb_sm_split]
  omega
theorem lawE_s {t : q_T} {l : Nat} : lawE t (l + 1) = lawE t l + t 18 l := fb_sm_succ _ _
theorem b_L.at {t : q_T} (h : b_L t) {l : Nat} (hl : l < t 17 0) : lawE t l + t 18 l ≤ 1200 := by
  have a := lawE_le (t := t) (show l + 1 ≤ t 17 0 by omega)
  rw [lawE_s] at a
  have := h.2.1
  omega
section LJ
variable {L : Nat} {xs : Nat → Int32} {E : q_E} {d : Nat} {M : q_M} {t : q_T} {n : sN} {Q : Option Value → q_M → Prop} {P : q_M → Prop}
set_option maxRecDepth 100000 in
set_option maxHeartbeats 4000000 in
theorem k2_join {a : Int32} (c : Nat) (hc : 20 ≤ c ∧ c ≤ 29) {x y : Int64} (hQ : Q (some (.long (jn c x y))) M) (ha : a = nI (cS c) := by (first | assumption | (simp only [z_nat, z_lit, ← Int32.ofInt_add, ← Int32.ofInt_sub, ← Int32.ofInt_mul]; exact congrArg Int32.ofInt (by omega)) | (simp only [z_nat, z_lit, ← Int32.ofInt_add, ← Int32.ofInt_sub, ← Int32.ofInt_mul]; done) | exact congrArg Int32.ofInt (by omega) | rfl)) : q_C q_mt (L, xs, q_shp) E nX1_join (d) 0 0 [.int (a), .long (x), .long (y)] M Q := by
  subst ha
  obtain rfl | rfl | rfl | rfl | rfl | rfl | rfl | rfl | rfl | rfl : c = 20 ∨ c = 21 ∨ c = 22 ∨ c = 23 ∨ c = 24 ∨ c = 25 ∨ c = 26 ∨ c = 27 ∨ c = 28 ∨ c = 29 := by omega
  · refine w_in 90 [] ?_
    refine ⟨fun z => absurd z (by decide), fun _ => ?_⟩
    refine ⟨fun z => absurd z (by decide), fun _ => ?_⟩
    refine ⟨fun z => absurd z (by decide), fun _ => ?_⟩
    refine ⟨fun _ => ?_, fun z => absurd (by decide) z⟩
    exact hQ
  · refine w_in 90 [] ?_
    refine ⟨fun z => absurd z (by decide), fun _ => ?_⟩
    refine ⟨fun z => absurd z (by decide), fun _ => ?_⟩
    refine ⟨fun z => absurd z (by decide), fun _ => ?_⟩
    refine ⟨fun z => absurd z (by decide), fun _ => ?_⟩
    refine ⟨fun _ => ?_, fun z => absurd (by decide) z⟩
    exact hQ
  · refine w_in 90 [] ?_
    refine ⟨fun z => absurd z (by decide), fun _ => ?_⟩
    refine ⟨fun z => absurd z (by decide), fun _ => ?_⟩
    refine ⟨fun _ => ?_, fun z => absurd (by decide) z⟩
    exact hQ
  · refine w_in 90 [] ?_
    refine ⟨fun z => absurd z (by decide), fun _ => ?_⟩
    refine ⟨fun z => absurd z (by decide), fun _ => ?_⟩
    refine ⟨fun z => absurd z (by decide), fun _ => ?_⟩
    refine ⟨fun z => absurd z (by decide), fun _ => ?_⟩
    refine ⟨fun z => absurd z (by decide), fun _ => ?_⟩
    refine ⟨fun _ => ?_, fun z => absurd (by decide) z⟩
    have hQ : Q (some (.long (if y = 0 then 0 else x / y))) M := hQ
    refine ⟨fun z => ?_, fun z => ?_⟩
    · have z : ¬ y = 0 := fun w => z ((lg_cmp_eq y 0).mpr w)
      rw [if_neg z] at hQ
      exact ⟨z, hQ⟩
    · have z : y = 0 := (lg_cmp_eq y 0).mp z
      rw [if_pos z] at hQ
      exact hQ
  · refine w_in 90 [] ?_
    refine ⟨fun z => absurd z (by decide), fun _ => ?_⟩
    refine ⟨fun z => absurd z (by decide), fun _ => ?_⟩
    refine ⟨fun z => absurd z (by decide), fun _ => ?_⟩
    refine ⟨fun z => absurd z (by decide), fun _ => ?_⟩
    refine ⟨fun z => absurd z (by decide), fun _ => ?_⟩
    refine ⟨fun z => absurd z (by decide), fun _ => ?_⟩
    refine ⟨fun z => absurd z (by decide), fun _ => ?_⟩
    refine ⟨fun z => absurd z (by decide), fun _ => ?_⟩
    refine ⟨fun z => absurd z (by decide), fun _ => ?_⟩
    have hQ : Q (some (.long (if y = 0 then 0 else x - x / y * y))) M := hQ
    refine ⟨fun z => ?_, fun z => ?_⟩
    · have z : ¬ y = 0 := fun w => z ((lg_cmp_eq y 0).mpr w)
      rw [if_neg z] at hQ
      exact ⟨z, hQ⟩
    · have z : y = 0 := (lg_cmp_eq y 0).mp z
      rw [if_pos z] at hQ
      exact hQ
  · refine w_in 90 [] ?_
    refine ⟨fun z => absurd z (by decide), fun _ => ?_⟩
    refine ⟨fun z => absurd z (by decide), fun _ => ?_⟩
    refine ⟨fun z => absurd z (by decide), fun _ => ?_⟩
    refine ⟨fun z => absurd z (by decide), fun _ => ?_⟩
    refine ⟨fun z => absurd z (by decide), fun _ => ?_⟩
    refine ⟨fun z => absurd z (by decide), fun _ => ?_⟩
    refine ⟨fun _ => ?_, fun z => absurd (by decide) z⟩
    have hQ : Q (some (.long (if x < y then 1 else 0))) M := hQ
    refine ⟨fun z => ?_, fun z => ?_⟩
    · rw [if_neg (fun w => Int64.not_lt.mpr ((lg_cmp_ge x y).mp z) w)] at hQ
      exact hQ
    · rw [if_pos (Int64.not_le.mp (fun w => z ((lg_cmp_ge x y).mpr w)))] at hQ
      exact hQ
  · refine w_in 90 [] ?_
    refine ⟨fun z => absurd z (by decide), fun _ => ?_⟩
    refine ⟨fun z => absurd z (by decide), fun _ => ?_⟩
    refine ⟨fun z => absurd z (by decide), fun _ => ?_⟩
    refine ⟨fun z => absurd z (by decide), fun _ => ?_⟩
    refine ⟨fun z => absurd z (by decide), fun _ => ?_⟩
    refine ⟨fun z => absurd z (by decide), fun _ => ?_⟩
    refine ⟨fun z => absurd z (by decide), fun _ => ?_⟩
    refine ⟨fun z => absurd z (by decide), fun _ => ?_⟩
    refine ⟨fun _ => ?_, fun z => absurd (by decide) z⟩
    have hQ : Q (some (.long (if y < x then 1 else 0))) M := hQ
    refine ⟨fun z => ?_, fun z => ?_⟩
    · rw [if_neg (fun w => Int64.not_lt.mpr ((lg_cmp_le x y).mp z) w)] at hQ
      exact hQ
    · rw [if_pos (Int64.not_le.mp (fun w => z ((lg_cmp_le x y).mpr w)))] at hQ
      exact hQ
  · refine w_in 90 [] ?_
    refine ⟨fun z => absurd z (by decide), fun _ => ?_⟩
    refine ⟨fun z => absurd z (by decide), fun _ => ?_⟩
    refine ⟨fun z => absurd z (by decide), fun _ => ?_⟩
    refine ⟨fun z => absurd z (by decide), fun _ => ?_⟩
    refine ⟨fun z => absurd z (by decide), fun _ => ?_⟩
    refine ⟨fun z => absurd z (by decide), fun _ => ?_⟩
    refine ⟨fun z => absurd z (by decide), fun _ => ?_⟩
    refine ⟨fun _ => ?_, fun z => absurd (by decide) z⟩
    have hQ : Q (some (.long (if x = y then 1 else 0))) M := hQ
    refine ⟨fun z => ?_, fun z => ?_⟩
    · rw [if_neg (fun w => z ((lg_cmp_eq x y).mpr w))] at hQ
      exact hQ
    · rw [if_pos ((lg_cmp_eq x y).mp z)] at hQ
      exact hQ
  · refine w_in 90 [] ?_
    refine ⟨fun z => absurd z (by decide), fun _ => ?_⟩
    refine ⟨fun _ => ?_, fun z => absurd (by decide) z⟩
    exact hQ
  · refine w_in 90 [] ?_
    refine ⟨fun _ => ?_, fun z => absurd (by decide) z⟩
    exact hQ
set_option maxRecDepth 100000 in
set_option maxHeartbeats 4000000 in
theorem k_truth0 (hQ : Q (some (.long 0)) M) : q_C q_mt (L, xs, q_shp) E nX12_truth (d) 0 0 [.int (Int32.ofInt 0)] M Q := by
  refine w_in 90 [] ?_
  exact z_eq 0 0 (fun _ => hQ) (fun z => absurd rfl z)
set_option maxRecDepth 100000 in
set_option maxHeartbeats 4000000 in
theorem k_truth1 (hQ : Q (some (.long 1)) M) : q_C q_mt (L, xs, q_shp) E nX12_truth (d) 0 0 [.int (Int32.ofInt 1)] M Q := by
  refine w_in 90 [] ?_
  exact z_eq 1 0 (fun z => absurd z (by decide)) (fun _ => hQ)
set_option maxRecDepth 100000 in
set_option maxHeartbeats 4000000 in
theorem k_joined {a : Int32} (c : Nat) (hc : 20 ≤ c ∧ c ≤ 29) {x y : Int64} (hQ : Q (some (.long (jn c x y))) M) (ha : a = nI c := by (first | assumption | (simp only [z_nat, z_lit, ← Int32.ofInt_add, ← Int32.ofInt_sub, ← Int32.ofInt_mul]; exact congrArg Int32.ofInt (by omega)) | (simp only [z_nat, z_lit, ← Int32.ofInt_add, ← Int32.ofInt_sub, ← Int32.ofInt_mul]; done) | exact congrArg Int32.ofInt (by omega) | rfl)) : q_C q_mt (L, xs, q_shp) E nX12_joined (d + 1) 0 0 [.int (a), .long (x), .long (y)] M Q := by
  subst ha
  obtain rfl | rfl | rfl | rfl | rfl | rfl | rfl | rfl | rfl | rfl : c = 20 ∨ c = 21 ∨ c = 22 ∨ c = 23 ∨ c = 24 ∨ c = 25 ∨ c = 26 ∨ c = 27 ∨ c = 28 ∨ c = 29 := by omega
  · refine w_in 90 [] ?_
    refine ⟨fun z => absurd z (by decide), sw_at 0 (by decide) rfl ?_⟩
    exact hQ
  · refine w_in 90 [] ?_
    refine ⟨fun z => absurd z (by decide), sw_at 1 (by decide) rfl ?_⟩
    exact hQ
  · refine w_in 90 [] ?_
    refine ⟨fun z => absurd z (by decide), sw_at 2 (by decide) rfl ?_⟩
    exact hQ
  · refine w_in 90 [] ?_
    refine ⟨fun z => absurd z (by decide), sw_at 3 (by decide) rfl ?_⟩
    have hQ : Q (some (.long (if y = 0 then 0 else x / y))) M := hQ
    refine ⟨fun z => ?_, fun z => ?_⟩
    · have z : ¬ y = 0 := fun w => z ((lg_cmp_eq y 0).mpr w)
      rw [if_neg z] at hQ
      exact ⟨z, hQ⟩
    · have z : y = 0 := (lg_cmp_eq y 0).mp z
      rw [if_pos z] at hQ
      exact hQ
  · refine w_in 90 [] ?_
    refine ⟨fun z => absurd z (by decide), sw_at 4 (by decide) rfl ?_⟩
    have hQ : Q (some (.long (if y = 0 then 0 else x - x / y * y))) M := hQ
    refine ⟨fun z => ?_, fun z => ?_⟩
    · have z : ¬ y = 0 := fun w => z ((lg_cmp_eq y 0).mpr w)
      rw [if_neg z] at hQ
      exact ⟨z, hQ⟩
    · have z : y = 0 := (lg_cmp_eq y 0).mp z
      rw [if_pos z] at hQ
      exact hQ
  · refine w_in 90 [] ?_
    refine ⟨fun z => absurd z (by decide), sw_at 5 (by decide) rfl ?_⟩
    have hQ : Q (some (.long (if x < y then 1 else 0))) M := hQ
    refine ⟨fun z => ?_, fun z => ?_⟩
    · rw [if_neg (fun w => Int64.not_lt.mpr ((lg_cmp_ge x y).mp z) w)] at hQ
      exact k_truth0 hQ
    · rw [if_pos (Int64.not_le.mp (fun w => z ((lg_cmp_ge x y).mpr w)))] at hQ
      exact k_truth1 hQ
  · refine w_in 90 [] ?_
    refine ⟨fun z => absurd z (by decide), sw_at 6 (by decide) rfl ?_⟩
    have hQ : Q (some (.long (if y < x then 1 else 0))) M := hQ
    refine ⟨fun z => ?_, fun z => ?_⟩
    · rw [if_neg (fun w => Int64.not_lt.mpr ((lg_cmp_le x y).mp z) w)] at hQ
      exact k_truth0 hQ
    · rw [if_pos (Int64.not_le.mp (fun w => z ((lg_cmp_le x y).mpr w)))] at hQ
      exact k_truth1 hQ
  · refine w_in 90 [] ?_
    refine ⟨fun z => absurd z (by decide), sw_at 7 (by decide) rfl ?_⟩
    have hQ : Q (some (.long (if x = y then 1 else 0))) M := hQ
    refine ⟨fun z => ?_, fun z => ?_⟩
    · rw [if_neg (fun w => z ((lg_cmp_eq x y).mpr w))] at hQ
      exact k_truth0 hQ
    · rw [if_pos ((lg_cmp_eq x y).mp z)] at hQ
      exact k_truth1 hQ
  · refine w_in 90 [] ?_
    refine ⟨fun z => absurd z (by decide), sw_at 8 (by decide) rfl ?_⟩
    exact hQ
  · refine w_in 90 [] ?_
    refine ⟨fun _ => ?_, sw_no (by decide)⟩
    exact hQ
end LJ
