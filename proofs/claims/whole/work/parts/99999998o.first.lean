/-! the first row of a MEET -/
def n_0 (t : q_T) (f : Nat → Int) : sN := fun k => if k < 36 then f k else if k < 432 then -1 else if k < 468 then 20 else if k < 618 then 0 else if k < 624 then (if k - 618 < t 8 0 then 1 else 0) else if k < 630 then (if k - 624 < t 8 0 then ((k - 624 : Nat) : Int) else 0) else if k = 630 then (t 8 0 : Int) else if k = 631 then 1 else 0
/-- the lists are whole -/
def lsW (t : q_T) (f : Nat → Int) : Prop := (1 ≤ t 0 0 ∧ t 0 0 ≤ 6) ∧ (1 ≤ t 8 0 ∧ t 8 0 ≤ 6) ∧ (∀ e, e < t 8 0 → ∀ r, r < t 0 0 → f (6 * e + r) = (t 11 (6 * e + r) : Int) - 1 ∧ 1 ≤ t 11 (6 * e + r) ∧ t 11 (6 * e + r) ≤ t 5 0) ∧ (∀ e, e < t 8 0 → ∀ r r', r < t 0 0 → r' < t 0 0 → ¬ r = r' → ¬ t 11 (6 * e + r) = t 11 (6 * e + r')) ∧ ∀ s, s < 36 → ¬ (s / 6 < t 8 0 ∧ s % 6 < t 0 0) → t 11 s = 0
/-- the class's State at a MEET's start -/
def sC0 (M : q_M) (t : q_T) : Prop := (∀ s, s < 36 → M.1 44 s = Int32.ofInt ((t 11 s : Int) - 1)) ∧ (∀ s, s < 36 → (M.1 45 (16 * s) = Int32.ofInt (-1) ∧ M.1 45 (16 * s + 1) = Int32.ofInt 0 ∧ M.1 45 (16 * s + 2) = Int32.ofInt 20 ∧ M.1 45 (16 * s + 3) = Int32.ofInt 0 ∧ M.1 45 (16 * s + 4) = Int32.ofInt 0) ∧ ∀ j, j < 11 → M.1 45 (16 * s + 5 + j) = Int32.ofInt (-1)) ∧ (∀ e, e < 6 → M.1 46 e = Int32.ofInt 0 ∧ M.1 47 e = Int32.ofInt 0 ∧ M.1 48 e = nI e ∧ M.1 49 e = Int32.ofInt 0 ∧ M.1 50 e = Int32.ofInt 0) ∧ M.1 43 7 = Int32.ofInt 1 ∧ M.1 43 8 = nI 0 ∧ M.1 43 9 = nI 0
section FR
variable {t : q_T} {f : Nat → Int} {k e a : Nat}
theorem n0_1 (h : k < 36) : n_0 t f k = f k := if_pos h
theorem n0_2 (h1 : 36 ≤ k) (h2 : k < 432) : n_0 t f k = -1 := by
  unfold n_0
  rw [if_neg (by omega), if_pos h2]
theorem n0_3 (h1 : 432 ≤ k) (h2 : k < 468) : n_0 t f k = 20 := by
  unfold n_0
  rw [if_neg (by omega), if_neg (by omega), if_pos h2]
theorem n0_4 (h1 : 468 ≤ k) (h2 : k < 618) : n_0 t f k = 0 := by
  unfold n_0
  rw [if_neg (by omega), if_neg (by omega), if_neg (by omega), if_pos h2]
theorem n0_5 (h : e < t 8 0) (h6 : e < 6) : n_0 t f (618 + e) = 1 := by
  unfold n_0
  rw [if_neg (by omega), if_neg (by omega), if_neg (by omega), if_neg (by omega), if_pos (by omega), if_pos (by omega)]
theorem n0_6 (h : a < t 8 0) (h6 : a < 6) : n_0 t f (624 + a) = a := by
  unfold n_0
  rw [if_neg (by omega), if_neg (by omega), if_neg (by omega), if_neg (by omega), if_neg (by omega), if_pos (by omega), if_pos (by omega)]
  omega
theorem n0_7 : n_0 t f 630 = t 8 0 ∧ n_0 t f 631 = 1 ∧ n_0 t f 632 = 0 ∧ n_0 t f 633 = 0 := by
  refine ⟨?_, ?_, ?_, ?_⟩
  · unfold n_0
    rw [if_neg (by omega), if_neg (by omega), if_neg (by omega), if_neg (by omega), if_neg (by omega), if_neg (by omega), if_pos rfl]
  · unfold n_0
    rw [if_neg (by omega), if_neg (by omega), if_neg (by omega), if_neg (by omega), if_neg (by omega), if_neg (by omega), if_neg (by omega), if_pos rfl]
  · unfold n_0
    rw [if_neg (by omega), if_neg (by omega), if_neg (by omega), if_neg (by omega), if_neg (by omega), if_neg (by omega), if_neg (by omega), if_neg (by omega)]
  · unfold n_0
    rw [if_neg (by omega), if_neg (by omega), if_neg (by omega), if_neg (by omega), if_neg (by omega), if_neg (by omega), if_neg (by omega), if_neg (by omega)]
theorem n0_gv (h6 : e < 6) (r6 : t 0 0 ≤ 6) : gvN t (n_0 t f) e = 0 := fb_ct_zero.mpr (fun r hr => decide_eq_false (by rw [n0_4 (by omega) (by omega)]; decide))
theorem n0_in (h6 : e < 6) : inE (n_0 t f) e = true := decide_eq_true (n0_4 (by omega) (by omega))
theorem n0_N (w : lsW t f) : b_N t (n_0 t f) := by
  obtain ⟨⟨r1, r6⟩, ⟨e1, e6⟩, wf, wd, -⟩ := w
  refine ⟨fun e he r hr => ?_, fun e he => ?_, fun e he r hr r' hr' hn => ?_⟩
  · obtain ⟨w1, w2, w3⟩ := wf e he r hr
    have m1 : ∀ j, j < 11 → n_0 t f (36 + 11 * (6 * e + r) + j) = -1 := fun j hj => n0_2 (by omega) (by omega)
    refine ⟨?_, fun j hj => ?_, ?_, ?_, ?_, ?_, ?_, fun z => ?_, fun z => ?_⟩
    · rw [n0_1 (by omega), w1]
      omega
    · show -1 ≤ n_0 t f (36 + 11 * (6 * e + r) + j) ∧ n_0 t f (36 + 11 * (6 * e + r) + j) ≤ 20 ∧ (¬ n_0 t f (36 + 11 * (6 * e + r) + j) = -1 → j < t 2 0 ∧ onP t j e = true)
      rw [m1 j hj]
      exact ⟨by decide, by decide, fun y => absurd rfl y⟩
    · rw [n0_3 (by omega) (by omega)]
      decide
    · rw [n0_4 (by omega) (by omega)]
      decide
    · rw [n0_4 (by omega) (by omega)]
      decide
    · exact Or.inl (n0_4 (by omega) (by omega))
    · exact Or.inl (n0_4 (by omega) (by omega))
    · exact fun j hj => m1 j hj
    · rw [n0_4 (by omega) (by omega)] at z
      exact absurd z (by decide)
  · rw [n0_4 (by omega) (by omega), n0_5 he (by omega)]
    omega
  · rw [n0_1 (by omega), n0_1 (by omega), (wf e he r hr).1, (wf e he r' hr').1]
    have := wd e he r r' hr hr' hn
    omega
theorem n0_J (w : lsW t f) : b_J t (n_0 t f) := by
  have hN := n0_N w
  obtain ⟨⟨r1, r6⟩, ⟨e1, e6⟩, wf, wd, -⟩ := w
  obtain ⟨k0, k1, k2, k3⟩ := n0_7 (t := t) (f := f)
  refine ⟨⟨hN, fun s hs _ => n0_4 (by omega) (by omega), fun e he _ r hr => ?_, fun e he r hr _ => ?_⟩, ⟨Or.inl k3, fun _ => k3⟩, fun _ => ⟨⟨?_, ?_, ?_, fun a ha => ?_, fun a b ha hb hab => ?_, fun e he _ => ⟨?_, e, ?_, ?_, ?_⟩⟩, ?_, ?_⟩⟩
  · rw [n0_gv (by omega) r6, n0_4 (by omega) (by omega)]
    exact ⟨fun z => absurd z (by decide), fun z => absurd z (Nat.not_lt_zero _)⟩
  · rw [n0_4 (by omega) (by omega)]
    decide
  · rw [k1]
    omega
  · rw [k0]
    omega
  · rw [k0, k2]
    omega
  · rw [k0] at ha
    rw [n0_6 (by omega) (by omega)]
    omega
  · rw [k0] at ha hb
    rw [n0_6 (by omega) (by omega), n0_6 (by omega) (by omega)] at hab
    omega
  · rw [n0_5 he (by omega), k1]
    decide
  · rw [k0]
    omega
  · rw [n0_6 he (by omega)]
  · rw [n0_gv (by omega) r6, k1, k2, if_neg (by omega)]
    rfl
  · rw [k0, k2]
    omega
  · rw [k2]
    show inE (n_0 t f) (n_0 t f (624 + 0)).toNat = true
    rw [n0_6 (by omega) (by omega)]
    exact n0_in (by decide)
theorem si_z0 {g : Nat → Int} : ∀ {k : Nat}, (∀ i, i < k → g i = 0) → fb_si g k = 0
  | 0, _ => rfl
  | k + 1, h => by
    rw [fb_si_succ, si_z0 (fun i hi => h i (by omega)), h k (by omega)]
    rfl
theorem sC0.S {M : q_M} (h : sC0 M t) (w : lsW t f) : g_S 43 M t (n_0 t f) := by
  obtain ⟨⟨r1, r6⟩, ⟨e1, e6⟩, wf, wd, wz⟩ := w
  obtain ⟨k0, k1, k2, k3⟩ := n0_7 (t := t) (f := f)
  obtain ⟨h1, h2, h3, h7, h8, h9⟩ := h
  refine ⟨fun s hs => ?_, fun s hs => ⟨⟨?_, ?_, ?_, ?_, ?_⟩, fun j hj => ?_⟩, fun e he => ⟨?_, ?_, ?_, ?_⟩, ?_, ?_, fun _ => ⟨0, id, by omega, h8, fun i hi hi' => ⟨(h3 i hi).2.2.1, hi'⟩, ?_, ?_⟩⟩
  · rw [h1 s hs]
    unfold lS
    by_cases q : s / 6 < t 8 0 ∧ s % 6 < t 0 0
    · rw [if_pos q, n0_1 hs]
      have := (wf (s / 6) q.1 (s % 6) q.2).1
      rw [show 6 * (s / 6) + s % 6 = s by omega] at this
      rw [this]
    · rw [if_neg q, wz s hs q, oZ_1 (by omega)]
      rfl
  · rw [(h2 s hs).1.1]
    unfold pS
    rw [if_neg (by rw [n0_4 (by omega) (by omega)]; decide), oZ_1 (by omega)]
  · rw [(h2 s hs).1.2.1, n0_4 (by omega) (by omega)]
  · rw [(h2 s hs).1.2.2.1, n0_3 (by omega) (by omega)]
  · rw [(h2 s hs).1.2.2.2.1, n0_4 (by omega) (by omega)]
  · rw [(h2 s hs).1.2.2.2.2, n0_4 (by omega) (by omega)]
  · rw [(h2 s hs).2 j hj, n0_2 (by omega) (by omega)]
  · rw [(h3 e he).1, n0_4 (by omega) (by omega)]
  · rw [(h3 e he).2.1]
    unfold bS
    by_cases q : e < t 8 0
    · rw [if_pos q, n0_5 q he]
      rfl
    · rw [if_neg q]
  · rw [(h3 e he).2.2.2.1]
    unfold gS
    by_cases q : e < t 8 0
    · rw [if_pos q, n0_gv he r6]
      rfl
    · rw [if_neg q]
      rfl
  · rw [(h3 e he).2.2.2.2]
    unfold tS
    by_cases q : e < t 8 0
    · rw [if_pos q]
      unfold toE
      have hz : ∀ r, r < t 0 0 → tof t (n_0 t f) e (t 1 0) (-1) r = 0 := fun r hr => by
        unfold tof
        rw [if_neg (fun z => by have y := z.2; rw [n0_4 (by omega) (by omega)] at y; exact absurd y (by decide))]
      rw [si_z0 hz]
    · rw [if_neg q]
  · rw [h7, k1]
  · rw [h9]
    unfold brd
    rw [if_neg (by omega), k2]
    show nI 0 = Int32.ofInt (n_0 t f (624 + 0))
    rw [n0_6 (by omega) (by omega)]
    rfl
  · rw [k2]
    show n_0 t f (624 + 0) = ((id 0 : Nat) : Int)
    rw [n0_6 (by omega) (by omega)]
    rfl
  · refine ⟨fun e he _ => ⟨e, he, rfl⟩, fun i j _ _ hij => hij, fun i j a b hi hj ha hb hai hbj _ _ => ?_⟩
    rw [k0] at ha hb
    rw [n0_6 (by omega) (by omega)] at hai hbj
    have hai : (a : Int) = (i : Nat) := hai
    have hbj : (b : Int) = (j : Nat) := hbj
    omega
end FR
