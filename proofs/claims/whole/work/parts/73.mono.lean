/-! more marks, no fewer points -/
section MO
variable {A : Nat → Bool} {c c' : Nat → Int} {k : Nat}
theorem isR_ex : ∃ R, isR A c k R := by
  have en : ∀ i, i < fb_ct A k → ∃ j, j < k ∧ A j = true ∧ fb_ct A j = i := fun i hi => fb_ct_kth hi
  have en2 : ∃ f : Nat → Nat, ∀ i, i < fb_ct A k → f i < k ∧ A (f i) = true ∧ fb_ct A (f i) = i := by
    refine ⟨fun i => if h : i < fb_ct A k then Classical.choose (en i h) else 0, fun i hi => ?_⟩
    dsimp only
    rw [dif_pos hi]
    exact Classical.choose_spec (en i hi)
  obtain ⟨f, hf⟩ := en2
  have on : ∀ q, q < fb_ct A k → ∃ i, i < fb_ct A k ∧ rk A c k (f i) = q := fun q hq => fb_onto (f := fun i => rk A c k (f i)) (fun i hi => rk_top (hf i hi).2.1 (hf i hi).1) (fun i j hij hj e => by
    have a := hf i (by omega)
    have b := hf j hj
    have e2 := rk_inj a.2.1 b.2.1 a.1 b.1 e
    have := a.2.2
    rw [e2, b.2.2] at this
    omega) hq
  refine ⟨fun q => if h : q < fb_ct A k then f (Classical.choose (on q h)) else 0, fun q hq => ?_⟩
  dsimp only
  rw [dif_pos hq]
  have s := Classical.choose_spec (on q hq)
  exact ⟨(hf _ s.1).1, (hf _ s.1).2.1, s.2⟩
theorem isR.le {R R' : Nat → Nat} (h : isR A c k R) (h' : isR A c' k R') (hc : ∀ j, j < k → A j = true → c j ≤ c' j) {q : Nat} (hq : q < fb_ct A k) : c (R q) ≤ c' (R' q) := by
  refine Classical.byContradiction (fun z => ?_)
  have a := h q hq
  have b := h' q hq
  have e := h'.ct (q + 1) (by omega)
  have l : fb_ct (fun i => A i && decide (rk A c' k i < q + 1)) k ≤ rk A c k (R q) := fb_ct_sub (fun i hi hz => by
    rw [Bool.and_eq_true, decide_eq_true_eq] at hz
    have h1 := rk_le hz.1 b.2.1 hi b.1 (c := c') (by rw [b.2.2]; omega)
    have h2 := hc i hi hz.1
    rw [hz.1, bfr_iff.mpr (Or.inl (by omega))]
    rfl)
  rw [a.2.2] at l
  omega
theorem si_mono {f g : Nat → Int} : ∀ {m : Nat}, (∀ i, i < m → f i ≤ g i) → fb_si f m ≤ fb_si g m
  | 0, _ => Int.le_refl _
  | m + 1, h => by
    have a := si_mono (m := m) (fun i hi => h i (by omega))
    have b := h m (by omega)
    rw [fb_si_succ, fb_si_succ]
    omega
theorem si_zero {f : Nat → Int} : ∀ {m : Nat}, (∀ i, i < m → f i = 0) → fb_si f m = 0
  | 0, _ => rfl
  | m + 1, h => by rw [fb_si_succ, si_zero (m := m) (fun i hi => h i (by omega)), h m (by omega)]; rfl
theorem si_one {v : Nat → Int} {a : Nat} : ∀ {k : Nat}, a < k → fb_si (fun j => if j = a then v j else 0) k = v a
  | 0, h => absurd h (Nat.not_lt_zero _)
  | k + 1, h => by
    rw [fb_si_succ]
    by_cases q : k = a
    · rw [if_pos q, si_zero (fun i hi => if_neg (by omega)), q, Int.zero_add]
    · rw [if_neg q, si_one (k := k) (by omega), Int.add_zero]
theorem isR.si {R : Nat → Nat} (h : isR A c k R) (v : Nat → Int) : ∀ u, u ≤ fb_ct A k → fb_si (fun j => if A j = true ∧ rk A c k j < u then v j else 0) k = fb_si (fun q => v (R q)) u := by
  intro u
  induction u with
  | zero => intro _; exact si_zero (fun i hi => if_neg (by omega))
  | succ u ih =>
    intro hu
    have h1 := h u (by omega)
    rw [fb_si_succ, ← ih (by omega), ← si_one (v := v) h1.1, ← fb_si_add]
    refine fb_si_cong (fun j hj => ?_)
    by_cases q : j = R u
    · subst q
      rw [if_pos ⟨h1.2.1, by omega⟩, if_neg (by omega), if_pos rfl, Int.zero_add]
    · rw [if_neg q, Int.add_zero]
      by_cases hA : A j = true
      · have : ¬ rk A c k j = u := fun z => q (by rw [← z]; exact (h.at hA hj).symm)
        by_cases q2 : rk A c k j < u
        · rw [if_pos ⟨hA, by omega⟩, if_pos ⟨hA, q2⟩]
        · rw [if_neg (by omega), if_neg (by omega)]
      · rw [if_neg (fun z => hA z.1), if_neg (fun z => hA z.1)]
theorem isR.mid {R : Nat → Nat} (h : isR A c k R) (v : Nat → Int) {a b : Nat} (hab : a ≤ b) (hb : b ≤ fb_ct A k) : fb_si (fun j => if A j = true ∧ a ≤ rk A c k j ∧ rk A c k j < b then v j else 0) k = fb_si (fun i => v (R (a + i))) (b - a) := by
  have e1 := h.si v b hb
  have e2 := h.si v a (by omega)
  have e3 := fb_si_split (fun q => v (R q)) a (b - a)
  rw [show a + (b - a) = b by omega] at e3
  have e4 : fb_si (fun j => if A j = true ∧ rk A c k j < b then v j else 0) k = fb_si (fun j => if A j = true ∧ a ≤ rk A c k j ∧ rk A c k j < b then v j else 0) k + fb_si (fun j => if A j = true ∧ rk A c k j < a then v j else 0) k := by
    rw [← fb_si_add]
    refine fb_si_cong (fun j hj => ?_)
    by_cases hA : A j = true
    · by_cases q1 : rk A c k j < a
      · rw [if_pos ⟨hA, by omega⟩, if_neg (by omega), if_pos ⟨hA, q1⟩, Int.zero_add]
      · by_cases q2 : rk A c k j < b
        · rw [if_pos ⟨hA, q2⟩, if_pos ⟨hA, by omega, q2⟩, if_neg (by omega), Int.add_zero]
        · rw [if_neg (by omega), if_neg (by omega), if_neg (by omega)]
          rfl
    · rw [if_neg (fun z => hA z.1), if_neg (fun z => hA z.1), if_neg (fun z => hA z.1)]
      rfl
  omega
end MO
section MP
variable {t : q_T} {S : Nat → Bool} {c c' : Nat → Int} {dr : Nat}
/-- a sort's kept, weighed -/
def kS (t : q_T) (S : Nat → Bool) (c : Nat → Int) (dr : Nat) (v : Nat → Int) (s : Nat) : Int := fb_si (fun j => if ofS t S s j = true ∧ dwn dr (pan t S s) ≤ rk (ofS t S s) c (t 2 0) j ∧ rk (ofS t S s) c (t 2 0) j < pan t S s - dwn dr (pan t S s) then v j else 0) (t 2 0)
theorem kpt_s (v : Nat → Int) (h4 : ∀ j, j < t 2 0 → t 4 j ≤ 3) : fb_si (fun j => if kpt t S c dr j then v j else 0) (t 2 0) = kS t S c dr v 0 + kS t S c dr v 1 + kS t S c dr v 2 + kS t S c dr v 3 := by
  unfold kS
  rw [← fb_si_add, ← fb_si_add, ← fb_si_add]
  refine fb_si_cong (fun j hj => ?_)
  have h := h4 j hj
  have off : ∀ s, ¬ t 4 j = s → (if ofS t S s j = true ∧ dwn dr (pan t S s) ≤ rk (ofS t S s) c (t 2 0) j ∧ rk (ofS t S s) c (t 2 0) j < pan t S s - dwn dr (pan t S s) then v j else 0) = 0 := fun s hs => if_neg (fun z => hs (ofS_t.mp z.1).2)
  have on : ∀ s, t 4 j = s → (if ofS t S s j = true ∧ dwn dr (pan t S s) ≤ rk (ofS t S s) c (t 2 0) j ∧ rk (ofS t S s) c (t 2 0) j < pan t S s - dwn dr (pan t S s) then v j else 0) = if kpt t S c dr j then v j else 0 := fun s hs => by
    have e : (ofS t S s j = true ∧ dwn dr (pan t S s) ≤ rk (ofS t S s) c (t 2 0) j ∧ rk (ofS t S s) c (t 2 0) j < pan t S s - dwn dr (pan t S s)) ↔ kpt t S c dr j = true := by
      have e0 : kpt t S c dr j = true ↔ S j = true ∧ (if rk (ofS t S s) c (t 2 0) j < dwn dr (pan t S s) then 0 else if pan t S s - dwn dr (pan t S s) ≤ rk (ofS t S s) c (t 2 0) j then 1 else 2) = 2 := by
        unfold kpt fat
        rw [Bool.and_eq_true, decide_eq_true_eq, plc_rk hs, hs]
      rw [e0]
      constructor
      · rintro ⟨a, b, e⟩
        exact ⟨(ofS_t.mp a).1, by rw [if_neg (by omega), if_neg (by omega)]⟩
      · rintro ⟨a, b⟩
        refine ⟨ofS_t.mpr ⟨a, hs⟩, ?_⟩
        split at b
        · omega
        · split at b
          · omega
          · omega
    by_cases q : kpt t S c dr j = true
    · rw [if_pos (e.mpr q), if_pos q]
    · rw [if_neg (fun z => q (e.mp z)), if_neg q]
  obtain z | z | z | z : t 4 j = 0 ∨ t 4 j = 1 ∨ t 4 j = 2 ∨ t 4 j = 3 := by omega
  · rw [on 0 z, off 1 (by omega), off 2 (by omega), off 3 (by omega)]; omega
  · rw [off 0 (by omega), on 1 z, off 2 (by omega), off 3 (by omega)]; omega
  · rw [off 0 (by omega), off 1 (by omega), on 2 z, off 3 (by omega)]; omega
  · rw [off 0 (by omega), off 1 (by omega), off 2 (by omega), on 3 z]; omega
theorem dw_le (dr p : Nat) : dwn dr p ≤ p - dwn dr p := by
  unfold dwn
  omega
theorem kS_le (s : Nat) (hc : ∀ j, j < t 2 0 → S j = true → c j ≤ c' j) : kS t S c dr c s ≤ kS t S c' dr c' s := by
  obtain ⟨R, hR⟩ := isR_ex (A := ofS t S s) (c := c) (k := t 2 0)
  obtain ⟨R', hR'⟩ := isR_ex (A := ofS t S s) (c := c') (k := t 2 0)
  have hd := dw_le dr (pan t S s)
  have hp : pan t S s = fb_ct (ofS t S s) (t 2 0) := rfl
  unfold kS
  rw [hR.mid c hd (by omega), hR'.mid c' hd (by omega)]
  refine si_mono (fun i hi => hR.le hR' (fun j hj hA => hc j hj (ofS_t.mp hA).1) (by omega))
theorem kS_1 (s : Nat) : kS t S c dr (fun _ => 1) s = kS t S c' dr (fun _ => 1) s := by
  obtain ⟨R, hR⟩ := isR_ex (A := ofS t S s) (c := c) (k := t 2 0)
  obtain ⟨R', hR'⟩ := isR_ex (A := ofS t S s) (c := c') (k := t 2 0)
  have hd := dw_le dr (pan t S s)
  have hp : pan t S s = fb_ct (ofS t S s) (t 2 0) := rfl
  unfold kS
  rw [hR.mid _ hd (by omega), hR'.mid _ hd (by omega)]
theorem ct_si {p : Nat → Bool} : ∀ {k : Nat}, (fb_ct p k : Int) = fb_si (fun j => if p j then 1 else 0) k
  | 0 => rfl
  | k + 1 => by
    rw [fb_si_succ, ← ct_si (k := k), fb_ct_succ]
    split <;> simp
theorem kpt_n (h4 : ∀ j, j < t 2 0 → t 4 j ≤ 3) : fb_ct (kpt t S c dr) (t 2 0) = fb_ct (kpt t S c' dr) (t 2 0) := by
  have a : (fb_ct (kpt t S c dr) (t 2 0) : Int) = fb_ct (kpt t S c' dr) (t 2 0) := by
    rw [ct_si, ct_si, kpt_s (fun _ => 1) h4, kpt_s (fun _ => 1) h4, kS_1 (c := c) (c' := c') 0, kS_1 (c := c) (c' := c') 1, kS_1 (c := c) (c' := c') 2, kS_1 (c := c) (c' := c') 3]
  omega
theorem smS_le (h4 : ∀ j, j < t 2 0 → t 4 j ≤ 3) (hc : ∀ j, j < t 2 0 → S j = true → c j ≤ c' j) : smS t S c dr (t 2 0) ≤ smS t S c' dr (t 2 0) := by
  unfold smS
  rw [kpt_s c h4, kpt_s c' h4]
  have a := kS_le (dr := dr) 0 hc
  have b := kS_le (dr := dr) 1 hc
  have e := kS_le (dr := dr) 2 hc
  have f := kS_le (dr := dr) 3 hc
  omega
theorem ptS_le {deg : Int} (h4 : ∀ j, j < t 2 0 → t 4 j ≤ 3) (hc : ∀ j, j < t 2 0 → S j = true → c j ≤ c' j) (h0 : ∀ j, j < t 2 0 → S j = true → 0 ≤ c j ∧ c' j ≤ 20) (hd : 0 ≤ deg) : ptS t S c dr deg ≤ ptS t S c' dr deg := by
  have hs := smS_le (dr := dr) h4 hc
  have hb := (smS_b (t := t) (S := S) (c := c) (dr := dr) (k := t 2 0) (fun j hj z => ⟨(h0 j hj z).1, by have := hc j hj z; have := h0 j hj z; omega⟩)).1
  unfold ptS
  rw [kpt_n (c := c) (c' := c') h4]
  split
  · exact Int.le_refl _
  · next hn =>
    generalize smS t S c dr (t 2 0) = x at *
    generalize smS t S c' dr (t 2 0) = y at *
    generalize fb_ct (kpt t S c' dr) (t 2 0) = z at *
    have p1 : 0 ≤ x * 15 * deg := Int.mul_nonneg (by omega) hd
    have p2 : x * 15 * deg ≤ y * 15 * deg := Int.mul_le_mul_of_nonneg_right (by omega) hd
    rw [Int.tdiv_eq_ediv_of_nonneg p1, Int.tdiv_eq_ediv_of_nonneg (by omega)]
    exact Int.ediv_le_ediv (Int.natCast_pos.mpr (Nat.pos_of_ne_zero hn)) p2
theorem cvl_le {cap bal hal m m' : Int} {s : Nat} (h : m ≤ m') : cvl cap bal hal s m ≤ cvl cap bal hal s m' := by
  have h1 : cv1 hal s (min m cap) ≤ cv1 hal s (min m' cap) := by unfold cv1; split <;> omega
  have h2 : cv2 hal s (cv1 hal s (min m cap)) ≤ cv2 hal s (cv1 hal s (min m' cap)) := by unfold cv2; split <;> omega
  unfold cvl cv3
  split
  · unfold clp
    repeat' split
    all_goals omega
  · exact h2
end MP
