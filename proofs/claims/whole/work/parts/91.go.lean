/-! who is next: the pure picture -/
theorem least_ex {p : Nat → Prop} (h : ∃ k, p k) : ∃ k, p k ∧ ∀ i, i < k → ¬ p i := by
  obtain ⟨k, hk⟩ := h
  induction k using Nat.strongRecOn with
  | ind k ih =>
    rcases Classical.em (∃ i, i < k ∧ p i) with ⟨i, hi, hp⟩ | z
    · exact ih i hi hp
    · exact ⟨k, hk, fun i hi hp => z ⟨i, hi, hp⟩⟩
theorem most_ex {p : Nat → Bool} {f : Nat → Int} : ∀ {k : Nat}, (∃ e, e < k ∧ p e = true) → ∃ e, e < k ∧ p e = true ∧ ∀ o, o < k → p o = true → f o ≤ f e
  | 0, h => by obtain ⟨e, he, _⟩ := h; omega
  | k + 1, h => by
    rcases Classical.em (∃ e, e < k ∧ p e = true) with z | z
    · obtain ⟨e, he, hp, hm⟩ := most_ex (k := k) (f := f) z
      cases q : p k with
      | false =>
        refine ⟨e, by omega, hp, fun o ho hq => ?_⟩
        by_cases q2 : o = k
        · rw [q2, q] at hq
          cases hq
        · exact hm o (by omega) hq
      | true =>
        by_cases q3 : f k ≤ f e
        · refine ⟨e, by omega, hp, fun o ho hq => ?_⟩
          by_cases q2 : o = k
          · rw [q2]
            exact q3
          · exact hm o (by omega) hq
        · refine ⟨k, by omega, q, fun o ho hq => ?_⟩
          by_cases q2 : o = k
          · rw [q2]
            exact Int.le_refl _
          · have := hm o (by omega) hq
            omega
    · obtain ⟨e, he, hp⟩ := h
      obtain rfl : e = k := Classical.byContradiction (fun q => z ⟨e, by omega, hp⟩)
      refine ⟨e, by omega, hp, fun o ho hq => ?_⟩
      obtain rfl : o = e := Classical.byContradiction (fun q => z ⟨o, by omega, hq⟩)
      exact Int.le_refl _
def firstIn (n : sN) (a k : Nat) : Prop := a ≤ k ∧ (k : Int) < n 630 ∧ inE n ((n (624 + k)).toNat) = true ∧ ∀ i, a ≤ i → i < k → inE n ((n (624 + i)).toNat) = false
/-- who stays behind a cut -/
def sty (t : q_T) (n : sN) (c e : Nat) : Bool := inE n e && decide (grN t n (toF t n) e < t 15 c)
def styN (t : q_T) (n : sN) (c : Nat) : Nat := fb_ct (sty t n c) (t 8 0)
/-- by totals, of like ones the greater number first -/
def kyF (f : Nat → Int) (o : Nat) : Int := 10 * f o - o
def cutN (t : q_T) (n : sN) (c : Nat) (R : Nat → Nat) : sN := fun i =>
  if 612 ≤ i ∧ i < 612 + t 8 0 then (if inE n (i - 612) && !sty t n c (i - 612) then n 631 else n i)
  else if 618 ≤ i ∧ i < 618 + t 8 0 then (if sty t n c (i - 618) && decide (t 16 c = 1) then n 631 + 1 else n i)
  else if 624 ≤ i ∧ i < 624 + styN t n c then (R (i - 624) : Int)
  else if i = 630 then (styN t n c : Int) else n i
/-- the row behind a round's cut, if there is one -/
def isCt (t : q_T) (n n2 : sN) : Prop := (∃ c R, c < t 13 0 ∧ (t 14 c : Int) = n 631 ∧ isR (sty t n c) (kyF (toF t n)) (t 8 0) R ∧ n2 = cutN t n c R) ∨ ((∀ c, c < t 13 0 → ¬ (t 14 c : Int) = n 631) ∧ n2 = n)
def noIn (n : sN) (a : Nat) : Prop := ∀ i : Nat, a ≤ i → (i : Int) < n 630 → inE n ((n (624 + i)).toNat) = false
/-- the row behind goesOn -/
def isGo (t : q_T) (n n' : sN) : Prop := (inN t n = 0 ∧ n' = up n 633 1) ∨ (¬ inN t n = 0 ∧ ∃ k, firstIn n (n 632).toNat k ∧ n' = up n 632 k) ∨ (¬ inN t n = 0 ∧ noIn n (n 632).toNat ∧ ((n 631 = t 0 0 ∧ n' = up (up n 632 (n 630)) 633 1) ∨ (¬ n 631 = t 0 0 ∧ ∃ n2, isCt t (up n 632 (n 630)) n2 ∧ ∃ k, firstIn n2 0 k ∧ n' = up (up n2 631 (n 631 + 1)) 632 k)))
/-- ahead of it -/
def b_W (t : q_T) (n : sN) : Prop := (b_N t n ∧ b_X t n ∧ b_G t n ∧ b_K t n) ∧ (¬ t 0 0 = 0 ∧ n 633 = 0) ∧ b_M t n
section GO
variable {t : q_T} {n n' : sN}
theorem sty_t {c e : Nat} : sty t n c e = true ↔ inE n e = true ∧ grN t n (toF t n) e < t 15 c := by
  unfold sty
  rw [Bool.and_eq_true, decide_eq_true_eq]
theorem inN_ex (h : ¬ inN t n = 0) : ∃ e, e < t 8 0 ∧ inE n e = true := fb_ct_pos.mp (Nat.pos_of_ne_zero h)
theorem inN_no (h : inN t n = 0) : ∀ e, e < t 8 0 → inE n e = false := fb_ct_zero.mp h
theorem firstIn_ex {a : Nat} (h : ¬ noIn n a) : ∃ k, firstIn n a k := by
  have : ∃ i, a ≤ i ∧ (i : Int) < n 630 ∧ inE n ((n (624 + i)).toNat) = true := Classical.byContradiction (fun z => h (fun i h1 h2 => by
    cases q : inE n ((n (624 + i)).toNat) with
    | false => rfl
    | true => exact absurd ⟨i, h1, h2, q⟩ z))
  obtain ⟨k, ⟨h1, h2, h3⟩, h4⟩ := least_ex this
  refine ⟨k, h1, h2, h3, fun i hi hk => ?_⟩
  cases q : inE n ((n (624 + i)).toNat) with
  | false => rfl
  | true => exact absurd ⟨hi, by omega, q⟩ (h4 i hk)
theorem b_N.of (h : b_N t n) (h6 : t 8 0 ≤ 6) (h7 : t 0 0 ≤ 6) (h11 : t 2 0 ≤ 11) (hk : ∀ k, k < 612 → n' k = n k) (h1 : ∀ e, e < t 8 0 → (0 ≤ n' (612 + e) ∧ n' (612 + e) ≤ 7) ∧ (1 ≤ n' (618 + e) ∧ n' (618 + e) ≤ t 0 0)) : b_N t n' := by
  refine ⟨fun e he r hr => ?_, h1, fun e he r1 hr1 r2 hr2 => ?_⟩
  · exact (h.1 e he r hr).eq h11 (hk _ (by omega)) (fun j hj => hk _ (by omega)) (hk _ (by omega)) (hk _ (by omega)) (hk _ (by omega)) (hk _ (by omega)) (hk _ (by omega))
  · rw [hk _ (by omega), hk _ (by omega)]
    exact h.2.2 e he r1 hr1 r2 hr2
/-- the facts of the slots stand where only the tail moved, and fewer are in -/
theorem tail_of (h : b_N t n ∧ b_X t n ∧ b_G t n ∧ b_K t n) (h6 : t 8 0 ≤ 6) (h7 : t 0 0 ≤ 6) (h11 : t 2 0 ≤ 11) (hk : ∀ k, k < 612 → n' k = n k) (h1 : ∀ e, e < t 8 0 → (0 ≤ n' (612 + e) ∧ n' (612 + e) ≤ 7) ∧ (1 ≤ n' (618 + e) ∧ n' (618 + e) ≤ t 0 0)) (h2 : ∀ e, e < t 8 0 → inE n' e = true → inE n e = true) : b_N t n' ∧ b_X t n' ∧ b_G t n' ∧ b_K t n' := by
  refine ⟨h.1.of h6 h7 h11 hk h1, fun s hs q => ?_, fun e he q r hr => ?_, fun e he r hr q => ?_⟩
  · rw [hk _ (by omega)]
    exact h.2.1 s hs q
  · rw [hk _ (by omega), gvN_eq (fun r' hr' => hk _ (by omega))]
    exact h.2.2.1 e he (h2 e he q) r hr
  · rw [hk _ (by omega)] at q ⊢
    exact h.2.2.2 e he r hr q
theorem up_tail {k : Nat} {v : Int} (h : b_N t n ∧ b_X t n ∧ b_G t n ∧ b_K t n) (h6 : t 8 0 ≤ 6) (h7 : t 0 0 ≤ 6) (h11 : t 2 0 ≤ 11) (hk : 624 ≤ k) : b_N t (up n k v) ∧ b_X t (up n k v) ∧ b_G t (up n k v) ∧ b_K t (up n k v) := by
  refine tail_of h h6 h7 h11 (fun i hi => up_n (by omega)) (fun e he => ?_) (fun e he q => ?_)
  · rw [up_n (by omega), up_n (by omega)]
    exact h.1.2.1 e he
  · rw [inE_eq (up_n (by omega))] at q
    exact q
/-! behind a cut -/
section CU
variable {c : Nat} {R : Nat → Nat}
theorem cut_lo {i : Nat} (h : i < 612) : cutN t n c R i = n i := by
  unfold cutN
  have : styN t n c ≤ t 8 0 := fb_ct_le _ _
  rw [if_neg (by omega), if_neg (by omega), if_neg (by omega), if_neg (by omega)]
theorem cut_hi {i : Nat} (h : 631 ≤ i) (h6 : t 8 0 ≤ 6) : cutN t n c R i = n i := by
  unfold cutN
  have : styN t n c ≤ t 8 0 := fb_ct_le _ _
  rw [if_neg (by omega), if_neg (by omega), if_neg (by omega), if_neg (by omega)]
theorem cut_st {e : Nat} (he : e < t 8 0) : cutN t n c R (612 + e) = if inE n e && !sty t n c e then n 631 else n (612 + e) := by
  unfold cutN
  rw [if_pos (by omega), show 612 + e - 612 = e by omega]
theorem cut_fr {e : Nat} (he : e < t 8 0) (h6 : t 8 0 ≤ 6) : cutN t n c R (618 + e) = if sty t n c e && decide (t 16 c = 1) then n 631 + 1 else n (618 + e) := by
  unfold cutN
  rw [if_neg (by omega), if_pos (by omega), show 618 + e - 618 = e by omega]
theorem cut_or {i : Nat} (hi : i < styN t n c) (h6 : t 8 0 ≤ 6) : cutN t n c R (624 + i) = R i := by
  unfold cutN
  have : styN t n c ≤ t 8 0 := fb_ct_le _ _
  rw [if_neg (by omega), if_neg (by omega), if_pos (by omega), show 624 + i - 624 = i by omega]
theorem cut_n (h6 : t 8 0 ≤ 6) : cutN t n c R 630 = styN t n c := by
  unfold cutN
  have : styN t n c ≤ t 8 0 := fb_ct_le _ _
  rw [if_neg (by omega), if_neg (by omega), if_neg (by omega), if_pos rfl]
theorem cut_in {e : Nat} (he : e < t 8 0) (h : 1 ≤ n 631) : inE (cutN t n c R) e = sty t n c e := by
  unfold inE
  rw [cut_st he]
  cases q : sty t n c e with
  | true =>
    have := (sty_t.mp q).1
    unfold inE at this
    rw [Bool.not_true, Bool.and_false, if_neg (by decide)]
    exact this
  | false =>
    cases q2 : inE n e with
    | true => 
      rw [if_pos (by decide)]
      exact decide_eq_false (by omega)
    | false =>
      rw [if_neg (by decide)]
      exact q2
end CU
theorem isCt_ex {m : sN} (h2 : b_T2 t) (h6 : t 8 0 ≤ 6) (m1 : 1 ≤ m 631) (q : ¬ inN t m = 0) (m8 : ∀ e, e < t 8 0 → inE m e = true → ∃ a : Nat, (a : Int) < m 630 ∧ m (624 + a) = e) : ∃ n2, isCt t m n2 ∧ ∃ k, firstIn n2 0 k := by
  rcases Classical.em (∃ c, c < t 13 0 ∧ (t 14 c : Int) = m 631) with ⟨c, hc, e⟩ | z
  · obtain ⟨R, hR⟩ := isR_ex (A := sty t m c) (c := kyF (toF t m)) (k := t 8 0)
    refine ⟨cutN t m c R, Or.inl ⟨c, R, hc, e, hR, rfl⟩, ?_⟩
    obtain ⟨x, hx, hi, hm⟩ := most_ex (f := toF t m) (inN_ex q)
    have b := h2.2.1 c hc
    have hs : sty t m c x = true := sty_t.mpr ⟨hi, by
      have : grN t m (toF t m) x = 0 := fb_ct_zero.mpr (fun o ho => by
        cases q3 : inE m o with
        | false => rfl
        | true => rw [Bool.true_and]; exact decide_eq_false (by have := hm o ho q3; omega))
      omega⟩
    have h0 : 0 < styN t m c := fb_ct_pos.mpr ⟨x, hx, hs⟩
    have r0 := hR 0 h0
    refine ⟨0, Nat.le_refl _, by rw [cut_n h6]; omega, ?_, fun i h1 h2 => by omega⟩
    show inE (cutN t m c R) (cutN t m c R (624 + 0)).toNat = true
    rw [cut_or h0 h6, Int.toNat_natCast, cut_in r0.1 m1]
    exact r0.2.1
  · refine ⟨m, Or.inr ⟨fun c hc e => z ⟨c, hc, e⟩, rfl⟩, firstIn_ex (fun z2 => ?_)⟩
    obtain ⟨x, hx, hi⟩ := inN_ex q
    obtain ⟨a, a1, a2⟩ := m8 x hx hi
    have := z2 a (Nat.zero_le _) a1
    rw [show (m (624 + a)).toNat = x by show (m (624 + a)).toNat = x; rw [a2]; rfl, hi] at this
    cases this
theorem inN_eq {m : sN} (h : ∀ e, e < t 8 0 → m (612 + e) = n (612 + e)) : inN t m = inN t n := by
  unfold inN
  exact fb_ct_cong (fun e he => inE_eq (h e he))
theorem isGo_ex (h : b_W t n) (h2 : b_T2 t) (h6 : t 8 0 ≤ 6) : ∃ n', isGo t n n' := by
  by_cases q : inN t n = 0
  · exact ⟨_, Or.inl ⟨q, rfl⟩⟩
  rcases Classical.em (noIn n (n 632).toNat) with q1 | q1
  · by_cases q2 : n 631 = t 0 0
    · exact ⟨_, Or.inr (Or.inr ⟨q, q1, Or.inl ⟨q2, rfl⟩⟩)⟩
    · obtain ⟨⟨m1, m2⟩, ⟨m3, m4⟩, m5, m6, m7, m8⟩ := h.2.2
      obtain ⟨n2, hn, k, hk⟩ := isCt_ex (t := t) (m := up n 632 (n 630)) h2 h6 (by rw [up_n (by omega)]; exact m1) (by rw [inN_eq (n := n) (fun e he => up_n (by omega))]; exact q) (fun e he hi => by
        rw [inE_eq (up_n (by omega))] at hi
        obtain ⟨-, a, a1, a2, -⟩ := m8 e he hi
        exact ⟨a, by rw [up_n (by omega)]; exact a1, by rw [up_n (by omega)]; exact a2⟩)
      exact ⟨_, Or.inr (Or.inr ⟨q, q1, Or.inr ⟨q2, n2, hn, k, hk, rfl⟩⟩)⟩
  · obtain ⟨k, hk⟩ := firstIn_ex q1
    exact ⟨_, Or.inr (Or.inl ⟨q, k, hk, rfl⟩)⟩
theorem rnd_J {n2 : sN} {k : Nat} (h1 : b_N t n ∧ b_X t n ∧ b_G t n ∧ b_K t n) (h0 : ¬ t 0 0 = 0) (h33 : n 633 = 0) (m1 : 1 ≤ n 631) (m2 : n 631 ≤ t 0 0) (q2 : ¬ n 631 = t 0 0) (m4 : n 630 ≤ t 8 0) (m6 : ∀ a : Nat, (a : Int) < n 630 → 0 ≤ n (624 + a) ∧ n (624 + a) < t 8 0) (m7 : ∀ a b : Nat, (a : Int) < n 630 → (b : Int) < n 630 → n (624 + a) = n (624 + b) → a = b) (m8 : ∀ e : Nat, e < t 8 0 → inE n e = true → n (618 + e) ≤ n 631 ∧ ∃ a : Nat, (a : Int) < n 630 ∧ n (624 + a) = e) (full : ∀ e, e < t 8 0 → inE n e = true → (gvN t n e : Int) = n 631) (h2 : b_T2 t) (h6 : t 8 0 ≤ 6) (h7 : t 0 0 ≤ 6) (h11 : t 2 0 ≤ 11) (hn : isCt t n n2) (hk : firstIn n2 0 k) : b_J t (up (up n2 631 (n 631 + 1)) 632 (k : Int)) := by
  -- the same of both kinds of rows behind the round
  have K : (∀ i, i < 612 → n2 i = n i) ∧ (∀ i, 631 ≤ i → n2 i = n i) ∧ (∀ e, e < t 8 0 → (0 ≤ n2 (612 + e) ∧ n2 (612 + e) ≤ 7) ∧ (1 ≤ n2 (618 + e) ∧ n2 (618 + e) ≤ t 0 0)) ∧ (∀ e, e < t 8 0 → inE n2 e = true → inE n e = true ∧ n2 (618 + e) ≤ n 631 + 1 ∧ ∃ a : Nat, (a : Int) < n2 630 ∧ n2 (624 + a) = e) ∧ n2 630 ≤ t 8 0 ∧ (∀ a : Nat, (a : Int) < n2 630 → 0 ≤ n2 (624 + a) ∧ n2 (624 + a) < t 8 0) ∧ (∀ a b : Nat, (a : Int) < n2 630 → (b : Int) < n2 630 → n2 (624 + a) = n2 (624 + b) → a = b) := by
    rcases hn with ⟨c, R, hc, e, hR, rfl⟩ | ⟨-, rfl⟩
    · have sN : styN t n c ≤ t 8 0 := fb_ct_le _ _
      have b := h2.2.1 c hc
      refine ⟨fun i hi => cut_lo hi, fun i hi => cut_hi hi h6, fun e he => ?_, fun e he hi => ?_, by rw [cut_n h6]; omega, fun a ha => ?_, fun a b ha hb hab => ?_⟩
      · have x := h1.1.2.1 e he
        rw [cut_st he, cut_fr he h6]
        constructor
        · split <;> omega
        · split <;> omega
      · rw [cut_in he m1] at hi
        have hi2 := (sty_t.mp hi).1
        obtain ⟨c1, -⟩ := m8 e he hi2
        have t1 := rk_top (c := kyF (toF t n)) hi he
        refine ⟨hi2, ?_, rk (sty t n c) (kyF (toF t n)) (t 8 0) e, by rw [cut_n h6]; exact Int.ofNat_lt.mpr t1, ?_⟩
        · rw [cut_fr he h6]
          split <;> omega
        · rw [cut_or t1 h6, hR.at hi he]
      · rw [cut_n h6] at ha
        have := hR a (Int.ofNat_lt.mp ha)
        rw [cut_or (Int.ofNat_lt.mp ha) h6]
        omega
      · rw [cut_n h6] at ha hb
        rw [cut_or (Int.ofNat_lt.mp ha) h6, cut_or (Int.ofNat_lt.mp hb) h6] at hab
        have a1 := hR a (Int.ofNat_lt.mp ha)
        have b1 := hR b (Int.ofNat_lt.mp hb)
        rw [← a1.2.2, ← b1.2.2, show R a = R b by omega]
    · refine ⟨fun _ _ => rfl, fun _ _ => rfl, h1.1.2.1, fun e he hi => ?_, m4, m6, m7⟩
      obtain ⟨c1, a, c2, c3⟩ := m8 e he hi
      exact ⟨hi, by omega, a, c2, c3⟩
  obtain ⟨K1, K2, K3, K4, K5, K6, K7⟩ := K
  obtain ⟨k1, k2, k3, k4⟩ := hk
  have eo : ∀ i, i < 631 → up (up n2 631 (n 631 + 1)) 632 (k : Int) i = n2 i := fun i hi => (up_n (by omega)).trans (up_n (by omega))
  have e1 : up (up n2 631 (n 631 + 1)) 632 (k : Int) 631 = n 631 + 1 := (up_n (by omega)).trans up_s
  have ei : ∀ e, e < t 8 0 → inE (up (up n2 631 (n 631 + 1)) 632 (k : Int)) e = inE n2 e := fun e he => inE_eq (eo _ (by omega))
  have kb := K6 k k2
  refine ⟨tail_of h1 h6 h7 h11 (fun i hi => (eo i (by omega)).trans (K1 i hi)) (fun e he => ?_) (fun e he hi => ?_), ⟨Or.inl ?_, fun z => absurd z h0⟩, fun _ => ⟨?_, ?_, ?_⟩⟩
  · rw [eo _ (by omega), eo _ (by omega)]
    exact K3 e he
  · rw [ei e he] at hi
    exact (K4 e he hi).1
  · rw [up_n (by omega), up_n (by omega), K2 _ (by omega)]
    exact h33
  · unfold b_M
    rw [e1, eo 630 (by omega), up_s]
    refine ⟨⟨by omega, by omega⟩, ⟨by omega, K5⟩, ⟨by omega, by omega⟩, fun a ha => ?_, fun a b ha hb => ?_, fun e he hi => ?_⟩
    · rw [eo _ (by omega)]
      exact K6 a ha
    · rw [eo _ (by omega), eo _ (by omega)]
      exact K7 a b ha hb
    · rw [ei e he] at hi
      obtain ⟨c0, c1, a, c2, c3⟩ := K4 e he hi
      rw [eo _ (by omega)]
      refine ⟨c1, a, c2, by rw [eo _ (by omega)]; exact c3, ?_⟩
      rw [gvN_eq (n := n) (fun r hr => (eo _ (by omega)).trans (K1 _ (by omega))), full e he c0, if_neg]
      · omega
      · intro z
        have := k4 a (Nat.zero_le _) (by omega)
        rw [show (n2 (624 + a)).toNat = e by show (n2 (624 + a)).toNat = e; rw [c3]; rfl, hi] at this
        cases this
  · rw [eo 630 (by omega), up_s]
    exact k2
  · rw [up_s, Int.toNat_natCast, eo (624 + k) (by omega), ei _ (by omega)]
    exact k3
/-- the order's facts, over a round's begin -/
theorem isGo.J (h : b_W t n) (h2 : b_T2 t) (h6 : t 8 0 ≤ 6) (h7 : t 0 0 ≤ 6) (h11 : t 2 0 ≤ 11) (hg : isGo t n n') : b_J t n' := by
  obtain ⟨h1, ⟨h0, h33⟩, ⟨m1, m2⟩, ⟨m3, m4⟩, m5, m6, m7, m8⟩ := h
  rcases hg with ⟨q, rfl⟩ | ⟨q, k, hk, rfl⟩ | ⟨q, q1, ⟨q2, rfl⟩ | ⟨q2, n2, hn, k, hk, rfl⟩⟩
  · refine ⟨up_tail h1 h6 h7 h11 (by omega), ⟨Or.inr up_s, fun z => absurd z h0⟩, fun z => absurd up_s z.2⟩
  · obtain ⟨k1, k2, k3, k4⟩ := hk
    have eo : ∀ i, i < 632 → up n 632 (k : Int) i = n i := fun i hi => up_n (by omega)
    have ei : ∀ e, e < t 8 0 → inE (up n 632 (k : Int)) e = inE n e := fun e he => inE_eq (eo _ (by omega))
    have kb := m6 k k2
    refine ⟨up_tail h1 h6 h7 h11 (by omega), ⟨Or.inl (by rw [up_n (by omega)]; exact h33), fun z => absurd z h0⟩, fun _ => ⟨?_, ?_, ?_⟩⟩
    · unfold b_M
      rw [eo 631 (by omega), eo 630 (by omega), up_s]
      refine ⟨⟨m1, m2⟩, ⟨m3, m4⟩, ⟨by omega, by omega⟩, fun a ha => ?_, fun a b ha hb => ?_, fun e he hi => ?_⟩
      · rw [eo _ (by omega)]
        exact m6 a ha
      · rw [eo _ (by omega), eo _ (by omega)]
        exact m7 a b ha hb
      · rw [ei e he] at hi
        obtain ⟨c1, a, c2, c3, c4⟩ := m8 e he hi
        rw [eo _ (by omega), gvN_eq (fun r hr => eo _ (by omega))]
        refine ⟨c1, a, c2, by rw [eo _ (by omega)]; exact c3, ?_⟩
        rw [c4]
        have : (a : Int) < n 632 ↔ (a : Int) < (k : Int) := by
          constructor
          · intro z
            omega
          · intro z
            refine Classical.byContradiction (fun y => ?_)
            have := k4 a (by omega) (by omega)
            rw [show (n (624 + a)).toNat = e by show (n (624 + a)).toNat = e; rw [c3]; rfl, hi] at this
            cases this
        by_cases z : (a : Int) < n 632
        · rw [if_pos z, if_pos (this.mp z)]
        · rw [if_neg z, if_neg (fun y => z (this.mpr y))]
    · rw [eo 630 (by omega), up_s]
      exact k2
    · rw [up_s, Int.toNat_natCast, eo (624 + k) (by omega), ei _ (by omega)]
      exact k3
  · refine ⟨up_tail (up_tail h1 h6 h7 h11 (by omega)) h6 h7 h11 (by omega), ⟨Or.inr up_s, fun z => absurd z h0⟩, fun z => absurd up_s z.2⟩
  · have full : ∀ e, e < t 8 0 → inE n e = true → (gvN t n e : Int) = n 631 := fun e he hi => by
      obtain ⟨c1, a, c2, c3, c4⟩ := m8 e he hi
      rw [c4]
      rw [if_pos]
      · omega
      · refine Classical.byContradiction (fun y => ?_)
        have := q1 a (by omega) c2
        rw [show (n (624 + a)).toNat = e by show (n (624 + a)).toNat = e; rw [c3]; rfl, hi] at this
        cases this
    have eo : ∀ i, ¬ i = 632 → up n 632 (n 630) i = n i := fun i hi => up_n hi
    have ei : ∀ e, e < t 8 0 → inE (up n 632 (n 630)) e = inE n e := fun e he => inE_eq (eo _ (by omega))
    have key := rnd_J (n := up n 632 (n 630)) (n2 := n2) (k := k) (up_tail h1 h6 h7 h11 (by omega)) h0 (by rw [eo _ (by omega)]; exact h33) (by rw [eo _ (by omega)]; exact m1) (by rw [eo _ (by omega)]; exact m2) (by rw [eo _ (by omega)]; exact q2) (by rw [eo _ (by omega)]; exact m4) (fun a ha => by rw [eo _ (by omega)] at ha; rw [eo _ (by omega)]; exact m6 a ha) (fun a b ha hb => by rw [eo _ (by omega)] at ha hb; rw [eo _ (by omega), eo _ (by omega)]; exact m7 a b ha hb) (fun e he hi => by
      rw [ei e he] at hi
      obtain ⟨c1, a, c2, c3, c4⟩ := m8 e he hi
      rw [eo _ (by omega), eo _ (by omega), eo _ (by omega)]
      exact ⟨c1, a, c2, by rw [eo _ (by omega)]; exact c3⟩) (fun e he hi => by
      rw [ei e he] at hi
      rw [eo _ (by omega), gvN_eq (n := n) (fun r hr => eo _ (by omega))]
      exact full e he hi) h2 h6 h7 h11 hn hk
    rw [eo 631 (by omega)] at key
    exact key
end GO
