/-! what is always so of a draft: dives, entrants, forms, lists -/
section BE
variable {t t' : q_T} {x : Nat → Nat} {len : Nat} {tok : Nat → Tok} {T i j : Nat}
theorem namP_t {k : Nat} {u : Unit} (h : namP t x len tok i = .inr (u, k)) : k = i + 1 ∧ (tok i).1 = 2 := by
  unfold namP at h
  split at h
  · next q =>
    split at h
    · cases h
    · cases h; exact ⟨rfl, q⟩
  · cases h
theorem bD_dive (hT : g_T x len tok T) (h : diveP t x len tok i = .inr (t', j)) (d10 : t 5 0 < 10) (b : bD t i) : bD t' j ∧ i < j ∧ t' 0 0 = t 0 0 ∧ t' 8 0 = t 8 0 := by
  unfold diveP at h
  obtain ⟨_, k1, n1, h⟩ := bd_r h
  obtain ⟨_, k2, n2, h⟩ := bd_r h
  obtain ⟨a, k3, n3, h⟩ := bd_r h
  obtain ⟨_, k4, n4, h⟩ := bd_r h
  obtain ⟨c, k5, n5', h⟩ := bd_r h
  cases h
  obtain ⟨w1, z1⟩ := namP_t n1
  have w2 := wrdP_t n2
  obtain ⟨-, -, a1, a2, a3⟩ := numP_t n3
  have w4 := wrdP_t n4
  obtain ⟨-, -, c1, c2, c3⟩ := numP_t n5'
  obtain ⟨bt, bc, bn, bf, bl, bw⟩ := b
  obtain ⟨⟨d1, d2, d3⟩, d4, d5, ⟨d6, d7⟩, er⟩ := div_t (t := t) (x := x) (len := len) (i := i + 1) (a := a) (b := c) d10
  have l6 := bt.2.2.2.2.2.2.1
  refine ⟨⟨?_, ?_, ⟨fun q hq => ?_, fun q hq => ?_⟩, ?_, ?_, bw.eq (er _ (by omega)) (er _ (by omega)) (fun l hl => er _ (by omega)) l6 (by omega)⟩, by omega, by rw [er 0 (by omega)], by rw [er 8 (by omega)]⟩
  · obtain ⟨b0, b1, b2, b5, b8, b13, b17, bj, bd', be⟩ := bt
    refine ⟨by rw [er 0 (by omega)]; exact b0, by rw [er 1 (by omega)]; exact b1, by rw [er 2 (by omega)]; exact b2, by rw [d1]; omega, by rw [er 8 (by omega)]; exact b8, by rw [er 13 (by omega)]; exact b13, by rw [er 17 (by omega)]; exact b17, fun q hq => ?_, fun q hq => ?_, fun q hq => ?_⟩
    · rw [er 2 (by omega)] at hq
      rw [er 3 (by omega), er 4 (by omega)]
      exact bj q hq
    · rw [d1] at hq
      by_cases w : q = t 5 0
      · subst w
        rw [d2, d3]
        omega
      · rw [(d4 q (by omega)).1, (d4 q (by omega)).2]
        exact bd' q (by omega)
    · rw [er 8 (by omega)] at hq
      rw [er 9 (by omega), er 10 (by omega)]
      exact be q hq
  · unfold bCt at bc ⊢
    rw [er 13 (by omega), er 14 (by omega), er 15 (by omega), er 16 (by omega), er 0 (by omega)]
    exact bc
  · rw [d1] at hq
    by_cases w : q = t 5 0
    · subst w
      rw [Nat.zero_add]
      exact tkN_O hT z1 d6 d7
    · refine nmO_eq ?_ (er _ (by omega)) (bn.1 q (by omega))
      exact d5 _ (by omega)
  · rw [er 8 (by omega)] at hq
    have e6 := bt.2.2.2.2.1
    exact nmO_eq (d5 _ (by omega)) (er _ (by omega)) (bn.2 q hq)
  · unfold bFo at bf ⊢
    rw [er 8 (by omega), er 12 (by omega)]
    exact bf
  · obtain ⟨l1, l2, l3⟩ := bl
    refine ⟨fun s hs => ?_, fun s hs hse => ?_, fun e he => ?_⟩
    · rw [er 11 (by omega), d1]
      have := l1 s hs
      omega
    · rw [er 8 (by omega)] at hse
      rw [er 11 (by omega), er 12 (by omega)]
      exact l2 s hs hse
    · rw [er 8 (by omega)] at he
      rw [er 11 (by omega), er 0 (by omega)]
      exact l3 e he
theorem bD_entr {p : Nat} (hp : p ≤ 1) (hT : g_T x len tok T) (h : entP p t x len tok i = .inr (t', j)) (e6 : t 8 0 < 6) (b : bD t i) : bD t' j ∧ i < j ∧ t' 0 0 = t 0 0 := by
  unfold entP at h
  obtain ⟨_, k1, n1, h⟩ := bd_r h
  obtain ⟨_, k2, n2, h⟩ := bd_r h
  obtain ⟨a, k3, n3, h⟩ := bd_r h
  cases h
  obtain ⟨w1, z1⟩ := namP_t n1
  have w2 := wrdP_t n2
  obtain ⟨-, -, a1, a2, a3⟩ := numP_t n3
  obtain ⟨bt, bc, bn, bf, bl, bw⟩ := b
  obtain ⟨⟨d1, d2, d3⟩, d4, d5, ⟨d6, d7⟩, er⟩ := ent_t (t := t) (x := x) (len := len) (i := i + 1) (p := p) (a := a) e6
  have l6 := bt.2.2.2.2.2.2.1
  have d10 := bt.2.2.2.1
  obtain ⟨l1, l2, l3⟩ := bl
  refine ⟨⟨?_, ?_, ⟨fun q hq => ?_, fun q hq => ?_⟩, fun e he g hg => ?_, ⟨fun s hs => ?_, fun s hs hse => ?_, fun e he => ?_⟩, bw.eq (er _ (by omega)) (er _ (by omega)) (fun l hl => er _ (by omega)) l6 (by omega)⟩, by omega, by rw [er 0 (by omega)]⟩
  · obtain ⟨b0, b1, b2, b5, b8, b13, b17, bj, bd', be⟩ := bt
    refine ⟨by rw [er 0 (by omega)]; exact b0, by rw [er 1 (by omega)]; exact b1, by rw [er 2 (by omega)]; exact b2, by rw [er 5 (by omega)]; exact b5, by rw [d1]; omega, by rw [er 13 (by omega)]; exact b13, by rw [er 17 (by omega)]; exact b17, fun q hq => ?_, fun q hq => ?_, fun q hq => ?_⟩
    · rw [er 2 (by omega)] at hq
      rw [er 3 (by omega), er 4 (by omega)]
      exact bj q hq
    · rw [er 5 (by omega)] at hq
      rw [er 6 (by omega), er 7 (by omega)]
      exact bd' q hq
    · rw [d1] at hq
      by_cases w : q = t 8 0
      · subst w
        rw [d2, d3]
        omega
      · rw [(d4 q (by omega)).1, (d4 q (by omega)).2]
        exact be q (by omega)
  · unfold bCt at bc ⊢
    rw [er 13 (by omega), er 14 (by omega), er 15 (by omega), er 16 (by omega), er 0 (by omega)]
    exact bc
  · rw [er 5 (by omega)] at hq
    exact nmO_eq (d5 _ (by omega)) (er _ (by omega)) (bn.1 q hq)
  · rw [d1] at hq
    by_cases w : q = t 8 0
    · subst w
      exact tkN_O hT z1 d6 d7
    · exact nmO_eq (d5 _ (by omega)) (er _ (by omega)) (bn.2 q (by omega))
  · rw [d1] at he
    rw [er 12 (by omega)]
    by_cases w : e = t 8 0
    · have := (l2 (6 * e + g) (by omega) (by omega)).2
      omega
    · exact bf e (by omega) g hg
  · rw [er 11 (by omega), er 5 (by omega)]
    exact l1 s hs
  · rw [d1] at hse
    rw [er 11 (by omega), er 12 (by omega)]
    exact l2 s hs (by omega)
  · rw [d1] at he
    rw [er 11 (by omega), er 0 (by omega)]
    by_cases w : e = t 8 0
    · have z : ∀ r, r < 6 → t 11 (6 * e + r) = 0 := fun r hr => (l2 (6 * e + r) (by omega) (by omega)).1
      have z0 := z 0 (by omega)
      rw [Nat.add_zero] at z0
      exact ⟨fun _ => z, fun y => absurd z0 y⟩
    · exact l3 e (by omega)
theorem etP_t {e k : Nat} (h : etP t x len tok i = .inr (e, k)) : k = i ∧ e < t 8 0 ∧ (tok i).1 = 2 := by
  unfold etP at h
  split at h
  · next q =>
    split at h
    · next q2 => cases h; exact ⟨rfl, q2, q⟩
    · cases h
  · cases h
theorem fmP_t {e : Nat} : ∀ {f g i j : Nat} {t t' : q_T}, fmP tok e f g i t = .inr (t', j) → i ≤ j ∧ (∀ k, ¬ k = 12 → t' k = t k) ∧ ∀ s, (t' 12 s ≤ 20 ∧ 6 * e + g ≤ s ∧ s < 6 * e + g + f) ∨ t' 12 s = t 12 s
  | 0, g, i, j, t, t', h => by
    cases h
    exact ⟨Nat.le_refl _, fun _ _ => rfl, fun _ => Or.inr rfl⟩
  | f + 1, g, i, j, t, t', h => by
    have h : bd (numP tok i 0 20) (fun v j => fmP tok e f (g + 1) j (upT t 12 (6 * e + g) v)) = .inr (t', j) := h
    obtain ⟨v, k1, n1, h⟩ := bd_r h
    obtain ⟨-, -, a1, a2, a3⟩ := numP_t n1
    obtain ⟨r1, r2, r3⟩ := fmP_t h
    refine ⟨by omega, fun k hk => by rw [r2 k hk, upT_r hk], fun s => ?_⟩
    rcases r3 s with ⟨y1, y2, y3⟩ | y
    · exact Or.inl ⟨y1, by omega, by omega⟩
    · by_cases w : s = 6 * e + g
      · subst w
        rw [upT_s] at y
        exact Or.inl ⟨by omega, by omega, by omega⟩
      · rw [upT_n (fun z => w z.2)] at y
        exact Or.inr y
theorem bD_form (h : formP t x len tok i = .inr (t', j)) (b : bD t i) : bD t' j ∧ i < j ∧ t' 0 0 = t 0 0 ∧ t' 8 0 = t 8 0 := by
  unfold formP at h
  obtain ⟨e, k1, n1, h⟩ := bd_r h
  obtain ⟨w1, he, z1⟩ := etP_t n1
  obtain ⟨f1, er, f3⟩ := fmP_t h
  obtain ⟨bt, bc, bn, bf, ⟨l1, l2, l3⟩, bw⟩ := b
  have l6 := bt.2.2.2.2.2.2.1
  have e6 := bt.2.2.2.2.1
  refine ⟨⟨?_, ?_, bn.eq (er _ (by omega)) (er _ (by omega)) (er _ (by omega)) (fun k hk => er k (by omega)), fun e' he' g hg => ?_, ⟨fun s hs => ?_, fun s hs hse => ?_, fun e' he' => ?_⟩, bw.eq (er _ (by omega)) (er _ (by omega)) (fun l hl => er _ (by omega)) l6 (by omega)⟩, by omega, by rw [er 0 (by omega)], by rw [er 8 (by omega)]⟩
  · unfold b_T at bt ⊢
    rw [er 0 (by omega), er 1 (by omega), er 2 (by omega), er 5 (by omega), er 8 (by omega), er 13 (by omega), er 17 (by omega), er 3 (by omega), er 4 (by omega), er 6 (by omega), er 7 (by omega), er 9 (by omega), er 10 (by omega)]
    exact bt
  · unfold bCt at bc ⊢
    rw [er 13 (by omega), er 14 (by omega), er 15 (by omega), er 16 (by omega), er 0 (by omega)]
    exact bc
  · rw [er 8 (by omega)] at he'
    rcases f3 (6 * e' + g) with ⟨y, -, -⟩ | y
    · exact y
    · rw [y]
      exact bf e' he' g hg
  · rw [er 11 (by omega), er 5 (by omega)]
    exact l1 s hs
  · rw [er 8 (by omega)] at hse
    rw [er 11 (by omega)]
    refine ⟨(l2 s hs hse).1, ?_⟩
    rcases f3 s with ⟨-, y2, y3⟩ | y
    · omega
    · rw [y]
      exact (l2 s hs hse).2
  · rw [er 8 (by omega)] at he'
    rw [er 11 (by omega), er 0 (by omega)]
    exact l3 e' he'
theorem lsP_t {t0 : q_T} {e : Nat} : ∀ {f r i j : Nat} {t t' : q_T}, lsP t0 x len tok e f r i t = .inr (t', j) → i ≤ j ∧ (∀ k, ¬ k = 11 → t' k = t k) ∧ (∀ s, ¬ (6 * e + r ≤ s ∧ s < 6 * e + r + f) → t' 11 s = t 11 s) ∧ (∀ q, r ≤ q → q < r + f → 1 ≤ t' 11 (6 * e + q) ∧ t' 11 (6 * e + q) ≤ t0 5 0 ∧ ∀ q', q' < q → ¬ t' 11 (6 * e + q') = t' 11 (6 * e + q))
  | 0, r, i, j, t, t', h => by
    cases h
    exact ⟨Nat.le_refl _, fun _ _ => rfl, fun _ _ => rfl, fun q h1 h2 => by omega⟩
  | f + 1, r, i, j, t, t', h => by
    have h : (if (tok i).1 = 2 then (if fnE t0 x len 0 (t0 5 0) i < t0 5 0 ∧ ∀ r', r' < r → ¬ t 11 (6 * e + r') = fnE t0 x len 0 (t0 5 0) i + 1 then lsP t0 x len tok e f (r + 1) (i + 1) (upT t 11 (6 * e + r) (fnE t0 x len 0 (t0 5 0) i + 1)) else .inl (3, i)) else .inl (1, i)) = .inr (t', j) := h
    split at h
    · split at h
      · next q =>
        obtain ⟨r1, r2, r3, r4⟩ := lsP_t h
        have own : t' 11 (6 * e + r) = fnE t0 x len 0 (t0 5 0) i + 1 := by rw [r3 (6 * e + r) (by omega), upT_s]
        refine ⟨by omega, fun k hk => by rw [r2 k hk, upT_r hk], fun s hs => ?_, fun q' h1 h2 => ?_⟩
        · rw [r3 s (by omega), upT_n (by omega)]
        · by_cases w : q' = r
          · subst w
            rw [own]
            refine ⟨by omega, by omega, fun p hp => ?_⟩
            rw [r3 (6 * e + p) (by omega), upT_n (by omega)]
            exact q.2 p hp
          · exact r4 q' (by omega) (by omega)
      · cases h
    · cases h
theorem bD_list (h : listP t x len tok i = .inr (t', j)) (b : bD t i) (r1 : 1 ≤ t 0 0) : bD t' j ∧ i < j ∧ t' 0 0 = t 0 0 ∧ t' 8 0 = t 8 0 := by
  unfold listP at h
  obtain ⟨e, k1, n1, h⟩ := bd_r h
  obtain ⟨w1, he, z1⟩ := etP_t n1
  split at h
  rotate_left 1
  · cases h
  next z0 =>
  obtain ⟨f1, er, f3, f4⟩ := lsP_t h
  obtain ⟨bt, bc, bn, bf, ⟨l1, l2, l3⟩, bw⟩ := b
  have l6 := bt.2.2.2.2.2.2.1
  have e6 := bt.2.2.2.2.1
  have r6 := bt.1
  refine ⟨⟨?_, ?_, bn.eq (er _ (by omega)) (er _ (by omega)) (er _ (by omega)) (fun k hk => er k (by omega)), ?_, ⟨fun s hs => ?_, fun s hs hse => ?_, fun e' he' => ?_⟩, bw.eq (er _ (by omega)) (er _ (by omega)) (fun l hl => er _ (by omega)) l6 (by omega)⟩, by omega, by rw [er 0 (by omega)], by rw [er 8 (by omega)]⟩
  · unfold b_T at bt ⊢
    rw [er 0 (by omega), er 1 (by omega), er 2 (by omega), er 5 (by omega), er 8 (by omega), er 13 (by omega), er 17 (by omega), er 3 (by omega), er 4 (by omega), er 6 (by omega), er 7 (by omega), er 9 (by omega), er 10 (by omega)]
    exact bt
  · unfold bCt at bc ⊢
    rw [er 13 (by omega), er 14 (by omega), er 15 (by omega), er 16 (by omega), er 0 (by omega)]
    exact bc
  · unfold bFo at bf ⊢
    rw [er 8 (by omega), er 12 (by omega)]
    exact bf
  · rw [er 5 (by omega)]
    by_cases w : 6 * e + 0 ≤ s ∧ s < 6 * e + 0 + t 0 0
    · have := f4 (s - 6 * e) (by omega) (by omega)
      rw [show 6 * e + (s - 6 * e) = s by omega] at this
      omega
    · rw [f3 s w]
      exact l1 s hs
  · rw [er 8 (by omega)] at hse
    rw [er 12 (by omega), f3 s (by omega)]
    exact l2 s hs hse
  · rw [er 8 (by omega)] at he'
    rw [er 0 (by omega)]
    by_cases w : e' = e
    · subst w
      have a0 := f4 0 (by omega) (by omega)
      rw [Nat.add_zero] at a0
      refine ⟨fun z => by omega, fun _ => ⟨fun r hr => ?_, fun r r' hr hr' hne => ?_, fun r hr1 hr2 => ?_⟩⟩
      · have := f4 r (by omega) (by omega)
        omega
      · rcases Nat.lt_or_ge r r' with y | y
        · exact (f4 r' (by omega) (by omega)).2.2 r y
        · exact fun z => (f4 r (by omega) (by omega)).2.2 r' (by omega) z.symm
      · rw [f3 _ (by omega)]
        exact (l3 e' he').1 z0 r hr2
    · rw [f3 (6 * e') (by omega)]
      refine ⟨fun z r hr => ?_, fun z => ⟨fun r hr => ?_, fun r r' hr hr' hne => ?_, fun r hr1 hr2 => ?_⟩⟩
      · rw [f3 _ (by omega)]
        exact (l3 e' he').1 z r hr
      · rw [f3 _ (by omega)]
        exact ((l3 e' he').2 z).1 r hr
      · rw [f3 _ (by omega), f3 _ (by omega)]
        exact ((l3 e' he').2 z).2.1 r r' hr hr' hne
      · rw [f3 _ (by omega)]
        exact ((l3 e' he').2 z).2.2 r hr1 hr2
end BE
