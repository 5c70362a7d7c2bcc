/-! what is always so of a draft -/
section BD
variable {t t' : q_T} {x : Nat → Nat} {len : Nat} {tok : Nat → Tok} {T i j : Nat}
theorem rn_cd {c : List Nat} (hc : ∀ y, y ∈ c → cOK y) : ∀ {suf pre : List Nat} {s s' : Nat}, pre ++ suf = c → sd (gt c) pre.length = s → rn s suf = some s' → (∀ i, pre.length ≤ i → i < c.length → cOK (gt c i) ∧ (isVal (gt c i) = true → sd (gt c) i < 64) ∧ (gt c i = 30 → 1 ≤ sd (gt c) i) ∧ (isVal (gt c i) = false → ¬ gt c i = 30 → 2 ≤ sd (gt c) i)) ∧ sd (gt c) c.length = s'
  | [], pre, s, s', e, hs, hr => by
    cases hr
    rw [List.append_nil] at e
    subst e
    exact ⟨fun i h1 h2 => by omega, hs⟩
  | a :: suf, pre, s, s', e, hs, hr => by
    have ga : gt c pre.length = a := by
      have := gt_2 (a := pre) (b := a :: suf) (p := 0)
      rw [Nat.add_zero, e] at this
      exact this
    have lc : pre.length < c.length := by
      rw [← e, List.length_append, List.length_cons]
      omega
    have hr : (if isVal a = true then (if s < 64 then rn (s + 1) suf else none) else if a = 30 then (if 1 ≤ s then rn s suf else none) else (if 2 ≤ s then rn (s - 1) suf else none)) = some s' := hr
    have sds : sd (gt c) (pre.length + 1) = if isVal (gt c pre.length) then sd (gt c) pre.length + 1 else if gt c pre.length = 30 then sd (gt c) pre.length else sd (gt c) pre.length - 1 := rfl
    rw [ga, hs] at sds
    have go : ∀ s2, sd (gt c) (pre.length + 1) = s2 → rn s2 suf = some s' → (isVal a = true → s < 64) → (a = 30 → 1 ≤ s) → (isVal a = false → ¬ a = 30 → 2 ≤ s) → (∀ i, pre.length ≤ i → i < c.length → cOK (gt c i) ∧ (isVal (gt c i) = true → sd (gt c) i < 64) ∧ (gt c i = 30 → 1 ≤ sd (gt c) i) ∧ (isVal (gt c i) = false → ¬ gt c i = 30 → 2 ≤ sd (gt c) i)) ∧ sd (gt c) c.length = s' := by
      intro s2 h2 hr2 c1 c2 c3
      obtain ⟨r1, r2⟩ := rn_cd (c := c) hc (suf := suf) (pre := pre ++ [a]) (s := s2) (by rw [List.append_assoc]; exact e) (by rw [List.length_append]; exact h2) hr2
      refine ⟨fun i h1 h2' => ?_, r2⟩
      by_cases q : i = pre.length
      · subst q
        rw [ga, hs]
        exact ⟨hc a (by rw [← e]; simp), c1, c2, c3⟩
      · exact r1 i (by rw [List.length_append]; show pre.length + 1 ≤ i; omega) h2'
    split at hr
    · next q =>
      split at hr
      · next q2 =>
        rw [if_pos q] at sds
        exact go (s + 1) sds hr (fun _ => q2) (fun z => by rw [z] at q; exact absurd q (by decide)) (fun z => by rw [q] at z; cases z)
      · cases hr
    · next q =>
      rw [if_neg q] at sds
      split at hr
      · next q1 =>
        split at hr
        · next q2 =>
          rw [if_pos q1] at sds
          exact go s sds hr (fun z => absurd z q) (fun _ => q2) (fun _ z => absurd q1 z)
        · cases hr
      · next q1 =>
        split at hr
        · next q2 =>
          rw [if_neg q1] at sds
          exact go (s - 1) sds hr (fun z => absurd z q) (fun z => absurd z q1) (fun _ _ => q2)
        · cases hr
theorem cdOK_of {c : List Nat} (hc : ∀ y, y ∈ c → cOK y) (hr : rn 0 c = some 1) : cdOK (gt c) c.length := by
  obtain ⟨h1, h2⟩ := rn_cd hc (suf := c) (pre := []) (s := 0) rfl rfl hr
  exact ⟨fun i hi => h1 i (Nat.zero_le _) hi, by rw [h2]; exact Nat.le_refl _⟩
def bLs (t : q_T) : Prop := (∀ s, s < 36 → t 11 s ≤ t 5 0) ∧ (∀ s, s < 36 → t 8 0 ≤ s / 6 → t 11 s = 0 ∧ t 12 s = 10) ∧ ∀ e, e < t 8 0 → (t 11 (6 * e) = 0 → ∀ r, r < 6 → t 11 (6 * e + r) = 0) ∧ (¬ t 11 (6 * e) = 0 → (∀ r, r < t 0 0 → ¬ t 11 (6 * e + r) = 0) ∧ (∀ r r', r < t 0 0 → r' < t 0 0 → ¬ r = r' → ¬ t 11 (6 * e + r) = t 11 (6 * e + r')) ∧ ∀ r, t 0 0 ≤ r → r < 6 → t 11 (6 * e + r) = 0)
def bLw (t : q_T) (i : Nat) : Prop := lawE t (t 17 0) ≤ i ∧ ∀ l, l < t 17 0 → t 18 l ≤ 255 ∧ cdOK (t (19 + l)) (t 18 l)
def bFo (t : q_T) : Prop := ∀ e, e < t 8 0 → ∀ g, g < 6 → t 12 (6 * e + g) ≤ 20
def bD (t : q_T) (i : Nat) : Prop := b_T t ∧ bCt t ∧ bNm t ∧ bFo t ∧ bLs t ∧ bLw t i
theorem bLw.eq (h : bLw t i) (h17 : t' 17 = t 17) (h18 : t' 18 = t 18) (hr : ∀ l, l < 6 → t' (19 + l) = t (19 + l)) (l6 : t 17 0 ≤ 6) (hij : i ≤ j) : bLw t' j := by
  unfold bLw lawE at h ⊢
  rw [h17, h18]
  refine ⟨by omega, fun l hl => ?_⟩
  rw [hr l (by omega)]
  exact h.2 l hl
theorem bNm.eq (h : bNm t) (h5 : t' 5 = t 5) (h8 : t' 8 = t 8) (h30 : t' 30 = t 30) (hr : ∀ k, 31 ≤ k → t' k = t k) : bNm t' := by
  refine ⟨fun i hi => ?_, fun e he => ?_⟩
  · rw [h5] at hi
    exact nmO_eq (by rw [h30]) (hr _ (by omega)) (h.1 i hi)
  · rw [h8] at he
    exact nmO_eq (by rw [h30]) (hr _ (by omega)) (h.2 e he)
/-- the draft when nothing was told -/
def t_0 : q_T := fun a _ => if a = 12 then 10 else 0
theorem t_0z {k y : Nat} (h : ¬ k = 12) : t_0 k y = 0 := if_neg h
theorem bD_0 : bD t_0 0 := by
  have z2 := t_0z (k := 2) (y := 0) (by decide)
  have z5 := t_0z (k := 5) (y := 0) (by decide)
  have z8 := t_0z (k := 8) (y := 0) (by decide)
  have z13 := t_0z (k := 13) (y := 0) (by decide)
  have z17 := t_0z (k := 17) (y := 0) (by decide)
  have z0 := t_0z (k := 0) (y := 0) (by decide)
  have z1 := t_0z (k := 1) (y := 0) (by decide)
  have z11 : ∀ s, t_0 11 s = 0 := fun s => t_0z (by decide)
  refine ⟨⟨by omega, by omega, by omega, by omega, by omega, by omega, by omega, fun j hj => by omega, fun j hj => by omega, fun j hj => by omega⟩, ⟨fun c hc => by omega, fun c c' _ hc => by omega⟩, ⟨fun c hc => by omega, fun c hc => by omega⟩, fun e he => by omega, ⟨fun s hs => by rw [z11]; omega, fun s hs _ => ⟨z11 s, if_pos rfl⟩, fun e he => by omega⟩, ⟨by rw [z17]; exact Nat.le_refl _, fun l hl => by omega⟩⟩
theorem bD_rounds (h : roundsP tok t_0 i = .inr (t', j)) : bD t' j ∧ i < j ∧ 1 ≤ t' 0 0 ∧ t' 8 0 = 0 := by
  unfold roundsP at h
  obtain ⟨a, k1, n1, h⟩ := bd_r h
  obtain ⟨_, k2, n2, h⟩ := bd_r h
  obtain ⟨b, k3, n3, h⟩ := bd_r h
  cases h
  obtain ⟨-, -, a1, a2, a3⟩ := numP_t n1
  obtain ⟨-, -, b1, b2, b3⟩ := numP_t n3
  have w2 : k2 = k1 + 1 := by
    unfold wrdP at n2
    split at n2
    · cases n2; rfl
    · cases n2
  have e0 : upT (upT t_0 0 0 a) 1 0 b 0 0 = a := by rw [upT_n (by omega), upT_s]
  have e1 : upT (upT t_0 0 0 a) 1 0 b 1 0 = b := upT_s
  have er : ∀ k, 2 ≤ k → upT (upT t_0 0 0 a) 1 0 b k = t_0 k := fun k hk => by rw [upT_r (by omega), upT_r (by omega)]
  have z : ∀ k, 2 ≤ k → ¬ k = 12 → ∀ y, upT (upT t_0 0 0 a) 1 0 b k y = 0 := fun k hk h12 y => by
    rw [er k hk]
    exact if_neg h12
  refine ⟨⟨⟨by rw [e0]; omega, by rw [e1]; omega, ?_, ?_, ?_, ?_, ?_, fun j hj => ?_, fun j hj => ?_, fun j hj => ?_⟩, ⟨fun c hc => ?_, fun c c' _ hc => ?_⟩, ⟨fun c hc => ?_, fun c hc => ?_⟩, fun e he => ?_, ⟨fun s hs => ?_, fun s hs _ => ⟨z 11 (by omega) (by omega) s, ?_⟩, fun e he => ?_⟩, ⟨?_, fun l hl => ?_⟩⟩, by omega, by rw [e0]; omega, z 8 (by omega) (by omega) 0⟩
  · rw [z 2 (by omega) (by omega)]; omega
  · rw [z 5 (by omega) (by omega)]; omega
  · rw [z 8 (by omega) (by omega)]; omega
  · rw [z 13 (by omega) (by omega)]; omega
  · rw [z 17 (by omega) (by omega)]; omega
  · rw [z 2 (by omega) (by omega)] at hj; omega
  · rw [z 5 (by omega) (by omega)] at hj; omega
  · rw [z 8 (by omega) (by omega)] at hj; omega
  · rw [z 13 (by omega) (by omega)] at hc; omega
  · rw [z 13 (by omega) (by omega)] at hc; omega
  · rw [z 5 (by omega) (by omega)] at hc; omega
  · rw [z 8 (by omega) (by omega)] at hc; omega
  · rw [z 8 (by omega) (by omega)] at he; omega
  · rw [z 11 (by omega) (by omega)]; omega
  · rw [er 12 (by omega)]; rfl
  · rw [z 8 (by omega) (by omega)] at he; omega
  · rw [z 17 (by omega) (by omega)]; exact Nat.zero_le _
  · rw [z 17 (by omega) (by omega)] at hl; omega
theorem wrdP_t {w k : Nat} {u : Unit} (h : wrdP tok i w = .inr (u, k)) : k = i + 1 := by
  unfold wrdP at h
  split at h
  · cases h; rfl
  · cases h
theorem bD_judge (h : judgeP tok t i = .inr (t', j)) (j11 : t 2 0 < 11) (b : bD t i) : bD t' j ∧ i < j ∧ t' 0 0 = t 0 0 ∧ t' 8 0 = t 8 0 := by
  unfold judgeP at h
  obtain ⟨_, k1, n1, h⟩ := bd_r h
  obtain ⟨a, k2, n2, h⟩ := bd_r h
  cases h
  have w1 := wrdP_t n1
  obtain ⟨-, -, a1, a2, a3⟩ := numP_t n2
  obtain ⟨bt, bc, bn, bf, bl, bw⟩ := b
  have s3 : srt (tok k2) ≤ 3 := by
    unfold srt
    split
    · omega
    · split
      · omega
      · split <;> omega
  have er : ∀ k, ¬ (k = 2 ∨ k = 3 ∨ k = 4) → judT t a (srt (tok k2)) k = t k := fun k hk => by
    unfold judT
    rw [upT_r (by omega), upT_r (by omega), upT_r (by omega)]
  have e2 : judT t a (srt (tok k2)) 2 0 = t 2 0 + 1 := by
    unfold judT
    rw [upT_s]
  have l6 := bt.2.2.2.2.2.2.1
  refine ⟨⟨?_, ?_, bn.eq (er _ (by omega)) (er _ (by omega)) (er _ (by omega)) (fun k hk => er k (by omega)), ?_, ?_, bw.eq (er _ (by omega)) (er _ (by omega)) (fun l hl => er _ (by omega)) l6 (by omega)⟩, by omega, by rw [er 0 (by omega)], by rw [er 8 (by omega)]⟩
  · obtain ⟨b0, b1, b2, b5, b8, b13, b17, bj, bd', be⟩ := bt
    refine ⟨by rw [er 0 (by omega)]; exact b0, by rw [er 1 (by omega)]; exact b1, by rw [e2]; omega, by rw [er 5 (by omega)]; exact b5, by rw [er 8 (by omega)]; exact b8, by rw [er 13 (by omega)]; exact b13, by rw [er 17 (by omega)]; exact b17, fun q hq => ?_, fun q hq => ?_, fun q hq => ?_⟩
    · rw [e2] at hq
      unfold judT
      by_cases w : q = t 2 0
      · subst w
        rw [upT_n (by omega), upT_n (by omega), upT_s, upT_n (by omega), upT_s]
        omega
      · rw [upT_n (by omega), upT_n (by omega), upT_n (by omega), upT_n (by omega), upT_n (by omega), upT_n (by omega)]
        exact bj q (by omega)
    · rw [er 5 (by omega)] at hq
      rw [er 6 (by omega), er 7 (by omega)]
      exact bd' q hq
    · rw [er 8 (by omega)] at hq
      rw [er 9 (by omega), er 10 (by omega)]
      exact be q hq
  · unfold bCt at bc ⊢
    rw [er 13 (by omega), er 14 (by omega), er 15 (by omega), er 16 (by omega), er 0 (by omega)]
    exact bc
  · unfold bFo at bf ⊢
    rw [er 8 (by omega), er 12 (by omega)]
    exact bf
  · unfold bLs at bl ⊢
    rw [er 8 (by omega), er 12 (by omega), er 11 (by omega), er 5 (by omega), er 0 (by omega)]
    exact bl
theorem bD_cut (h : cutP tok t i = .inr (t', j)) (c3 : t 13 0 < 3) (b : bD t i) : bD t' j ∧ i < j ∧ t' 0 0 = t 0 0 ∧ t' 8 0 = t 8 0 := by
  unfold cutP at h
  obtain ⟨a, k1, n1, h⟩ := bd_r h
  obtain ⟨_, k2, n2, h⟩ := bd_r h
  obtain ⟨c, k3, n3, h⟩ := bd_r h
  cases h
  obtain ⟨-, -, a1, a2, a3⟩ := numP_t n1
  have w2 := wrdP_t n2
  obtain ⟨-, -, d1, d2, d3⟩ := numP_t n3
  obtain ⟨bt, bc, bn, bf, bl, bw⟩ := b
  generalize hn : (if tok k3 = (1, 17) then 1 else 0 : Nat) = n
  have n1 : n ≤ 1 := by
    rw [← hn]
    split <;> omega
  have er : ∀ k, ¬ (k = 13 ∨ k = 14 ∨ k = 15 ∨ k = 16) → cutT t a c n k = t k := fun k hk => by
    unfold cutT
    rw [upT_r (by omega), upT_r (by omega), upT_r (by omega), upT_r (by omega)]
  have e13 : cutT t a c n 13 0 = t 13 0 + 1 := by
    unfold cutT
    rw [upT_s]
  have e14 : ∀ q, ¬ q = t 13 0 → cutT t a c n 14 q = t 14 q ∧ cutT t a c n 15 q = t 15 q ∧ cutT t a c n 16 q = t 16 q := fun q hq => by
    unfold cutT
    refine ⟨?_, ?_, ?_⟩ <;> rw [upT_n (by omega), upT_n (by omega), upT_n (by omega), upT_n (by omega)]
  have f14 : cutT t a c n 14 (t 13 0) = a ∧ cutT t a c n 15 (t 13 0) = c ∧ cutT t a c n 16 (t 13 0) = n := by
    unfold cutT
    refine ⟨?_, ?_, ?_⟩
    · rw [upT_n (by omega), upT_n (by omega), upT_n (by omega), upT_s]
    · rw [upT_n (by omega), upT_n (by omega), upT_s]
    · rw [upT_n (by omega), upT_s]
  have l6 := bt.2.2.2.2.2.2.1
  have lst : ∀ q, q < t 13 0 → t 14 q + 1 ≤ a := fun q hq => by
    unfold lstC at a1
    rw [if_neg (by omega)] at a1
    by_cases w : q = t 13 0 - 1
    · subst w
      omega
    · have := bc.2 q (t 13 0 - 1) (by omega) (by omega)
      omega
  have a0 : 1 ≤ a := by
    have := (lstC_b bc bt.1).1
    omega
  refine ⟨⟨?_, ⟨fun q hq => ?_, fun q q' hqq hq => ?_⟩, bn.eq (er _ (by omega)) (er _ (by omega)) (er _ (by omega)) (fun k hk => er k (by omega)), ?_, ?_, bw.eq (er _ (by omega)) (er _ (by omega)) (fun l hl => er _ (by omega)) l6 (by omega)⟩, by omega, by rw [er 0 (by omega)], by rw [er 8 (by omega)]⟩
  · unfold b_T at bt ⊢
    rw [er 0 (by omega), er 1 (by omega), er 2 (by omega), er 5 (by omega), er 8 (by omega), er 17 (by omega), er 3 (by omega), er 4 (by omega), er 6 (by omega), er 7 (by omega), er 9 (by omega), er 10 (by omega), e13]
    exact ⟨bt.1, bt.2.1, bt.2.2.1, bt.2.2.2.1, bt.2.2.2.2.1, by omega, bt.2.2.2.2.2.2⟩
  · rw [e13] at hq
    rw [er 0 (by omega)]
    by_cases w : q = t 13 0
    · subst w
      rw [f14.1, f14.2.1, f14.2.2]
      omega
    · obtain ⟨y1, y2, y3⟩ := e14 q w
      rw [y1, y2, y3]
      exact bc.1 q (by omega)
  · rw [e13] at hq
    obtain ⟨y1, -, -⟩ := e14 q (by omega)
    rw [y1]
    by_cases w : q' = t 13 0
    · subst w
      rw [f14.1]
      have := lst q (by omega)
      omega
    · rw [(e14 q' w).1]
      exact bc.2 q q' hqq (by omega)
  · unfold bFo at bf ⊢
    rw [er 8 (by omega), er 12 (by omega)]
    exact bf
  · unfold bLs at bl ⊢
    rw [er 8 (by omega), er 12 (by omega), er 11 (by omega), er 5 (by omega), er 0 (by omega)]
    exact bl
theorem bD_law (hT : ∀ i, (tok i).2 ≤ 9999) (h : lawP tok T t i = .inr (t', j)) (l6 : t 17 0 < 6) (b : bD t i) : bD t' j ∧ i < j ∧ t' 0 0 = t 0 0 ∧ t' 8 0 = t 8 0 := by
  unfold lawP at h
  obtain ⟨a, k1, n1, h⟩ := bd_r h
  cases h
  obtain ⟨⟨p1, p2, p3, p4⟩, p5, p6, -, -, -⟩ := prs_pK hT (by omega) (by omega) (by omega) (c := a.1) (v' := a.2) n1
  obtain ⟨q1, q2, q3, q4⟩ := p6 (Or.inl rfl)
  obtain ⟨bt, bc, bn, bf, bl, bw⟩ := b
  obtain ⟨⟨d1, d2, d3⟩, d4, d5, d6, d7⟩ := law_t (t := t) (c := a.1) l6
  have er := d5
  refine ⟨⟨?_, ?_, bn.eq (er _ (by omega)) (er _ (by omega)) (er _ (by omega)) (fun k hk => er k (by omega)), ?_, ?_, ⟨?_, fun l hl => ?_⟩⟩, by omega, by rw [er 0 (by omega)], by rw [er 8 (by omega)]⟩
  · unfold b_T at bt ⊢
    rw [er 0 (by omega), er 1 (by omega), er 2 (by omega), er 5 (by omega), er 8 (by omega), er 13 (by omega), er 3 (by omega), er 4 (by omega), er 6 (by omega), er 7 (by omega), er 9 (by omega), er 10 (by omega), d1]
    exact ⟨bt.1, bt.2.1, bt.2.2.1, bt.2.2.2.1, bt.2.2.2.2.1, bt.2.2.2.2.2.1, by omega, bt.2.2.2.2.2.2.2⟩
  · unfold bCt at bc ⊢
    rw [er 13 (by omega), er 14 (by omega), er 15 (by omega), er 16 (by omega), er 0 (by omega)]
    exact bc
  · unfold bFo at bf ⊢
    rw [er 8 (by omega), er 12 (by omega)]
    exact bf
  · unfold bLs at bl ⊢
    rw [er 8 (by omega), er 12 (by omega), er 11 (by omega), er 5 (by omega), er 0 (by omega)]
    exact bl
  · rw [d1, d7]
    have := bw.1
    omega
  · rw [d1] at hl
    by_cases w : l = t 17 0
    · subst w
      rw [d2]
      have e : lawT t a.1 (19 + t 17 0) = gt a.1 := funext d3
      rw [e]
      refine ⟨by omega, cdOK_of p5 (q4 0 (by omega))⟩
    · rw [d4 l w, er (19 + l) (by omega)]
      exact bw.2 l (by omega)
end BD
