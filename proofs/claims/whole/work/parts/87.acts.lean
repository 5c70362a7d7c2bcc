/-! acts: the pure picture -/
def up (n : sN) (k : Nat) (v : Int) : sN := fun i => if i = k then v else n i
theorem up_s {n : sN} {k : Nat} {v : Int} : up n k v k = v := if_pos rfl
theorem up_n {n : sN} {k i : Nat} {v : Int} (h : ¬ i = k) : up n k v i = n i := if_neg h
/-- only the numbers of slot s moved -/
def sch (s : Nat) (n n' : sN) : Prop := ∀ k, ¬ (36 + 11 * s ≤ k ∧ k < 47 + 11 * s) → ¬ k = 432 + s → ¬ k = 468 + s → ¬ k = 504 + s → ¬ k = 540 + s → n' k = n k
/-- while it goes on -/
def b_M (t : q_T) (n : sN) : Prop := (1 ≤ n 631 ∧ n 631 ≤ t 0 0) ∧ (1 ≤ n 630 ∧ n 630 ≤ t 8 0) ∧ (0 ≤ n 632 ∧ n 632 ≤ n 630) ∧ (∀ a : Nat, (a : Int) < n 630 → 0 ≤ n (624 + a) ∧ n (624 + a) < t 8 0) ∧ (∀ a b : Nat, (a : Int) < n 630 → (b : Int) < n 630 → n (624 + a) = n (624 + b) → a = b) ∧ ∀ e : Nat, e < t 8 0 → inE n e = true → n (618 + e) ≤ n 631 ∧ ∃ a : Nat, (a : Int) < n 630 ∧ n (624 + a) = e ∧ (gvN t n e : Int) = n 631 - 1 + (if (a : Int) < n 632 then 1 else 0)
/-- a second balk fails -/
def b_K (t : q_T) (n : sN) : Prop := ∀ e, e < t 8 0 → ∀ r, r < t 0 0 → n (540 + (6 * e + r)) = 0 → n (468 + (6 * e + r)) ≤ 1
/-- what is always so of the row of numbers -/
def b_J (t : q_T) (n : sN) : Prop := (b_N t n ∧ b_X t n ∧ b_G t n ∧ b_K t n) ∧ ((n 633 = 0 ∨ n 633 = 1) ∧ (t 0 0 = 0 → n 633 = 0)) ∧ (isB t n → b_M t n ∧ n 632 < n 630 ∧ inE n (n (624 + (n 632).toNat)).toNat = true)
section AC
variable {t : q_T} {n n' : sN}
theorem b_J.D (h : b_J t n) (h6 : t 8 0 ≤ 6) : b_D t n := by
  refine ⟨h.2.1.1, h.2.1.2, fun q => ?_⟩
  obtain ⟨⟨b1, b2, b3, b4, b5, b6⟩, b7, b8⟩ := h.2.2 q
  have h4 := b4 (n 632).toNat (by omega)
  exact ⟨(n (624 + (n 632).toNat)).toNat, (n 631 - 1).toNat, ⟨q, by omega, by omega, by omega, b3.1, by omega, by omega⟩, b8⟩
theorem b_J.at (h : b_J t n) (h6 : t 8 0 ≤ 6) {e r : Nat} (hB : b_B t n e r) : inE n e = true ∧ n (576 + (6 * e + r)) = 0 ∧ gvN t n e = r ∧ n (618 + e) ≤ r + 1 := by
  obtain ⟨q, he, hr, h31, h0, h5, h34⟩ := hB
  obtain ⟨⟨b1, b2, b3, b4, b5, b6⟩, b7, b8⟩ := h.2.2 q
  rw [h34] at b8
  have b8 : inE n e = true := b8
  obtain ⟨c1, a, c2, c3, c4⟩ := b6 e he b8
  have c5 := b5 a (n 632).toNat c2 (by omega) (by omega)
  rw [if_neg (by omega)] at c4
  have g1 := h.1.2.2.1 e he b8 r hr
  have s := (h.1.1.1 e he r hr).2.2.2.2.2.2.1
  refine ⟨b8, ?_, by omega, by omega⟩
  rcases s with s | s
  · exact s
  · have := g1.mp s
    omega
theorem b_slot.eq {e r : Nat} (h : b_slot t n e r) (h11 : t 2 0 ≤ 11) (h0 : n' (6 * e + r) = n (6 * e + r)) (hm : ∀ j, j < 11 → n' (36 + 11 * (6 * e + r) + j) = n (36 + 11 * (6 * e + r) + j)) (h1 : n' (432 + (6 * e + r)) = n (432 + (6 * e + r))) (h2 : n' (468 + (6 * e + r)) = n (468 + (6 * e + r))) (h3 : n' (504 + (6 * e + r)) = n (504 + (6 * e + r))) (h4 : n' (540 + (6 * e + r)) = n (540 + (6 * e + r))) (h5 : n' (576 + (6 * e + r)) = n (576 + (6 * e + r))) : b_slot t n' e r := by
  unfold b_slot at h ⊢
  rw [h0, h1, h2, h3, h4, h5]
  obtain ⟨a0, a1, a2, a3, a4, a5, a6, a7, a8⟩ := h
  refine ⟨a0, fun j hj => ?_, a2, a3, a4, a5, a6, fun z j hj => ?_, fun z z' j hj ho => ?_⟩
  · show -1 ≤ n' (36 + 11 * (6 * e + r) + j) ∧ n' (36 + 11 * (6 * e + r) + j) ≤ 20 ∧ (¬ n' (36 + 11 * (6 * e + r) + j) = -1 → _)
    rw [hm j hj]
    exact a1 j hj
  · show n' (36 + 11 * (6 * e + r) + j) = -1
    rw [hm j hj]
    exact a7 z j hj
  · show ¬ n' (36 + 11 * (6 * e + r) + j) = -1
    rw [hm j (by omega)]
    exact a8 z z' j hj ho
theorem gvN_eq {e : Nat} (h : ∀ r, r < t 0 0 → n' (576 + (6 * e + r)) = n (576 + (6 * e + r))) : gvN t n' e = gvN t n e := by
  unfold gvN
  exact fb_ct_cong (fun r hr => by unfold gvE; rw [h r hr])
theorem inE_eq {e : Nat} (h : n' (612 + e) = n (612 + e)) : inE n' e = inE n e := by unfold inE; rw [h]
theorem b_N.sch (h : b_N t n) (h6 : t 8 0 ≤ 6) (h7 : t 0 0 ≤ 6) (h11 : t 2 0 ≤ 11) {e r : Nat} (he : e < t 8 0) (hr : r < t 0 0) (hc : sch (6 * e + r) n n') (hs : b_slot t n' e r) : b_N t n' := by
  have hi : ∀ k, 576 ≤ k → n' k = n k := fun k hk => hc k (by omega) (by omega) (by omega) (by omega) (by omega)
  have hl : ∀ k, k < 36 → n' k = n k := fun k hk => hc k (by omega) (by omega) (by omega) (by omega) (by omega)
  refine ⟨fun e' he' r' hr' => ?_, fun e' he' => ?_, fun e' he' r1 hr1 r2 hr2 => ?_⟩
  · by_cases q : 6 * e' + r' = 6 * e + r
    · obtain rfl : e' = e := by omega
      obtain rfl : r' = r := by omega
      exact hs
    · exact (h.1 e' he' r' hr').eq h11 (hl _ (by omega)) (fun j hj => hc _ (by omega) (by omega) (by omega) (by omega) (by omega)) (hc _ (by omega) (by omega) (by omega) (by omega) (by omega)) (hc _ (by omega) (by omega) (by omega) (by omega) (by omega)) (hc _ (by omega) (by omega) (by omega) (by omega) (by omega)) (hc _ (by omega) (by omega) (by omega) (by omega) (by omega)) (hi _ (by omega))
  · rw [hi _ (by omega), hi _ (by omega)]
    exact h.2.1 e' he'
  · rw [hl _ (by omega), hl _ (by omega)]
    exact h.2.2 e' he' r1 hr1 r2 hr2
theorem b_J.sch (h : b_J t n) (h6 : t 8 0 ≤ 6) (h7 : t 0 0 ≤ 6) (h11 : t 2 0 ≤ 11) {e r : Nat} (hB : b_B t n e r) (hc : sch (6 * e + r) n n') (hs : b_slot t n' e r) (hk : n' (540 + (6 * e + r)) = 0 → n' (468 + (6 * e + r)) ≤ 1) : b_J t n' := by
  have he := hB.2.1
  have hr := hB.2.2.1
  have hi : ∀ k, 576 ≤ k → n' k = n k := fun k hk => hc k (by omega) (by omega) (by omega) (by omega) (by omega)
  have hl : ∀ k, k < 36 → n' k = n k := fun k hk => hc k (by omega) (by omega) (by omega) (by omega) (by omega)
  have eg : ∀ e', gvN t n' e' = gvN t n e' := fun e' => gvN_eq (fun r' _ => hi _ (by omega))
  have ei : ∀ e', inE n' e' = inE n e' := fun e' => inE_eq (hi _ (by omega))
  refine ⟨⟨h.1.1.sch h6 h7 h11 he hr hc hs, fun s h1 h2 => ?_, fun e' he' q r' hr' => ?_, fun e' he' r' hr' q => ?_⟩, ?_, fun q => ?_⟩
  · rw [hi _ (by omega)]
    exact h.1.2.1 s h1 h2
  · rw [hi _ (by omega), eg]
    rw [ei] at q
    exact h.1.2.2.1 e' he' q r' hr'
  · by_cases q2 : 6 * e' + r' = 6 * e + r
    · rw [q2] at q ⊢
      exact hk q
    · rw [hc _ (by omega) (by omega) (by omega) (by omega) (by omega)] at q ⊢
      exact h.1.2.2.2 e' he' r' hr' q
  · rw [hi _ (by omega)]
    exact h.2.1
  · unfold isB at q
    rw [hi 633 (by omega)] at q
    have a := h.2.2 q
    unfold b_M at a ⊢
    rw [hi 630 (by omega), hi 631 (by omega), hi 632 (by omega), hi (624 + (n 632).toNat) (by omega), ei]
    obtain ⟨⟨a1, a2, a3, a4, a5, a6⟩, a7⟩ := a
    refine ⟨⟨a1, a2, a3, fun x hx => ?_, fun x y hx hy => ?_, fun e' he' hq => ?_⟩, a7⟩
    · rw [hi _ (by omega)]
      exact a4 x hx
    · rw [hi _ (by omega), hi _ (by omega)]
      exact a5 x y hx hy
    · rw [ei] at hq
      obtain ⟨c1, x, c2, c3, c4⟩ := a6 e' he' hq
      rw [hi _ (by omega), eg]
      refine ⟨c1, x, c2, ?_, c4⟩
      rw [hi _ (by omega)]
      exact c3
theorem ptS_cong2 {S S' : Nat → Bool} {c c' : Nat → Int} {dr : Nat} {deg : Int} (h : ∀ i, i < t 2 0 → S i = S' i ∧ c i = c' i) : ptS t S c dr deg = ptS t S' c' dr deg := by
  have e1 : ∀ j, j < t 2 0 → plc t S c j = plc t S' c' j := fun j hj => by
    unfold plc
    refine fb_ct_cong (fun i hi => ?_)
    have : bfr c i j = bfr c' i j := by unfold bfr; rw [(h i hi).2, (h j hj).2]
    rw [this, (h i hi).1]
  have e2 : ∀ j, j < t 2 0 → kpt t S c dr j = kpt t S' c' dr j := fun j hj => by
    unfold kpt fat
    rw [e1 j hj, pan_cong (fun i hi => (h i hi).1), (h j hj).1]
  unfold ptS smS
  rw [fb_ct_cong e2, fb_si_cong (fun i hi => by rw [e2 i hi, (h i hi).2])]
theorem ptE_eq {e r dr : Nat} {bar : Int} (h11 : t 2 0 ≤ 11) (h0 : n' (6 * e + r) = n (6 * e + r)) (hm : ∀ j, j < 11 → n' (36 + 11 * (6 * e + r) + j) = n (36 + 11 * (6 * e + r) + j)) (h1 : n' (432 + (6 * e + r)) = n (432 + (6 * e + r))) (h2 : n' (468 + (6 * e + r)) = n (468 + (6 * e + r))) (h3 : n' (504 + (6 * e + r)) = n (504 + (6 * e + r))) (h4 : n' (540 + (6 * e + r)) = n (540 + (6 * e + r))) : ptE t n' e r dr bar = ptE t n e r dr bar := by
  unfold ptE
  rw [h0, h1, h2, h3, h4]
  refine ite_congr rfl (fun _ => rfl) (fun _ => ptS_cong2 (fun i hi => ?_))
  have := hm i (by omega)
  constructor
  · unfold prt
    show (!decide (n' (36 + 11 * (6 * e + r) + i) = -1) && _) = (!decide (n (36 + 11 * (6 * e + r) + i) = -1) && _)
    rw [this]
  · show cvl _ _ _ _ (n' (36 + 11 * (6 * e + r) + i)) = cvl _ _ _ _ (n (36 + 11 * (6 * e + r) + i))
    rw [this]
/-- the same below 612: the same POINTS -/
theorem ptE_lo {e r dr : Nat} {bar : Int} (he : e < 6) (hr : r < 6) (h11 : t 2 0 ≤ 11) (h : ∀ k, k < 576 → n' k = n k) : ptE t n' e r dr bar = ptE t n e r dr bar := ptE_eq h11 (h _ (by omega)) (fun j hj => h _ (by omega)) (h _ (by omega)) (h _ (by omega)) (h _ (by omega)) (h _ (by omega))
/-- a slot moved: the class's State goes with it -/
theorem g_S.sch {c : Nat} {M M' : q_M} (h : g_S c M t n) (hJ : b_J t n) (h6 : t 8 0 ≤ 6) (h7 : t 0 0 ≤ 6) (h11 : t 2 0 ≤ 11) {e r : Nat} (hB : b_B t n e r) (hc : sch (6 * e + r) n n') (e0 : M'.1 c = M.1 c) (e1 : M'.1 (c + 1) = M.1 (c + 1)) (e3 : M'.1 (c + 3) = M.1 (c + 3)) (e4 : M'.1 (c + 4) = M.1 (c + 4)) (e5 : M'.1 (c + 5) = M.1 (c + 5)) (e6 : M'.1 (c + 6) = M.1 (c + 6)) (e7 : M'.1 (c + 7) = M.1 (c + 7)) (ho : ∀ i, ¬ (16 * (6 * e + r) < i ∧ i < 16 * (6 * e + r) + 16) → M'.1 (c + 2) i = M.1 (c + 2) i) (hn : M'.1 (c + 2) (16 * (6 * e + r) + 1) = Int32.ofInt (n' (540 + (6 * e + r))) ∧ M'.1 (c + 2) (16 * (6 * e + r) + 2) = Int32.ofInt (n' (432 + (6 * e + r))) ∧ M'.1 (c + 2) (16 * (6 * e + r) + 3) = Int32.ofInt (n' (468 + (6 * e + r))) ∧ M'.1 (c + 2) (16 * (6 * e + r) + 4) = Int32.ofInt (n' (504 + (6 * e + r)))) (hm : ∀ j, j < 11 → M'.1 (c + 2) (16 * (6 * e + r) + 5 + j) = Int32.ofInt (n' (36 + 11 * (6 * e + r) + j))) : g_S c M' t n' := by
  have he := hB.2.1
  have hr := hB.2.2.1
  have hng := (hJ.at h6 hB).2.1
  have hi : ∀ k, 576 ≤ k → n' k = n k := fun k hk => hc k (by omega) (by omega) (by omega) (by omega) (by omega)
  have hl : ∀ k, k < 36 → n' k = n k := fun k hk => hc k (by omega) (by omega) (by omega) (by omega) (by omega)
  have hp : ∀ s, s < 36 → n (576 + s) = 1 → ∀ dr bar, ptE t n' (s / 6) (s % 6) dr bar = ptE t n (s / 6) (s % 6) dr bar := fun s hs hg dr bar => by
    have hne : ¬ s = 6 * e + r := fun z => by rw [z] at hg; omega
    have es : 6 * (s / 6) + s % 6 = s := by omega
    refine ptE_eq h11 ?_ (fun j hj => ?_) ?_ ?_ ?_ ?_ <;> rw [es] <;> exact hc _ (by omega) (by omega) (by omega) (by omega) (by omega)
  have eg : ∀ e', gvN t n' e' = gvN t n e' := fun e' => gvN_eq (fun r' _ => hi _ (by omega))
  have ei : ∀ e', inE n' e' = inE n e' := fun e' => inE_eq (hi _ (by omega))
  have et : ∀ e', e' < t 8 0 → toE t n' e' (t 1 0) (-1) = toE t n e' (t 1 0) (-1) := fun e' he' => by
    unfold toE
    refine fb_si_cong (fun r' hr' => ?_)
    unfold tof
    rw [hi (618 + e') (by omega), hi (576 + (6 * e' + r')) (by omega)]
    by_cases q : n (618 + e') ≤ (r' : Int) + 1 ∧ n (576 + (6 * e' + r')) = 1
    · rw [if_pos q, if_pos q]
      have := hp (6 * e' + r') (by omega) q.2 (t 1 0) (-1)
      rw [show (6 * e' + r') / 6 = e' by omega, show (6 * e' + r') % 6 = r' by omega] at this
      exact this
    · rw [if_neg q, if_neg q]
  obtain ⟨h1, h2, h3, h4, h5, h8⟩ := h
  refine ⟨fun s hs => ?_, fun s hs => ?_, fun e' he' => ?_, ?_, ?_, ?_⟩
  · rw [e1, h1 s hs]
    unfold lS
    rw [hl s hs]
  · have ep : pS t n' s = pS t n s := by
      unfold pS
      rw [hi (576 + s) (by omega)]
      by_cases q : n (576 + s) = 1
      · rw [if_pos q, if_pos q, hp s hs q]
      · rw [if_neg q, if_neg q]
    obtain ⟨⟨x1, x2, x3, x4, x5⟩, x6⟩ := h2 s hs
    by_cases q : s = 6 * e + r
    · subst q
      refine ⟨⟨?_, hn.1, hn.2.1, hn.2.2.1, hn.2.2.2⟩, hm⟩
      rw [ep, ho _ (by omega), x1]
    · rw [ep, ho _ (by omega), ho _ (by omega), ho _ (by omega), ho _ (by omega), ho _ (by omega), hc (540 + s) (by omega) (by omega) (by omega) (by omega) (by omega), hc (432 + s) (by omega) (by omega) (by omega) (by omega) (by omega), hc (468 + s) (by omega) (by omega) (by omega) (by omega) (by omega), hc (504 + s) (by omega) (by omega) (by omega) (by omega) (by omega)]
      refine ⟨⟨x1, x2, x3, x4, x5⟩, fun j hj => ?_⟩
      rw [ho _ (by omega), hc (36 + 11 * s + j) (by omega) (by omega) (by omega) (by omega) (by omega)]
      exact x6 j hj
  · rw [e3, e4, e6, e7, hi (612 + e') (by omega)]
    obtain ⟨x1, x2, x3, x4⟩ := h3 e' he'
    refine ⟨x1, ?_, ?_, ?_⟩
    · rw [x2]
      unfold bS
      rw [hi (618 + e') (by omega)]
    · rw [x3]
      unfold gS
      rw [eg]
    · rw [x4]
      unfold tS
      by_cases q : e' < t 8 0
      · rw [if_pos q, if_pos q, et e' q]
      · rw [if_neg q, if_neg q]
  · rw [e0, hi 631 (by omega)]
    exact h4
  · rw [e0, h5]
    unfold brd
    rw [hi 633 (by omega), hi 632 (by omega), hi (624 + (n 632).toNat) (by omega)]
  · intro q
    unfold isB at q
    rw [hi 633 (by omega)] at q
    obtain ⟨T, qu, x1, x2, x3, x4, x5, x6, x7⟩ := h8 q
    rw [hi 632 (by omega), hi (624 + (n 632).toNat) (by omega), e0, e5]
    refine ⟨T, qu, x1, x2, x3, x4, ⟨fun e' he' hq => x5 e' he' ?_, x6, fun i j a b z1 z2 z3 z4 z5 z6 z7 z8 => ?_⟩⟩
    · rw [ei] at hq
      exact hq
    · rw [hi 630 (by omega)] at z3 z4
      rw [hi _ (by omega)] at z5 z6
      rw [ei] at z7 z8
      exact x7 i j a b z1 z2 z3 z4 z5 z6 z7 z8
/-- the reference's row goes with it -/
theorem r_N.up {M : q_M} {k : Nat} {v : Int} {x : Int32} (h : r_N 284 0 M n) (hx : x = Int32.ofInt v) : r_N 284 0 (q_si M 284 k x) (up n k v) := by
  intro i hi
  rw [Nat.zero_add]
  by_cases q : i = k
  · subst q
    rw [q_si_s, up_s, hx]
  · rw [q_si_n q, up_n q]
    have := h i hi
    rw [Nat.zero_add] at this
    exact this
theorem r_N.of {M : q_M} (h : r_N 284 0 M n) (h' : ∀ k, k < 634 → n' k = n k) : r_N 284 0 M n' := fun i hi => by
  rw [h' i hi]
  exact h i hi
end AC
