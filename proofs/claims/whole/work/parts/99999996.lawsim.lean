/-! the reference's pile reads what the descent reads -/
section LU
variable {L : Nat} {xs : Nat → Int32} {E : q_E} {d : Nat} {M : q_M} {t : q_T} {n : sN} {Q : Option Value → q_M → Prop} {P : q_M → Prop}
variable {x : Nat → Nat} {len : Nat} {tok : Nat → Tok} {T : Nat}
def smV (L : Nat) (xs : Nat → Int32) (E : q_E) (x : Nat → Nat) (len : Nat) (tok : Nat → Tok) (T f : Nat) : Prop := ∀ (i o v l D : Nat) (P cs : List Nat) (M : q_M) (Q : Option Value → q_M → Prop), 12 * (T + 1 - i) + 1 ≤ f → P.length ≤ 6 * o + 5 → cs.length ≤ 5 * v → mS M x len tok T l i P o v cs 1 →
  (∀ c v' j M', prs tok f 9 i o v = .inr ((c, v'), j) → q_fs lLr fLr M M' → lowD l M M' → mS M' x len tok T l j P o v' (cs ++ c) 2 → hdL L xs E D Q l 1 M') →
  (∀ k j M' u, prs tok f 9 i o v = .inl (k, j) → q_fs lLr fLr M M' → g_rb M' x len tok T k j → hdL L xs E D Q l u M') → hdL L xs E D Q l 1 M
def smT (L : Nat) (xs : Nat → Int32) (E : q_E) (x : Nat → Nat) (len : Nat) (tok : Nat → Tok) (T f : Nat) : Prop := ∀ (i o v l D : Nat) (P cs : List Nat) (M : q_M) (Q : Option Value → q_M → Prop), 12 * (T + 1 - i) + 2 ≤ f → P.length ≤ 6 * o + 4 → cs.length ≤ 5 * v → rkC (tp P) ≤ 1 → mS M x len tok T l i P o v cs 1 →
  (∀ c v' j pend cs' M', prs tok f 7 i o v = .inr ((c, v'), j) → q_fs lLr fLr M M' → lowD l M M' → mS M' x len tok T l j (pend ++ P) o v' cs' 2 → cs' ++ pend = cs ++ c → (∀ a, a ∈ pend → rkC a = 2) → mulC (tok j) = 0 → hdL L xs E D Q l 1 M') →
  (∀ k j M' u, prs tok f 7 i o v = .inl (k, j) → q_fs lLr fLr M M' → g_rb M' x len tok T k j → hdL L xs E D Q l u M') → hdL L xs E D Q l 1 M
def smM (L : Nat) (xs : Nat → Int32) (E : q_E) (x : Nat → Nat) (len : Nat) (tok : Nat → Tok) (T f : Nat) : Prop := ∀ (i o v l D : Nat) (P cs : List Nat) (M : q_M) (Q : Option Value → q_M → Prop), 12 * (T + 1 - i) + 3 ≤ f → P.length ≤ 6 * o + 3 → cs.length ≤ 5 * v → rkC (tp P) = 0 → mS M x len tok T l i P o v cs 1 →
  (∀ c v' j pend cs' M', prs tok f 5 i o v = .inr ((c, v'), j) → q_fs lLr fLr M M' → lowD l M M' → mS M' x len tok T l j (pend ++ P) o v' cs' 2 → cs' ++ pend = cs ++ c → (∀ a, a ∈ pend → 1 ≤ rkC a) → mulC (tok j) = 0 → addC (tok j) = 0 → hdL L xs E D Q l 1 M') →
  (∀ k j M' u, prs tok f 5 i o v = .inl (k, j) → q_fs lLr fLr M M' → g_rb M' x len tok T k j → hdL L xs E D Q l u M') → hdL L xs E D Q l 1 M
/-- where a fact may stand -/
def tpF (a : Nat) : Prop := a = 99 ∨ a = 41 ∨ a = 29 ∨ a = 28
def smF (L : Nat) (xs : Nat → Int32) (E : q_E) (x : Nat → Nat) (len : Nat) (tok : Nat → Tok) (T f : Nat) : Prop := ∀ (i o v l D k : Nat) (P0 cs : List Nat) (M : q_M) (Q : Option Value → q_M → Prop), 12 * (T + 1 - i) + 4 ≤ f → k + P0.length ≤ 6 * o + 2 → cs.length ≤ 5 * v → tpF (tp P0) → k ≤ o → mS M x len tok T l i (nts k ++ P0) o v cs 0 →
  (∀ c v' j M', prs tok f 4 i o v = .inr ((c, v'), j) → q_fs lLr fLr M M' → lowD l M M' → mS M' x len tok T l j P0 (o - k) v' (cs ++ c ++ nts k) 3 → hdL L xs E D Q l 1 M') →
  (∀ k' j M' u, prs tok f 4 i o v = .inl (k', j) → q_fs lLr fLr M M' → g_rb M' x len tok T k' j → hdL L xs E D Q l u M') → hdL L xs E D Q l 1 M
def smB (L : Nat) (xs : Nat → Int32) (E : q_E) (x : Nat → Nat) (len : Nat) (tok : Nat → Tok) (T f : Nat) : Prop := ∀ (i o v l D : Nat) (P cs : List Nat) (M : q_M) (Q : Option Value → q_M → Prop), 12 * (T + 1 - i) + 5 ≤ f → P.length ≤ 6 * o + 1 → cs.length ≤ 5 * v → (tp P = 99 ∨ tp P = 41 ∨ tp P = 29) → mS M x len tok T l i P o v cs 0 →
  (∀ c v' j pend cs' M', prs tok f 2 i o v = .inr ((c, v'), j) → q_fs lLr fLr M M' → lowD l M M' → mS M' x len tok T l j (pend ++ P) o v' cs' 3 → cs' ++ pend = cs ++ c → (∀ a, a ∈ pend → a = 28) → ¬ tok j = (1, 19) → hdL L xs E D Q l 1 M') →
  (∀ k j M' u, prs tok f 2 i o v = .inl (k, j) → q_fs lLr fLr M M' → g_rb M' x len tok T k j → hdL L xs E D Q l u M') → hdL L xs E D Q l 1 M
def smX (L : Nat) (xs : Nat → Int32) (E : q_E) (x : Nat → Nat) (len : Nat) (tok : Nat → Tok) (T f : Nat) : Prop := ∀ (i o v l D : Nat) (P cs : List Nat) (M : q_M) (Q : Option Value → q_M → Prop), 12 * (T + 1 - i) + 6 ≤ f → P.length ≤ 6 * o → cs.length ≤ 5 * v → (tp P = 99 ∨ tp P = 41) → mS M x len tok T l i P o v cs 0 →
  (∀ c v' j pend cs' M', prs tok f 0 i o v = .inr ((c, v'), j) → q_fs lLr fLr M M' → lowD l M M' → mS M' x len tok T l j (pend ++ P) o v' cs' 3 → cs' ++ pend = cs ++ c → (∀ a, a ∈ pend → a = 28 ∨ a = 29) → ¬ tok j = (1, 19) → ¬ tok j = (1, 18) → hdL L xs E D Q l 1 M') →
  (∀ k j M' u, prs tok f 0 i o v = .inl (k, j) → q_fs lLr fLr M M' → g_rb M' x len tok T k j → hdL L xs E D Q l u M') → hdL L xs E D Q l 1 M
theorem mS.o6 {l i o v rd : Nat} {P cs : List Nat} (m : mS M x len tok T l i P o v cs rd) : o ≤ 6 := m.2.2.2.1.2
theorem mS.v40 {l i o v rd : Nat} {P cs : List Nat} (m : mS M x len tok T l i P o v cs rd) : v ≤ 40 := m.2.2.2.2.1.2
theorem mS.v9 {l i o v rd : Nat} {P cs : List Nat} (m : mS M x len tok T l i P o v cs rd) : ∀ i, (tok i).2 ≤ 9999 := m.1.tt.v9
theorem mS.iT {l i o v rd : Nat} {P cs : List Nat} (m : mS M x len tok T l i P o v cs rd) : i ≤ T := m.1.2.1
theorem len_eq {a b c e : List Nat} (h : a ++ b = c ++ e) : a.length + b.length = c.length + e.length := by
  have := congrArg List.length h
  rw [List.length_append, List.length_append] at this
  exact this
set_option maxRecDepth 100000 in
set_option maxHeartbeats 4000000 in
theorem s_value {f : Nat} (ih : smM L xs E x len tok T f) : smV L xs E x len tok T (f + 1) := by
  intro i o v l D P cs M Q hm hP hc m hok hno
  have o6 := m.o6
  have v40 := m.v40
  have ht := m.v9
  have iT := m.iT
  have ep := prs_9 (tok := tok) (f := f) (i := i) (o := o) (v := v)
  refine k_atValue m (by omega) (by omega) (fun e => ⟨fun z M1 hf1 lo1 m1 => ?_, fun z M1 hf1 g1 => hno 4 i M1 1 (by rw [ep, if_pos e, if_pos (by omega)]) hf1 g1⟩) (fun e e1 M1 hf1 g1 => hno 1 i M1 1 (by rw [ep, if_neg e, if_pos e1]) hf1 g1) (fun e e1 e2 M1 hf1 g1 => hno 4 i M1 1 (by rw [ep, if_neg e, if_neg e1, if_pos (by omega)]) hf1 g1) (fun e e1 e2 M1 hf1 lo1 m1 => hok _ _ _ M1 (by rw [ep, if_neg e, if_neg e1, if_neg (by omega)]) hf1 lo1 m1)
  rw [if_pos e, if_neg (by omega)] at ep
  refine ih (i + 1) (o + 1) v l D (40 :: P) cs M1 Q (by have := m1.iT; omega) (by rw [List.length_cons]; omega) hc rfl m1 (fun c v' j pend cs' M2 er hf2 lo2 m2 eq hpe hmu had => ?_) (fun k j M2 u er hf2 g2 => hno k j M2 u (by rw [ep, bd_no er]) (hf1.tr hf2) g2)
  rw [bd_ok er] at ep
  obtain ⟨⟨p1, p2, p3, p4⟩, p5, -, -, p6, -⟩ := prs_pK ht (by omega) (by omega) v40 er
  obtain ⟨q1, q2, q3, q4⟩ := p6 (Or.inl rfl)
  have le := len_eq eq
  refine k_atEnd m2 had hmu rfl hpe (by omega) (by rw [List.length_cons]; omega) (fun _ P1 eP _ => ?_) (fun _ => by omega) (fun n => absurd rfl n) (fun n => absurd rfl n) (fun z z' => absurd z' (show ¬ 40 ≤ 27 by decide)) (fun z z' => absurd z' (show ¬ 40 ≤ 27 by decide))
  cases eP
  refine ⟨fun e2 M3 hf3 lo3 m3 => ?_, fun e2 M3 hf3 g3 => hno 1 j M3 1 (by rw [ep, if_neg e2]) ((hf1.tr hf2).tr hf3) g3⟩
  rw [eq, show o + 1 - 1 = o by omega] at m3
  exact hok c v' (j + 1) M3 (by rw [ep, if_pos e2]) ((hf1.tr hf2).tr hf3) ((lo1.tr lo2).tr lo3) m3
set_option maxRecDepth 100000 in
set_option maxHeartbeats 4000000 in
theorem s_term {f : Nat} (ih : ∀ g, g ≤ f → smV L xs E x len tok T g) : smT L xs E x len tok T (f + 1) := by
  intro i o v l D P cs M Q hm hP hc hrk m hok hno
  have o6 := m.o6
  have v40 := m.v40
  have ht := m.v9
  have iT := m.iT
  -- the rest
  have W : ∀ gf, gf ≤ f → ∀ j v1 pend cs1 C M1, 12 * (T + 1 - j) ≤ gf → q_fs lLr fLr M M1 → lowD l M M1 → mS M1 x len tok T l j (pend ++ P) o v1 cs1 2 → cs1 ++ pend = cs ++ C → C.length + 1 ≤ 2 * (v1 - v) → v ≤ v1 → (∀ a, a ∈ pend → rkC a = 2) → (∀ c v' j2 pend2 cs2 M2, prs tok gf 8 j o v1 = .inr ((c, v'), j2) → q_fs lLr fLr M M2 → lowD l M M2 → mS M2 x len tok T l j2 (pend2 ++ P) o v' cs2 2 → cs2 ++ pend2 = cs ++ (C ++ c) → (∀ a, a ∈ pend2 → rkC a = 2) → mulC (tok j2) = 0 → hdL L xs E D Q l 1 M2) → (∀ k j2 M2 u, prs tok gf 8 j o v1 = .inl (k, j2) → q_fs lLr fLr M M2 → g_rb M2 x len tok T k j2 → hdL L xs E D Q l u M2) → hdL L xs E D Q l 1 M1 := by
    intro gf
    induction gf with
    | zero => intro _ j v1 pend cs1 C M1 hm1 _ _ m1; have := m1.iT; omega
    | succ gf ihg =>
      intro hgf j v1 pend cs1 C M1 hm1 hf1 lo1 m1 eq hC hv1 hpe k1 k0
      have le := len_eq eq
      have v1b := m1.v40
      have jT := m1.iT
      by_cases e : mulC (tok j) = 0
      · refine k1 [] v1 j pend cs1 M1 (by rw [prs_8, if_pos e]) hf1 lo1 m1 ?_ hpe e
        rw [List.append_nil]
        exact eq
      · have cb := mulC_b e
        have ep : prs tok (gf + 1) 8 j o v1 = bd (prs tok gf 9 (j + 1) o v1) (fun a j2 => bd (prs tok gf 8 j2 o a.2) (fun b j2 => .inr ((a.1 ++ mulC (tok j) :: b.1, b.2), j2))) := by rw [prs_8, if_neg e]
        have a0 : addC (tok j) = 0 := by
          refine Classical.byContradiction (fun z => ?_)
          unfold addC at z
          unfold mulC at e
          split at z
          · next q => rw [q] at e; exact e (by decide)
          · split at z
            · next q => rw [q] at e; exact e (by decide)
            · exact z rfl
        have rk : rkC (mulC (tok j)) = 2 := by
          unfold rkC
          rw [if_pos (by omega)]
        refine k_atJoin m1 (jn_mul a0 e) rk (by omega) (by omega) (fun a ha => by rw [hpe a ha]; omega) (by omega) (by omega) (by omega) (fun M2 hf2 lo2 m2 => ?_)
        rw [eq] at m2
        refine ih gf (by omega) (j + 1) o v1 l D (mulC (tok j) :: P) (cs ++ C) M2 Q (by have := m2.iT; omega) (by rw [List.length_cons]; omega) (by rw [List.length_append]; omega) m2 (fun c v' j2 M3 er hf3 lo3 m3 => ?_) (fun k j2 M3 u er hf3 g3 => k0 k j2 M3 u (by rw [ep, bd_no er]) ((hf1.tr hf2).tr hf3) g3)
        obtain ⟨⟨p1, p2, p3, p4⟩, p5, -, -, p6, -⟩ := prs_pK ht (by omega) o6 v1b er
        obtain ⟨q1, q2, q3, q4⟩ := p6 (Or.inr (Or.inr rfl))
        rw [bd_ok er] at ep
        refine ihg (by omega) j2 v' [mulC (tok j)] (cs ++ C ++ c) (C ++ (c ++ [mulC (tok j)])) M3 (by omega) ((hf1.tr hf2).tr hf3) ((lo1.tr lo2).tr lo3) m3 (by simp) (by rw [List.length_append, List.length_append]; show C.length + (c.length + 1) + 1 ≤ _; omega) (by omega) (fun a ha => by rw [List.mem_singleton.mp ha]; exact rk) (fun c2 v2 j3 pend2 cs2 M4 er2 hf4 lo4 m4 eq4 hpe4 hmu4 => ?_) (fun k j3 M4 u er2 hf4 g4 => k0 k j3 M4 u (by rw [ep, bd_no er2]) hf4 g4)
        exact k1 _ v2 j3 pend2 cs2 M4 (by rw [ep, bd_ok er2]) hf4 lo4 m4 (by rw [eq4]; simp) hpe4 hmu4
  have ep := prs_7 (tok := tok) (f := f) (i := i) (o := o) (v := v)
  refine ih f (Nat.le_refl _) i o v l D P cs M Q (by omega) (by omega) hc m (fun c v' j M1 er hf1 lo1 m1 => ?_) (fun k j M1 u er hf1 g1 => hno k j M1 u (by rw [ep, bd_no er]) hf1 g1)
  obtain ⟨⟨p1, p2, p3, p4⟩, p5, -, -, p6, -⟩ := prs_pK ht (by omega) o6 v40 er
  obtain ⟨q1, q2, q3, q4⟩ := p6 (Or.inr (Or.inr rfl))
  rw [bd_ok er] at ep
  have jT := m1.iT
  refine W f (Nat.le_refl _) j v' [] (cs ++ c) c M1 (by omega) hf1 lo1 m1 (by rw [List.append_nil]) (by omega) p1 (fun a ha => (by cases ha)) (fun c2 v2 j2 pend cs2 M2 er2 hf2 lo2 m2 eq hpe hmu => ?_) (fun k j2 M2 u er2 hf2 g2 => hno k j2 M2 u (by rw [ep, bd_no er2]) hf2 g2)
  exact hok _ v2 j2 pend cs2 M2 (by rw [ep, bd_ok er2]) hf2 lo2 m2 eq hpe hmu
set_option maxRecDepth 100000 in
set_option maxHeartbeats 4000000 in
theorem s_sum {f : Nat} (ih : ∀ g, g ≤ f → smT L xs E x len tok T g) : smM L xs E x len tok T (f + 1) := by
  intro i o v l D P cs M Q hm hP hc hrk m hok hno
  have o6 := m.o6
  have v40 := m.v40
  have ht := m.v9
  have iT := m.iT
  have W : ∀ gf, gf ≤ f → ∀ j v1 pend cs1 C M1, 12 * (T + 1 - j) ≤ gf → q_fs lLr fLr M M1 → lowD l M M1 → mS M1 x len tok T l j (pend ++ P) o v1 cs1 2 → cs1 ++ pend = cs ++ C → C.length + 1 ≤ 2 * (v1 - v) → v ≤ v1 → (∀ a, a ∈ pend → 1 ≤ rkC a) → mulC (tok j) = 0 → (∀ c v' j2 pend2 cs2 M2, prs tok gf 6 j o v1 = .inr ((c, v'), j2) → q_fs lLr fLr M M2 → lowD l M M2 → mS M2 x len tok T l j2 (pend2 ++ P) o v' cs2 2 → cs2 ++ pend2 = cs ++ (C ++ c) → (∀ a, a ∈ pend2 → 1 ≤ rkC a) → mulC (tok j2) = 0 → addC (tok j2) = 0 → hdL L xs E D Q l 1 M2) → (∀ k j2 M2 u, prs tok gf 6 j o v1 = .inl (k, j2) → q_fs lLr fLr M M2 → g_rb M2 x len tok T k j2 → hdL L xs E D Q l u M2) → hdL L xs E D Q l 1 M1 := by
    intro gf
    induction gf with
    | zero => intro _ j v1 pend cs1 C M1 hm1 _ _ m1; have := m1.iT; omega
    | succ gf ihg =>
      intro hgf j v1 pend cs1 C M1 hm1 hf1 lo1 m1 eq hC hv1 hpe hmu k1 k0
      have le := len_eq eq
      have v1b := m1.v40
      have jT := m1.iT
      by_cases e : addC (tok j) = 0
      · refine k1 [] v1 j pend cs1 M1 (by rw [prs_6, if_pos e]) hf1 lo1 m1 ?_ hpe hmu e
        rw [List.append_nil]
        exact eq
      · have cb := addC_b e
        have ep : prs tok (gf + 1) 6 j o v1 = bd (prs tok gf 7 (j + 1) o v1) (fun a j2 => bd (prs tok gf 6 j2 o a.2) (fun b j2 => .inr ((a.1 ++ addC (tok j) :: b.1, b.2), j2))) := by rw [prs_6, if_neg e]
        have rk : rkC (addC (tok j)) = 1 := by
          unfold rkC
          rw [if_neg (by omega), if_pos (by omega)]
        refine k_atJoin m1 (jn_add e) rk (by omega) (by omega) hpe (by omega) (by omega) (by omega) (fun M2 hf2 lo2 m2 => ?_)
        rw [eq] at m2
        refine ih gf (by omega) (j + 1) o v1 l D (addC (tok j) :: P) (cs ++ C) M2 Q (by have := m2.iT; omega) (by rw [List.length_cons]; omega) (by rw [List.length_append]; omega) (by show rkC (addC (tok j)) ≤ 1; omega) m2 (fun c v' j2 pend2 cs2 M3 er hf3 lo3 m3 eq3 hpe3 hmu3 => ?_) (fun k j2 M3 u er hf3 g3 => k0 k j2 M3 u (by rw [ep, bd_no er]) ((hf1.tr hf2).tr hf3) g3)
        obtain ⟨⟨p1, p2, p3, p4⟩, p5, -, -, p6, -⟩ := prs_pK ht (by omega) o6 v1b er
        obtain ⟨q1, q2, q3, q4⟩ := p6 (Or.inr (Or.inl rfl))
        rw [bd_ok er] at ep
        have m3' : mS M3 x len tok T l j2 ((pend2 ++ [addC (tok j)]) ++ P) o v' cs2 2 := by
          rw [List.append_assoc]
          exact m3
        refine ihg (by omega) j2 v' (pend2 ++ [addC (tok j)]) cs2 (C ++ (c ++ [addC (tok j)])) M3 (by omega) ((hf1.tr hf2).tr hf3) ((lo1.tr lo2).tr lo3) m3' (by rw [← List.append_assoc, eq3]; simp) (by rw [List.length_append, List.length_append]; show C.length + (c.length + 1) + 1 ≤ _; omega) (by omega) (fun a ha => ?_) hmu3 (fun c2 v2 j3 pend4 cs4 M4 er2 hf4 lo4 m4 eq4 hpe4 hmu4 had4 => ?_) (fun k j3 M4 u er2 hf4 g4 => k0 k j3 M4 u (by rw [ep, bd_no er2]) hf4 g4)
        · rcases List.mem_append.mp ha with h | h
          · rw [hpe3 a h]
            omega
          · rw [List.mem_singleton.mp h]
            omega
        · exact k1 _ v2 j3 pend4 cs4 M4 (by rw [ep, bd_ok er2]) hf4 lo4 m4 (by rw [eq4]; simp) hpe4 hmu4 had4
  have ep := prs_5 (tok := tok) (f := f) (i := i) (o := o) (v := v)
  refine ih f (Nat.le_refl _) i o v l D P cs M Q (by omega) (by omega) hc (by omega) m (fun c v' j pend cs' M1 er hf1 lo1 m1 eq hpe hmu => ?_) (fun k j M1 u er hf1 g1 => hno k j M1 u (by rw [ep, bd_no er]) hf1 g1)
  obtain ⟨⟨p1, p2, p3, p4⟩, p5, -, -, p6, -⟩ := prs_pK ht (by omega) o6 v40 er
  obtain ⟨q1, q2, q3, q4⟩ := p6 (Or.inr (Or.inl rfl))
  rw [bd_ok er] at ep
  have jT := m1.iT
  refine W f (Nat.le_refl _) j v' pend cs' c M1 (by omega) hf1 lo1 m1 eq (by omega) p1 (fun a ha => by rw [hpe a ha]; omega) hmu (fun c2 v2 j2 pend2 cs2 M2 er2 hf2 lo2 m2 eq2 hpe2 hmu2 had2 => ?_) (fun k j2 M2 u er2 hf2 g2 => hno k j2 M2 u (by rw [ep, bd_no er2]) hf2 g2)
  exact hok _ v2 j2 pend2 cs2 M2 (by rw [ep, bd_ok er2]) hf2 lo2 m2 eq2 hpe2 hmu2 had2
theorem nts_un : ∀ {k k' : Nat} {P P' : List Nat}, nts k ++ P = nts k' ++ P' → ¬ tp P = 30 → ¬ tp P' = 30 → k' = k ∧ P' = P
  | 0, 0, _, _, e, _, _ => ⟨rfl, e.symm⟩
  | 0, k' + 1, P, P', e, h, _ => absurd (show tp P = 30 by have e : P = 30 :: (nts k' ++ P') := e; rw [e]; rfl) h
  | k + 1, 0, P, P', e, _, h => absurd (show tp P' = 30 by have e : 30 :: (nts k ++ P) = P' := e; rw [← e]; rfl) h
  | k + 1, k' + 1, P, P', e, h, h' => by
    have e : 30 :: (nts k ++ P) = 30 :: (nts k' ++ P') := e
    obtain ⟨h1, h2⟩ := nts_un (List.cons.inj e).2 h h'
    exact ⟨by omega, h2⟩
theorem nts_ex : ∀ (P : List Nat), ∃ k P2, P = nts k ++ P2 ∧ ¬ tp P2 = 30
  | [] => ⟨0, [], rfl, by decide⟩
  | a :: P => by
    by_cases q : a = 30
    · obtain ⟨k, P2, e, h⟩ := nts_ex P
      exact ⟨k + 1, P2, by rw [q, e]; rfl, h⟩
    · exact ⟨0, a :: P, rfl, q⟩
theorem tp_nts {k : Nat} {P : List Nat} (h : tpF (tp P)) : rkC (tp (nts k ++ P)) = 0 ∧ ¬ tp (nts k ++ P) = 40 ∧ ¬ (25 ≤ tp (nts k ++ P) ∧ tp (nts k ++ P) ≤ 27) := by
  cases k with
  | zero =>
    show rkC (tp P) = 0 ∧ ¬ tp P = 40 ∧ ¬ (25 ≤ tp P ∧ tp P ≤ 27)
    rcases h with h | h | h | h <;> rw [h] <;> decide
  | succ k =>
    show rkC 30 = 0 ∧ ¬ 30 = 40 ∧ ¬ (25 ≤ 30 ∧ 30 ≤ 27)
    decide
set_option maxRecDepth 100000 in
set_option maxHeartbeats 4000000 in
theorem s_fact {f : Nat} (ihX : smX L xs E x len tok T f) (ihF : smF L xs E x len tok T f) (ihS : smM L xs E x len tok T f) : smF L xs E x len tok T (f + 1) := by
  intro i o v l D k P0 cs M Q hm hP hc htp hko m hok hno
  have o6 := m.o6
  have v40 := m.v40
  have ht := m.v9
  have iT := m.iT
  have nl : (nts k ++ P0).length = k + P0.length := by rw [List.length_append, nts_len]
  have n30 : ¬ tp P0 = 30 := by unfold tpF at htp; omega
  have tn := tp_nts (k := k) htp
  have ep := prs_4 (tok := tok) (f := f) (i := i) (o := o) (v := v)
  refine k_atFact m (by omega) (fun e => ⟨fun z M1 hf1 lo1 m1 => ?_, fun z M1 hf1 g1 => hno 4 i M1 1 (by rw [ep, if_pos e, if_pos (by omega)]) hf1 g1⟩) (fun e e' => ⟨fun z M1 hf1 lo1 m1 => ?_, fun z M1 hf1 g1 => hno 4 i M1 1 (by rw [ep, if_neg e, if_pos e', if_pos (by omega)]) hf1 g1⟩) (fun e e' M1 hf1 lo1 m1 => ?_)
  · -- not
    rw [if_pos e, if_neg (by omega)] at ep
    have m1' : mS M1 x len tok T l (i + 1) (nts (k + 1) ++ P0) (o + 1) v cs 0 := m1
    refine ihF (i + 1) (o + 1) v l D (k + 1) P0 cs M1 Q (by have := m1.iT; omega) (by omega) hc htp (by omega) m1' (fun c v' j M2 er hf2 lo2 m2 => ?_) (fun k' j M2 u er hf2 g2 => hno k' j M2 u (by rw [ep, bd_no er]) (hf1.tr hf2) g2)
    rw [show o + 1 - (k + 1) = o - k by omega] at m2
    refine hok (c ++ [30]) v' j M2 (by rw [ep, bd_ok er]) (hf1.tr hf2) (lo1.tr lo2) ?_
    rw [show cs ++ (c ++ [30]) ++ nts k = cs ++ c ++ nts (k + 1) by show _ = cs ++ c ++ 30 :: nts k; simp]
    exact m2
  · -- [ .. ]
    rw [if_neg e, if_pos e', if_neg (by omega)] at ep
    refine ihX (i + 1) (o + 1) v l D (41 :: (nts k ++ P0)) cs M1 Q (by have := m1.iT; omega) (by rw [List.length_cons]; omega) hc (Or.inr rfl) m1 (fun c v' j pend cs' M2 er hf2 lo2 m2 eq hpe nand nor => ?_) (fun k' j M2 u er hf2 g2 => hno k' j M2 u (by rw [ep, bd_no er]) (hf1.tr hf2) g2)
    obtain ⟨⟨p1, p2, p3, p4⟩, p5, p6, -, -, -⟩ := prs_pK ht (by omega) (by omega) v40 er
    obtain ⟨q1, q2, q3, q4⟩ := p6 (Or.inl rfl)
    rw [bd_ok er] at ep
    have le := len_eq eq
    have mm : (10 - (o + 1)) * (v' - v) + (o + 1) * (v' - v) = 10 * (v' - v) := by rw [← Nat.add_mul, show 10 - (o + 1) + (o + 1) = 10 by omega]
    have m2b : (o + 1) * 2 ≤ (o + 1) * (v' - v) := Nat.mul_le_mul_left _ (by omega)
    refine k_atElse m2 nand ⟨show ¬ 41 = 28 by decide, show ¬ 41 = 29 by decide⟩ hpe (by omega) (by rw [List.length_cons]; omega) (fun z => absurd z nor) (fun _ z => absurd rfl z) (fun _ _ => ⟨k, P0, rfl, n30, by omega, by omega, fun _ e2 M3 hf3 lo3 m3 => ?_, fun _ e2 M3 hf3 g3 => hno 1 j M3 0 (by rw [ep, if_neg e2]) ((hf1.tr hf2).tr hf3) g3⟩)
    rw [eq, show o + 1 - 1 - k = o - k by omega] at m3
    exact hok c v' (j + 1) M3 (by rw [ep, if_pos e2]) ((hf1.tr hf2).tr hf3) ((lo1.tr lo2).tr lo3) m3
  · -- a comparison
    rw [if_neg e, if_neg e'] at ep
    refine ihS i o v l D (nts k ++ P0) cs M1 Q (by omega) (by omega) hc tn.1 m1 (fun c v' j pend cs' M2 er hf2 lo2 m2 eq hpe hmu had => ?_) (fun k' j M2 u er hf2 g2 => hno k' j M2 u (by rw [ep, bd_no er]) (hf1.tr hf2) g2)
    obtain ⟨⟨p1, p2, p3, p4⟩, p5, -, -, p6, -⟩ := prs_pK ht (by omega) o6 v40 er
    obtain ⟨q1, q2, q3, q4⟩ := p6 (Or.inl rfl)
    rw [bd_ok er] at ep
    have le := len_eq eq
    have jT := m2.iT
    refine k_atEnd m2 had hmu tn.1 hpe (by omega) (by omega) (fun z => absurd z tn.2.1) (fun z => absurd z tn.2.1) (fun _ _ hcm M3 hf3 lo3 m3 => ?_) (fun _ _ hcm M3 hf3 g3 => hno 1 j M3 1 (by rw [ep, if_pos hcm]) ((hf1.tr hf2).tr hf3) g3) (fun z z' => absurd ⟨z, z'⟩ tn.2.2) (fun z z' => absurd ⟨z, z'⟩ tn.2.2)
    rw [if_neg hcm] at ep
    rw [eq] at m3
    have cb := cmpC_b hcm
    have rk0 : rkC (cmpC (tok j)) = 0 := by
      unfold rkC
      rw [if_neg (by omega), if_neg (by omega)]
    refine ihS (j + 1) o v' l D (cmpC (tok j) :: (nts k ++ P0)) (cs ++ c) M3 Q (by have := m3.iT; omega) (by rw [List.length_cons]; omega) (by rw [List.length_append]; omega) rk0 m3 (fun c2 v2 j2 pend2 cs2 M4 er2 hf4 lo4 m4 eq4 hpe4 hmu4 had4 => ?_) (fun k' j2 M4 u er2 hf4 g4 => hno k' j2 M4 u (by rw [ep, bd_no er2]) (((hf1.tr hf2).tr hf3).tr hf4) g4)
    obtain ⟨⟨r1, r2, r3, r4⟩, r5, -, -, r6, -⟩ := prs_pK ht (by omega) o6 p2 er2
    obtain ⟨w1, w2, w3, w4⟩ := r6 (Or.inl rfl)
    rw [bd_ok er2] at ep
    have le4 := len_eq eq4
    rw [List.length_append] at le4
    have lim : cs2.length + pend2.length + 1 + k ≤ 255 := by omega
    refine k_atEnd m4 had4 hmu4 rk0 hpe4 (by omega) (by rw [List.length_cons]; omega) (fun z => absurd z (show ¬ cmpC (tok j) = 40 by omega)) (fun z => absurd z (show ¬ cmpC (tok j) = 40 by omega)) (fun _ z => absurd ⟨cb.1, cb.2.1⟩ z) (fun _ z => absurd ⟨cb.1, cb.2.1⟩ z) (fun _ _ c' P1 eP k' P2 eP2 hn30 hko' hlim M5 hf5 lo5 m5 => ?_) (fun _ _ => ⟨cmpC (tok j), nts k ++ P0, k, P0, rfl, rfl, n30, hko, lim⟩)
    obtain ⟨rfl, rfl⟩ := List.cons.inj eP
    obtain ⟨rfl, rfl⟩ : k' = k ∧ P2 = P0 := nts_un eP2 n30 hn30
    rw [eq4] at m5
    refine hok _ v2 j2 M5 (by rw [ep]) ((((hf1.tr hf2).tr hf3).tr hf4).tr hf5) ((((lo1.tr lo2).tr lo3).tr lo4).tr lo5) ?_
    rw [show cs ++ (c ++ (c2 ++ [cmpC (tok j)])) ++ nts k' = cs ++ c ++ c2 ++ [cmpC (tok j)] ++ nts k' by simp]
    exact m5
set_option maxRecDepth 100000 in
set_option maxHeartbeats 4000000 in
theorem s_both {f : Nat} (ih : ∀ g, g ≤ f → smF L xs E x len tok T g) : smB L xs E x len tok T (f + 1) := by
  intro i o v l D P cs M Q hm hP hc htp m hok hno
  have o6 := m.o6
  have v40 := m.v40
  have ht := m.v9
  have iT := m.iT
  have W : ∀ gf, gf ≤ f → ∀ j v1 pend cs1 C M1, 12 * (T + 1 - j) ≤ gf → q_fs lLr fLr M M1 → lowD l M M1 → mS M1 x len tok T l j (pend ++ P) o v1 cs1 3 → cs1 ++ pend = cs ++ C → C.length + 1 ≤ 5 * (v1 - v) → v ≤ v1 → (∀ a, a ∈ pend → a = 28) → (∀ c v' j2 pend2 cs2 M2, prs tok gf 3 j o v1 = .inr ((c, v'), j2) → q_fs lLr fLr M M2 → lowD l M M2 → mS M2 x len tok T l j2 (pend2 ++ P) o v' cs2 3 → cs2 ++ pend2 = cs ++ (C ++ c) → (∀ a, a ∈ pend2 → a = 28) → ¬ tok j2 = (1, 19) → hdL L xs E D Q l 1 M2) → (∀ k j2 M2 u, prs tok gf 3 j o v1 = .inl (k, j2) → q_fs lLr fLr M M2 → g_rb M2 x len tok T k j2 → hdL L xs E D Q l u M2) → hdL L xs E D Q l 1 M1 := by
    intro gf
    induction gf with
    | zero => intro _ j v1 pend cs1 C M1 hm1 _ _ m1; have := m1.iT; omega
    | succ gf ihg =>
      intro hgf j v1 pend cs1 C M1 hm1 hf1 lo1 m1 eq hC hv1 hpe k1 k0
      have le := len_eq eq
      have v1b := m1.v40
      have jT := m1.iT
      by_cases e : tok j = (1, 19)
      · have ep : prs tok (gf + 1) 3 j o v1 = bd (prs tok gf 4 (j + 1) o v1) (fun a j2 => bd (prs tok gf 3 j2 o a.2) (fun b j2 => .inr ((a.1 ++ 28 :: b.1, b.2), j2))) := by rw [prs_3, if_pos e]
        refine k_atAnd m1 e (by omega) hpe (by omega) (by omega) (fun M2 hf2 lo2 m2 => ?_)
        rw [eq] at m2
        refine ih gf (by omega) (j + 1) o v1 l D 0 (28 :: P) (cs ++ C) M2 Q (by have := m2.iT; omega) (by rw [List.length_cons]; omega) (by rw [List.length_append]; omega) (Or.inr (Or.inr (Or.inr rfl))) (by omega) m2 (fun c v' j2 M3 er hf3 lo3 m3 => ?_) (fun k j2 M3 u er hf3 g3 => k0 k j2 M3 u (by rw [ep, bd_no er]) ((hf1.tr hf2).tr hf3) g3)
        obtain ⟨⟨p1, p2, p3, p4⟩, p5, p6, -, -, -⟩ := prs_pK ht (by omega) o6 v1b er
        obtain ⟨q1, q2, q3, q4⟩ := p6 (Or.inr (Or.inr rfl))
        have mm : (10 - o) * (v' - v1) ≤ 10 * (v' - v1) := Nat.mul_le_mul_right _ (by omega)
        rw [bd_ok er] at ep
        rw [show cs ++ C ++ c ++ nts 0 = cs ++ C ++ c from List.append_nil _, Nat.sub_zero] at m3
        refine ihg (by omega) j2 v' [28] (cs ++ C ++ c) (C ++ (c ++ [28])) M3 (by omega) ((hf1.tr hf2).tr hf3) ((lo1.tr lo2).tr lo3) m3 (by simp) (by rw [List.length_append, List.length_append]; show C.length + (c.length + 1) + 1 ≤ _; omega) (by omega) (fun a ha => List.mem_singleton.mp ha) (fun c2 v2 j3 pend2 cs2 M4 er2 hf4 lo4 m4 eq4 hpe4 nand4 => ?_) (fun k j3 M4 u er2 hf4 g4 => k0 k j3 M4 u (by rw [ep, bd_no er2]) hf4 g4)
        exact k1 _ v2 j3 pend2 cs2 M4 (by rw [ep, bd_ok er2]) hf4 lo4 m4 (by rw [eq4]; simp) hpe4 nand4
      · refine k1 [] v1 j pend cs1 M1 (by rw [prs_3, if_neg e]) hf1 lo1 m1 ?_ hpe e
        rw [List.append_nil]
        exact eq
  have ep := prs_2 (tok := tok) (f := f) (i := i) (o := o) (v := v)
  refine ih f (Nat.le_refl _) i o v l D 0 P cs M Q (by omega) (by omega) hc (by unfold tpF; omega) (by omega) m (fun c v' j M1 er hf1 lo1 m1 => ?_) (fun k j M1 u er hf1 g1 => hno k j M1 u (by rw [ep, bd_no er]) hf1 g1)
  obtain ⟨⟨p1, p2, p3, p4⟩, p5, p6, -, -, -⟩ := prs_pK ht (by omega) o6 v40 er
  obtain ⟨q1, q2, q3, q4⟩ := p6 (Or.inr (Or.inr rfl))
  have mm : (10 - o) * (v' - v) ≤ 10 * (v' - v) := Nat.mul_le_mul_right _ (by omega)
  rw [bd_ok er] at ep
  have jT := m1.iT
  rw [show cs ++ c ++ nts 0 = cs ++ c from List.append_nil _, Nat.sub_zero] at m1
  refine W f (Nat.le_refl _) j v' [] (cs ++ c) c M1 (by omega) hf1 lo1 m1 (by rw [List.append_nil]) (by omega) p1 (fun a ha => (by cases ha)) (fun c2 v2 j2 pend cs2 M2 er2 hf2 lo2 m2 eq hpe nand => ?_) (fun k j2 M2 u er2 hf2 g2 => hno k j2 M2 u (by rw [ep, bd_no er2]) hf2 g2)
  exact hok _ v2 j2 pend cs2 M2 (by rw [ep, bd_ok er2]) hf2 lo2 m2 eq hpe nand
set_option maxRecDepth 100000 in
set_option maxHeartbeats 4000000 in
theorem s_test {f : Nat} (ih : ∀ g, g ≤ f → smB L xs E x len tok T g) : smX L xs E x len tok T (f + 1) := by
  intro i o v l D P cs M Q hm hP hc htp m hok hno
  have o6 := m.o6
  have v40 := m.v40
  have ht := m.v9
  have iT := m.iT
  have W : ∀ gf, gf ≤ f → ∀ j v1 pend cs1 C M1, 12 * (T + 1 - j) ≤ gf → q_fs lLr fLr M M1 → lowD l M M1 → mS M1 x len tok T l j (pend ++ P) o v1 cs1 3 → cs1 ++ pend = cs ++ C → C.length + 1 ≤ 5 * (v1 - v) → v ≤ v1 → (∀ a, a ∈ pend → a = 28 ∨ a = 29) → ¬ tok j = (1, 19) → (∀ c v' j2 pend2 cs2 M2, prs tok gf 1 j o v1 = .inr ((c, v'), j2) → q_fs lLr fLr M M2 → lowD l M M2 → mS M2 x len tok T l j2 (pend2 ++ P) o v' cs2 3 → cs2 ++ pend2 = cs ++ (C ++ c) → (∀ a, a ∈ pend2 → a = 28 ∨ a = 29) → ¬ tok j2 = (1, 19) → ¬ tok j2 = (1, 18) → hdL L xs E D Q l 1 M2) → (∀ k j2 M2 u, prs tok gf 1 j o v1 = .inl (k, j2) → q_fs lLr fLr M M2 → g_rb M2 x len tok T k j2 → hdL L xs E D Q l u M2) → hdL L xs E D Q l 1 M1 := by
    intro gf
    induction gf with
    | zero => intro _ j v1 pend cs1 C M1 hm1 _ _ m1; have := m1.iT; omega
    | succ gf ihg =>
      intro hgf j v1 pend cs1 C M1 hm1 hf1 lo1 m1 eq hC hv1 hpe nand k1 k0
      have le := len_eq eq
      have v1b := m1.v40
      have jT := m1.iT
      by_cases e : tok j = (1, 18)
      · have ep : prs tok (gf + 1) 1 j o v1 = bd (prs tok gf 2 (j + 1) o v1) (fun a j2 => bd (prs tok gf 1 j2 o a.2) (fun b j2 => .inr ((a.1 ++ 29 :: b.1, b.2), j2))) := by rw [prs_1, if_pos e]
        refine k_atElse m1 nand (by omega) hpe (by omega) (by omega) (fun _ M2 hf2 lo2 m2 => ?_) (fun z => absurd e z) (fun z => absurd e z)
        rw [eq] at m2
        refine ih gf (by omega) (j + 1) o v1 l D (29 :: P) (cs ++ C) M2 Q (by have := m2.iT; omega) (by rw [List.length_cons]; omega) (by rw [List.length_append]; omega) (Or.inr (Or.inr rfl)) m2 (fun c v' j2 pend2 cs2 M3 er hf3 lo3 m3 eq3 hpe3 nand3 => ?_) (fun k j2 M3 u er hf3 g3 => k0 k j2 M3 u (by rw [ep, bd_no er]) ((hf1.tr hf2).tr hf3) g3)
        obtain ⟨⟨p1, p2, p3, p4⟩, p5, p6, -, -, -⟩ := prs_pK ht (by omega) o6 v1b er
        obtain ⟨q1, q2, q3, q4⟩ := p6 (Or.inr (Or.inl rfl))
        have mm : (10 - o) * (v' - v1) ≤ 10 * (v' - v1) := Nat.mul_le_mul_right _ (by omega)
        rw [bd_ok er] at ep
        have m3' : mS M3 x len tok T l j2 ((pend2 ++ [29]) ++ P) o v' cs2 3 := by
          rw [List.append_assoc]
          exact m3
        refine ihg (by omega) j2 v' (pend2 ++ [29]) cs2 (C ++ (c ++ [29])) M3 (by omega) ((hf1.tr hf2).tr hf3) ((lo1.tr lo2).tr lo3) m3' (by rw [← List.append_assoc, eq3]; simp) (by rw [List.length_append, List.length_append]; show C.length + (c.length + 1) + 1 ≤ _; omega) (by omega) (fun a ha => ?_) nand3 (fun c2 v2 j3 pend4 cs4 M4 er2 hf4 lo4 m4 eq4 hpe4 nand4 nor4 => ?_) (fun k j3 M4 u er2 hf4 g4 => k0 k j3 M4 u (by rw [ep, bd_no er2]) hf4 g4)
        · rcases List.mem_append.mp ha with h | h
          · exact Or.inl (hpe3 a h)
          · exact Or.inr (List.mem_singleton.mp h)
        · exact k1 _ v2 j3 pend4 cs4 M4 (by rw [ep, bd_ok er2]) hf4 lo4 m4 (by rw [eq4]; simp) hpe4 nand4 nor4
      · refine k1 [] v1 j pend cs1 M1 (by rw [prs_1, if_neg e]) hf1 lo1 m1 ?_ hpe nand e
        rw [List.append_nil]
        exact eq
  have ep := prs_0 (tok := tok) (f := f) (i := i) (o := o) (v := v)
  refine ih f (Nat.le_refl _) i o v l D P cs M Q (by omega) (by omega) hc (by omega) m (fun c v' j pend cs' M1 er hf1 lo1 m1 eq hpe nand => ?_) (fun k j M1 u er hf1 g1 => hno k j M1 u (by rw [ep, bd_no er]) hf1 g1)
  obtain ⟨⟨p1, p2, p3, p4⟩, p5, p6, -, -, -⟩ := prs_pK ht (by omega) o6 v40 er
  obtain ⟨q1, q2, q3, q4⟩ := p6 (Or.inr (Or.inl rfl))
  have mm : (10 - o) * (v' - v) ≤ 10 * (v' - v) := Nat.mul_le_mul_right _ (by omega)
  rw [bd_ok er] at ep
  have jT := m1.iT
  refine W f (Nat.le_refl _) j v' pend cs' c M1 (by omega) hf1 lo1 m1 eq (by omega) p1 (fun a ha => Or.inl (hpe a ha)) nand (fun c2 v2 j2 pend2 cs2 M2 er2 hf2 lo2 m2 eq2 hpe2 nand2 nor2 => ?_) (fun k j2 M2 u er2 hf2 g2 => hno k j2 M2 u (by rw [ep, bd_no er2]) hf2 g2)
  exact hok _ v2 j2 pend2 cs2 M2 (by rw [ep, bd_ok er2]) hf2 lo2 m2 eq2 hpe2 nand2 nor2
theorem s_all : ∀ f, ∀ g, g ≤ f → smX L xs E x len tok T g ∧ smB L xs E x len tok T g ∧ smF L xs E x len tok T g ∧ smM L xs E x len tok T g ∧ smT L xs E x len tok T g ∧ smV L xs E x len tok T g := by
  intro f
  induction f with
  | zero =>
    intro g hg
    obtain rfl : g = 0 := by omega
    exact ⟨fun _ _ _ _ _ _ _ _ _ hm => by omega, fun _ _ _ _ _ _ _ _ _ hm => by omega, fun _ _ _ _ _ _ _ _ _ _ hm => by omega, fun _ _ _ _ _ _ _ _ _ hm => by omega, fun _ _ _ _ _ _ _ _ _ hm => by omega, fun _ _ _ _ _ _ _ _ _ hm => by omega⟩
  | succ f ih =>
    intro g hg
    by_cases q : g = f + 1
    · subst q
      have i0 := ih f (Nat.le_refl _)
      exact ⟨s_test (fun g hg => (ih g hg).2.1), s_both (fun g hg => (ih g hg).2.2.1), s_fact i0.1 i0.2.2.1 i0.2.2.2.1, s_sum (fun g hg => (ih g hg).2.2.2.2.1), s_term (fun g hg => (ih g hg).2.2.2.2.2), s_value i0.2.2.2.1⟩
    · exact ih g (by omega)
end LU
