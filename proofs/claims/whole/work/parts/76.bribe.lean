/-! bribes: as few by the lowest marks as by any -/
def mB (n : sN) (e r : Nat) (B : Nat → Bool) : Nat → Int := fun i => if B i = true then 20 else mk n e r i
abbrev cB (t : q_T) (n : sN) (e r : Nat) (B : Nat → Bool) : Nat → Int := cvt t (mB n e r B) (n (432 + (6 * e + r))) (n (468 + (6 * e + r))) (n (504 + (6 * e + r)))
def pB (t : q_T) (n : sN) (e r : Nat) (B : Nat → Bool) : Int := ptS t (onE t e) (cB t n e r B) (t 1 0) (t 7 (n (6 * e + r)).toNat)
/-- the place of a mark in its sort -/
def plm (t : q_T) (n : sN) (e r i : Nat) : Nat := rk (ofS t (onE t e) (t 4 i)) (fun j => mk n e r j) (t 2 0) i
def kxy (x y z s : Nat) : Nat := if s < 2 then x else if s = 2 then y else z
def bL (t : q_T) (n : sN) (e r x y z : Nat) : Nat → Bool := fun i => decide (plm t n e r i < kxy x y z (t 4 i))
def SB (t : q_T) (n : sN) (e r : Nat) (thr : Int) (k : Nat) : Prop := ∃ B : Nat → Bool, (∀ i, i < t 2 0 → B i = true → onE t e i = true) ∧ fb_ct B (t 2 0) = k ∧ thr < pB t n e r B
def TR (t : q_T) (n : sN) (e r : Nat) (thr : Int) (x y z : Nat) : Prop := x ≤ pan t (onE t e) (t 9 e) ∧ y ≤ pan t (onE t e) 2 ∧ z ≤ pan t (onE t e) 3 ∧ thr < pB t n e r (bL t n e r x y z)
section BR
variable {L : Nat} {xs : Nat → Int32} {E : q_E} {d : Nat} {M : q_M} {t : q_T} {n : sN} {Q : Option Value → q_M → Prop} {P : q_M → Prop}
theorem mB_b (g : g_R M t n) {e r : Nat} (B : Nat → Bool) (he : e < t 8 0) (hr : r < t 0 0) : ∀ i, i < 11 → -1 ≤ mB n e r B i ∧ mB n e r B i ≤ 20 := by
  intro i hi
  have hs := (g.bs he hr).2.1 i hi
  unfold mB
  split
  · omega
  · exact ⟨hs.1, hs.2.1⟩
theorem mB_0 (g : g_R M t n) {e r : Nat} (B : Nat → Bool) (he : e < t 8 0) (hr : r < t 0 0) (hg : n (576 + (6 * e + r)) = 1) (h0 : n (540 + (6 * e + r)) = 0) : ∀ i, i < t 2 0 → onE t e i = true → 0 ≤ mB n e r B i := by
  intro i hi q
  have := mk_0 g he hr hg h0 i hi q
  unfold mB
  split
  · omega
  · exact this
theorem cB_b (g : g_R M t n) {e r : Nat} (B : Nat → Bool) (he : e < t 8 0) (hr : r < t 0 0) (hg : n (576 + (6 * e + r)) = 1) (h0 : n (540 + (6 * e + r)) = 0) : ∀ i, i < t 2 0 → onE t e i = true → 0 ≤ cB t n e r B i ∧ cB t n e r B i ≤ 20 := by
  intro i hi q
  have h11 := g.j11
  have hs := g.bs he hr
  exact ⟨cvl_0 (mB_0 g B he hr hg h0 i hi q) hs.2.2.1.1, (cvl_b (mB_b g B he hr i (by omega)) hs.2.2.1.1).2⟩
theorem pB_b (g : g_R M t n) {e r : Nat} (B : Nat → Bool) (he : e < t 8 0) (hr : r < t 0 0) (hg : n (576 + (6 * e + r)) = 1) (h0 : n (540 + (6 * e + r)) = 0) : 0 ≤ pB t n e r B ∧ pB t n e r B ≤ 18000 := by
  have hs := g.bs he hr
  have hdg := g.bd (i := (n (6 * e + r)).toNat) (by have := hs.1; omega)
  exact ptS_b (cB_b g B he hr hg h0) ⟨by omega, by omega⟩
theorem pB_cong (g : g_R M t n) {e r : Nat} {B B' : Nat → Bool} (he : e < t 8 0) (hr : r < t 0 0) (hg : n (576 + (6 * e + r)) = 1) (h0 : n (540 + (6 * e + r)) = 0) (h : ∀ i, i < t 2 0 → onE t e i = true → B i = B' i) : pB t n e r B = pB t n e r B' := by
  have ec : ∀ i, i < t 2 0 → onE t e i = true → cB t n e r B i = cB t n e r B' i := fun i hi q => by
    show cvl _ _ _ _ (mB n e r B i) = cvl _ _ _ _ (mB n e r B' i)
    unfold mB
    rw [h i hi q]
  have b1 := cB_b g B he hr hg h0
  have b2 := cB_b g B' he hr hg h0
  exact Int.le_antisymm (ptS_le (fun i hi => (g.bj hi).2) (fun i hi q => Int.le_of_eq (ec i hi q)) (fun i hi q => ⟨(b1 i hi q).1, (b2 i hi q).2⟩) (Int.natCast_nonneg _)) (ptS_le (fun i hi => (g.bj hi).2) (fun i hi q => Int.le_of_eq (ec i hi q).symm) (fun i hi q => ⟨(b2 i hi q).1, (b1 i hi q).2⟩) (Int.natCast_nonneg _))
/-- the sorts of a panel -/
theorem on_s {e i : Nat} (h9 : t 9 e ≤ 1) (h : onE t e i = true) : (t 9 e = 0 ∧ t 4 i = 0) ∨ (t 9 e = 1 ∧ 1 ≤ t 4 i) := by
  have h : (decide (0 < t 4 i) == decide (t 9 e = 1)) = true := h
  rw [beq_iff_eq] at h
  by_cases q : t 9 e = 1
  · rw [decide_eq_true q] at h
    exact Or.inr ⟨q, of_decide_eq_true h⟩
  · rw [decide_eq_false q] at h
    exact Or.inl ⟨by omega, by have := of_decide_eq_false h; omega⟩
theorem TR_SB (g : g_R M t n) {e r x y z : Nat} {thr : Int} (he : e < t 8 0) (hr : r < t 0 0) (hg : n (576 + (6 * e + r)) = 1) (h0 : n (540 + (6 * e + r)) = 0) (h : TR t n e r thr x y z) : SB t n e r thr (x + y + z) := by
  obtain ⟨hx, hy, hz, hp⟩ := h
  have h9 := (g.be he).1
  refine ⟨fun i => onE t e i && bL t n e r x y z i, fun i hi q => (Bool.and_eq_true _ _ |>.mp q).1, ?_, ?_⟩
  · have key : ∀ s, kxy x y z s ≤ pan t (onE t e) s → fb_ct (fun i => (onE t e i && bL t n e r x y z i) && decide (t 4 i = s)) (t 2 0) = kxy x y z s := by
      intro s hs
      obtain ⟨R, hR⟩ := isR_ex (A := ofS t (onE t e) s) (c := fun j => mk n e r j) (k := t 2 0)
      refine Eq.trans (fb_ct_cong (fun i hi => ?_)) (hR.ct (kxy x y z s) hs)
      show ((onE t e i && bL t n e r x y z i) && decide (t 4 i = s)) = ((onE t e i && decide (t 4 i = s)) && decide (rk (ofS t (onE t e) s) (fun j => mk n e r j) (t 2 0) i < kxy x y z s))
      by_cases q : t 4 i = s
      · unfold bL plm
        rw [q, decide_eq_true rfl, Bool.and_true, Bool.and_true]
      · rw [decide_eq_false q, Bool.and_false, Bool.and_false, Bool.false_and]
    have emp : ∀ s, (∀ i, i < t 2 0 → onE t e i = true → ¬ t 4 i = s) → fb_ct (fun i => (onE t e i && bL t n e r x y z i) && decide (t 4 i = s)) (t 2 0) = 0 ∧ pan t (onE t e) s = 0 := fun s hs => by
      refine ⟨fb_ct_zero.mpr (fun i hi => ?_), fb_ct_zero.mpr (fun i hi => ?_)⟩
      · cases q : onE t e i with
        | false => rfl
        | true => rw [decide_eq_false (hs i hi q), Bool.and_false]
      · cases q : onE t e i with
        | false => rfl
        | true => rw [decide_eq_false (hs i hi q), Bool.and_false]
    rw [ct_sorts (t := t) _ (fun j hj => (g.bj hj).2)]
    by_cases q : t 9 e = 0
    · have e1 := emp 1 (fun i hi z => by have := on_s h9 z; omega)
      have e2 := emp 2 (fun i hi z => by have := on_s h9 z; omega)
      have e3 := emp 3 (fun i hi z => by have := on_s h9 z; omega)
      rw [q] at hx
      have k0 := key 0 hx
      rw [show kxy x y z 0 = x from rfl] at k0
      omega
    · have q1 : t 9 e = 1 := by omega
      have e0 := emp 0 (fun i hi z => by have := on_s h9 z; omega)
      rw [q1] at hx
      have k1 := key 1 hx
      have k2 := key 2 hy
      have k3 := key 3 hz
      rw [show kxy x y z 1 = x from rfl] at k1
      rw [show kxy x y z 2 = y from rfl] at k2
      rw [show kxy x y z 3 = z from rfl] at k3
      omega
  · rw [pB_cong g he hr hg h0 (B' := bL t n e r x y z) (fun i hi q => by rw [q, Bool.true_and])]
    exact hp
theorem SB_TR (g : g_R M t n) {e r k : Nat} {thr : Int} (he : e < t 8 0) (hr : r < t 0 0) (hg : n (576 + (6 * e + r)) = 1) (h0 : n (540 + (6 * e + r)) = 0) (h : SB t n e r thr k) : ∃ x y z, x + y + z = k ∧ TR t n e r thr x y z := by
  obtain ⟨B, hB, hk, hp⟩ := h
  have h9 := (g.be he).1
  have hs := g.bs he hr
  have h11 := g.j11
  have le : ∀ s, fb_ct (fun i => ofS t (onE t e) s i && B i) (t 2 0) ≤ pan t (onE t e) s := fun s => fb_ct_sub (fun i hi z => (Bool.and_eq_true _ _ |>.mp z).1)
  have ec : ∀ s, fb_ct (fun i => B i && decide (t 4 i = s)) (t 2 0) = fb_ct (fun i => ofS t (onE t e) s i && B i) (t 2 0) := fun s => fb_ct_cong (fun i hi => by
    show (B i && decide (t 4 i = s)) = ((onE t e i && decide (t 4 i = s)) && B i)
    cases q : B i with
    | false => rw [Bool.false_and, Bool.and_false]
    | true => rw [hB i hi q, Bool.true_and, Bool.and_true]; try rfl)
  have emp : ∀ s, (∀ i, i < t 2 0 → onE t e i = true → ¬ t 4 i = s) → fb_ct (fun i => ofS t (onE t e) s i && B i) (t 2 0) = 0 := fun s hs => fb_ct_zero.mpr (fun i hi => by
    show ((onE t e i && decide (t 4 i = s)) && B i) = false
    cases q : onE t e i with
    | false => rfl
    | true => rw [decide_eq_false (hs i hi q)]; rfl)
  refine ⟨fb_ct (fun i => ofS t (onE t e) (t 9 e) i && B i) (t 2 0), fb_ct (fun i => ofS t (onE t e) 2 i && B i) (t 2 0), fb_ct (fun i => ofS t (onE t e) 3 i && B i) (t 2 0), ?_, le _, le _, le _, ?_⟩
  · rw [← hk, ct_sorts (t := t) B (fun j hj => (g.bj hj).2), ec 0, ec 1, ec 2, ec 3]
    by_cases q : t 9 e = 0
    · rw [q, emp 1 (fun i hi z => by have := on_s h9 z; omega)]
      omega
    · rw [show t 9 e = 1 by omega, emp 0 (fun i hi z => by have := on_s h9 z; omega)]
      omega
  · refine Int.lt_of_lt_of_le hp (ptS_dom (fun i hi => (g.bj hi).2) (fun s hs3 v => ?_) (cB_b g B he hr hg h0) (Int.natCast_nonneg _))
    by_cases hz : ∃ i, i < t 2 0 ∧ ofS t (onE t e) s i = true
    · obtain ⟨i0, hi0, hA0⟩ := hz
      have hA1 := ofS_t.mp hA0
      have hon := on_s h9 hA1.1
      have ks : kxy (fb_ct (fun i => ofS t (onE t e) (t 9 e) i && B i) (t 2 0)) (fb_ct (fun i => ofS t (onE t e) 2 i && B i) (t 2 0)) (fb_ct (fun i => ofS t (onE t e) 3 i && B i) (t 2 0)) s = fb_ct (fun i => ofS t (onE t e) s i && B i) (t 2 0) := by
        unfold kxy
        split
        · rw [show t 9 e = s by omega]
        · split
          · next h2 => rw [h2]
          · rw [show s = 3 by omega]
      have lb := low_best (A := ofS t (onE t e) s) (B := B) (m := fun j => mk n e r j) (c := cvE t n e r) (k := t 2 0) (T := cvl (n (432 + (6 * e + r))) (n (468 + (6 * e + r))) (n (504 + (6 * e + r))) s 20) (fun i j hi hj ai aj hm => ?_) (fun i hi ai => ?_) rfl v
      · refine Nat.le_trans (Nat.le_of_eq (fb_ct_cong (fun i hi => ?_))) (Nat.le_trans lb (Nat.le_of_eq (fb_ct_cong (fun i hi => ?_))))
        · cases q : ofS t (onE t e) s i with
          | false => rfl
          | true =>
            have q4 := (ofS_t.mp q).2
            rw [Bool.true_and, Bool.true_and]
            have ex : cB t n e r (bL t n e r (fb_ct (fun i => ofS t (onE t e) (t 9 e) i && B i) (t 2 0)) (fb_ct (fun i => ofS t (onE t e) 2 i && B i) (t 2 0)) (fb_ct (fun i => ofS t (onE t e) 3 i && B i) (t 2 0))) i = if rk (ofS t (onE t e) s) (fun j => mk n e r j) (t 2 0) i < fb_ct (fun i => ofS t (onE t e) s i && B i) (t 2 0) then cvl (n (432 + (6 * e + r))) (n (468 + (6 * e + r))) (n (504 + (6 * e + r))) s 20 else cvE t n e r i := by
              show cvl _ _ _ (t 4 i) (mB n e r _ i) = if _ then _ else cvl _ _ _ (t 4 i) (mk n e r i)
              unfold mB bL plm
              rw [q4, ks]
              by_cases q5 : rk (ofS t (onE t e) s) (fun j => mk n e r j) (t 2 0) i < fb_ct (fun i => ofS t (onE t e) s i && B i) (t 2 0)
              · rw [if_pos q5, if_pos (decide_eq_true q5)]
              · rw [if_neg q5, if_neg (by rw [decide_eq_false q5]; decide)]
            rw [ex]
        · cases q : ofS t (onE t e) s i with
          | false => rfl
          | true =>
            have q4 := (ofS_t.mp q).2
            rw [Bool.true_and, Bool.true_and]
            have ex : cB t n e r B i = if B i = true then cvl (n (432 + (6 * e + r))) (n (468 + (6 * e + r))) (n (504 + (6 * e + r))) s 20 else cvE t n e r i := by
              show cvl _ _ _ (t 4 i) (mB n e r _ i) = if _ then _ else cvl _ _ _ (t 4 i) (mk n e r i)
              unfold mB
              rw [q4]
              by_cases q5 : B i = true
              · rw [if_pos q5, if_pos q5]
              · rw [if_neg q5, if_neg q5]
            rw [ex]
      · have q4 := (ofS_t.mp ai).2
        have q5 := (ofS_t.mp aj).2
        show cvl _ _ _ (t 4 i) (mk n e r i) ≤ cvl _ _ _ (t 4 j) (mk n e r j)
        rw [q4, q5]
        exact cvl_le hm
      · have q4 := (ofS_t.mp ai).2
        show cvl _ _ _ (t 4 i) (mk n e r i) ≤ _
        rw [q4]
        exact cvl_le (hs.2.1 i (by omega)).2.1
    · rw [fb_ct_zero.mpr]
      · exact Nat.zero_le _
      · intro i hi
        cases q : ofS t (onE t e) s i with
        | false => rfl
        | true => exact absurd ⟨i, hi, q⟩ hz
end BR
