/-! give and out: the pure picture -/
def nGv (n : sN) : sN := up (up n (576 + (6 * bE n + bR n)) 1) 632 (n 632 + 1)
def nOt (n : sN) (e : Nat) : sN := up n (612 + e) 7
def isGv (t : q_T) (n : sN) (R : aRs) : Prop := ((¬ isB t n ∨ (isO t n ∧ mkN t n (bE n) (bR n) < pnN t (bE n))) ∧ R = none) ∨ (isB t n ∧ ¬ (isO t n ∧ mkN t n (bE n) (bR n) < pnN t (bE n)) ∧ ∃ n', isGo t (nGv n) n' ∧ R = some (ptE t n (bE n) (bR n) (t 1 0) (-1), n'))
def isOt (t : q_T) (n : sN) (e : Nat) (R : aRs) : Prop := (¬ (isB t n ∧ inE n e = true) ∧ R = none) ∨ ((isB t n ∧ inE n e = true) ∧ ∃ n', isGo t (nOt n e) n' ∧ R = some ((inN t n' : Int), n'))
theorem si_upd {f f' : Nat → Int} {r : Nat} : ∀ {k : Nat}, r < k → (∀ i, i < k → ¬ i = r → f' i = f i) → fb_si f' k = fb_si f k - f r + f' r
  | 0, h, _ => by omega
  | k + 1, h, hn => by
    rw [fb_si_succ, fb_si_succ]
    by_cases q : k = r
    · rw [fb_si_cong (fun i hi => hn i (by omega) (by omega)), q]
      omega
    · rw [si_upd (k := k) (by omega) (fun i hi z => hn i (by omega) z), hn k (by omega) q]
      omega
theorem ct_upd {p p' : Nat → Bool} {r : Nat} : ∀ {k : Nat}, r < k → p r = false → p' r = true → (∀ i, i < k → ¬ i = r → p' i = p i) → fb_ct p' k = fb_ct p k + 1
  | 0, h, _, _, _ => by omega
  | k + 1, h, h0, h1, hn => by
    by_cases q : k = r
    · rw [ct_t (p := p') (by rw [q]; exact h1), ct_f (p := p) (by rw [q]; exact h0), fb_ct_cong (fun i hi => hn i (by omega) (by omega))]
    · have e := hn k (by omega) q
      rw [fb_ct_succ, fb_ct_succ, ct_upd (k := k) (by omega) h0 h1 (fun i hi z => hn i (by omega) z), e]
      omega
section GV
variable {t : q_T} {n : sN}
/-- all of the panel have marked -/
theorem all_mk (h11 : t 2 0 ≤ 11) {e r : Nat} (hs : b_slot t n e r) (h : ¬ mkN t n e r < pnN t e) : ∀ j, j < t 2 0 → onP t j e = true → ¬ mk n e r j = -1 := by
  intro j hj ho z
  refine h (rk_more (p := mkd n e r) (q := fun j => onP t j e) hj (fun i hi q => ?_) ?_ ho)
  · unfold mkd at q
    rw [Bool.not_eq_true', decide_eq_false_iff_not] at q
    exact ((hs.2.1 i (by omega)).2.2 q).2
  · unfold mkd
    rw [decide_eq_true z]
    rfl
theorem gv_lo {i : Nat} (h : ¬ i = 576 + (6 * bE n + bR n)) (h2 : ¬ i = 632) : nGv n i = n i := by
  unfold nGv
  rw [up_n h2, up_n h]
theorem gv_gv (h36 : (6 * bE n + bR n) < 36) : nGv n (576 + (6 * bE n + bR n)) = 1 := by
  unfold nGv
  rw [up_n (by omega), up_s]
theorem gv_32 : nGv n 632 = n 632 + 1 := up_s
theorem gv_N (hJ : b_J t n) (ba : b_A t n) (q : isB t n) : gvN t (nGv n) (bE n) = gvN t n (bE n) + 1 ∧ ∀ e, e < t 8 0 → ¬ e = bE n → gvN t (nGv n) e = gvN t n e := by
  have h6 := ba.e6
  have h7 := ba.r6
  have hB := hJ.B h6 q
  have he := hB.2.1
  have hr := hB.2.2.1
  have a := hJ.at h6 hB
  refine ⟨ct_upd hr ?_ ?_ (fun i hi z => ?_), fun e he' hne => gvN_eq (fun r hr => gv_lo (by omega) (by omega))⟩
  · unfold gvE
    exact decide_eq_false (by rw [a.2.1]; decide)
  · unfold gvE
    exact decide_eq_true (gv_gv (by omega))
  · unfold gvE
    rw [gv_lo (by omega) (by omega)]
theorem gv_W (hJ : b_J t n) (ba : b_A t n) (q : isB t n) (hall : ¬ (isO t n ∧ mkN t n (bE n) (bR n) < pnN t (bE n))) : b_W t (nGv n) := by
  have h6 := ba.e6
  have h7 := ba.r6
  have h11 := ba.j11
  have hB := hJ.B h6 q
  have he := hB.2.1
  have hr := hB.2.2.1
  have a := hJ.at h6 hB
  have gN := gv_N hJ ba q
  have s36 : (6 * bE n + bR n) < 36 := by omega
  have ei : ∀ e, inE (nGv n) e = inE n e ∨ 6 ≤ e := fun e => by
    by_cases z : e < 6
    · exact Or.inl (inE_eq (gv_lo (by omega) (by omega)))
    · exact Or.inr (by omega)
  have ei : ∀ e, e < t 8 0 → inE (nGv n) e = inE n e := fun e he => (ei e).elim id (fun z => by omega)
  obtain ⟨⟨b1, b2, b3, b4, b5, b6⟩, b7, b8⟩ := hJ.2.2 q
  have b34 := hB.2.2.2.2.2.2
  refine ⟨⟨⟨fun e he' r hr' => ?_, fun e he' => ?_, fun e he' r1 hr1 r2 hr2 => ?_⟩, fun s hs z => ?_, fun e he' hi r hr' => ?_, fun e he' r hr' z => ?_⟩, ⟨q.1, ?_⟩, ?_⟩
  · by_cases z : 6 * e + r = (6 * bE n + bR n)
    · have z1 : e = bE n := by omega
      have z2 : r = bR n := by omega
      subst z1 z2
      have hs := ba.bs he' hr'
      unfold b_slot at hs ⊢
      rw [gv_lo (by omega) (by omega), gv_lo (by omega) (by omega), gv_lo (by omega) (by omega), gv_lo (by omega) (by omega), gv_lo (by omega) (by omega), gv_gv s36]
      have em : ∀ j, j < 11 → mk (nGv n) (bE n) (bR n) j = mk n (bE n) (bR n) j := fun j hj => gv_lo (by omega) (by omega)
      obtain ⟨a0, a1, a2, a3, a4, a5, a6, a7, a8⟩ := hs
      refine ⟨a0, fun j hj => ?_, a2, a3, a4, a5, Or.inr rfl, fun y j hj => ?_, fun _ y j hj ho => ?_⟩
      · rw [em j hj]
        exact a1 j hj
      · rw [em j hj]
        exact a7 y j hj
      · rw [em j (by omega)]
        exact all_mk h11 (ba.bs he' hr') (fun w => hall ⟨⟨q, y⟩, w⟩) j hj ho
    · exact (ba.bs he' hr').eq h11 (gv_lo (by omega) (by omega)) (fun j hj => gv_lo (by omega) (by omega)) (gv_lo (by omega) (by omega)) (gv_lo (by omega) (by omega)) (gv_lo (by omega) (by omega)) (gv_lo (by omega) (by omega)) (gv_lo (by omega) (by omega))
  · rw [gv_lo (by omega) (by omega), gv_lo (by omega) (by omega)]
    exact ba.bn.2.1 e he'
  · rw [gv_lo (by omega) (by omega), gv_lo (by omega) (by omega)]
    exact ba.bn.2.2 e he' r1 hr1 r2 hr2
  · rw [gv_lo (by intro y; exact z (by omega)) (by omega)]
    exact hJ.1.2.1 s hs z
  · rw [ei e he'] at hi
    have g1 := hJ.1.2.2.1 e he' hi r hr'
    by_cases z : e = bE n
    · subst z
      rw [gN.1, a.2.2.1]
      rw [a.2.2.1] at g1
      by_cases z2 : r = bR n
      · subst z2
        rw [gv_gv s36]
        exact ⟨fun _ => by omega, fun _ => rfl⟩
      · rw [gv_lo (by omega) (by omega), g1]
        omega
    · rw [gN.2 e he' z, gv_lo (by omega) (by omega)]
      exact g1
  · rw [gv_lo (by omega) (by omega)] at z ⊢
    exact hJ.1.2.2.2 e he' r hr' z
  · rw [gv_lo (by omega) (by omega)]
    exact hJ.2.1.1.elim id (fun z => absurd z q.2)
  · unfold b_M
    rw [gv_lo (i := 631) (by omega) (by omega), gv_lo (i := 630) (by omega) (by omega), gv_32]
    refine ⟨b1, b2, ⟨by omega, by omega⟩, fun x hx => ?_, fun x y hx hy => ?_, fun e he' hi => ?_⟩
    · rw [gv_lo (by omega) (by omega)]
      exact b4 x hx
    · rw [gv_lo (by omega) (by omega), gv_lo (by omega) (by omega)]
      exact b5 x y hx hy
    · rw [ei e he'] at hi
      obtain ⟨c1, x, c2, c3, c4⟩ := b6 e he' hi
      rw [gv_lo (i := 618 + e) (by omega) (by omega)]
      refine ⟨c1, x, c2, by rw [gv_lo (by omega) (by omega)]; exact c3, ?_⟩
      by_cases z : e = bE n
      · have xe := b5 x (n 632).toNat c2 (by omega) (by omega)
        rw [z, gN.1, if_pos (by omega)]
        rw [if_neg (by omega)] at c4
        rw [← z]
        omega
      · rw [gN.2 e he' z, c4]
        have : ¬ (x : Int) = n 632 := fun y => z (by
          have : n (624 + x) = n (624 + (n 632).toNat) := by rw [show x = (n 632).toNat by omega]
          omega)
        by_cases w : (x : Int) < n 632
        · rw [if_pos w, if_pos (by omega)]
        · rw [if_neg w, if_neg (by omega)]
theorem ot_W (hJ : b_J t n) (ba : b_A t n) (q : isB t n) {e : Nat} (he : e < t 8 0) : b_W t (nOt n e) := by
  have h6 := ba.e6
  have h7 := ba.r6
  have h11 := ba.j11
  obtain ⟨⟨b1, b2, b3, b4, b5, b6⟩, b7, b8⟩ := hJ.2.2 q
  have eo : ∀ i, ¬ i = 612 + e → nOt n e i = n i := fun i hi => up_n hi
  have ei : ∀ x, x < t 8 0 → inE (nOt n e) x = true → inE n x = true := fun x hx z => by
    by_cases y : x = e
    · subst y
      unfold inE at z
      rw [show nOt n x (612 + x) = 7 from up_s] at z
      exact absurd z (by decide)
    · rw [inE_eq (eo _ (by omega))] at z
      exact z
  refine ⟨tail_of hJ.1 h6 h7 h11 (fun k hk => eo k (by omega)) (fun x hx => ?_) ei, ⟨q.1, ?_⟩, ?_⟩
  · have y := ba.bn.2.1 x hx
    rw [eo (618 + x) (by omega)]
    refine ⟨?_, y.2⟩
    by_cases z : x = e
    · subst z
      rw [show nOt n x (612 + x) = 7 from up_s]
      omega
    · rw [eo _ (by omega)]
      exact y.1
  · rw [eo _ (by omega)]
    exact hJ.2.1.1.elim id (fun z => absurd z q.2)
  · unfold b_M
    rw [eo 631 (by omega), eo 630 (by omega), eo 632 (by omega)]
    refine ⟨b1, b2, b3, fun x hx => ?_, fun x y hx hy => ?_, fun x hx hi => ?_⟩
    · rw [eo _ (by omega)]
      exact b4 x hx
    · rw [eo _ (by omega), eo _ (by omega)]
      exact b5 x y hx hy
    · obtain ⟨c1, a, c2, c3, c4⟩ := b6 x hx (ei x hx hi)
      rw [eo (618 + x) (by omega), gvN_eq (n := n) (fun r hr => eo _ (by omega))]
      exact ⟨c1, a, c2, by rw [eo _ (by omega)]; exact c3, c4⟩
theorem isGv_ex (hJ : b_J t n) (ba : b_A t n) : ∃ R, isGv t n R := by
  rcases Classical.em (¬ isB t n ∨ (isO t n ∧ mkN t n (bE n) (bR n) < pnN t (bE n))) with z | z
  · exact ⟨none, Or.inl ⟨z, rfl⟩⟩
  · have q : isB t n := Classical.byContradiction (fun y => z (Or.inl y))
    obtain ⟨n', hn⟩ := isGo_ex (gv_W hJ ba q (fun y => z (Or.inr y))) ba.b2 ba.e6
    exact ⟨_, Or.inr ⟨q, fun y => z (Or.inr y), n', hn, rfl⟩⟩
theorem isOt_ex (hJ : b_J t n) (ba : b_A t n) {e : Nat} (he : e < t 8 0) : ∃ R, isOt t n e R := by
  rcases Classical.em (isB t n ∧ inE n e = true) with z | z
  · obtain ⟨n', hn⟩ := isGo_ex (ot_W hJ ba z.1 he) ba.b2 ba.e6
    exact ⟨_, Or.inr ⟨z, n', hn, rfl⟩⟩
  · exact ⟨none, Or.inl ⟨z, rfl⟩⟩
theorem isGv.ok {R : aRs} (hJ : b_J t n) (ba : b_A t n) (h : isGv t n R) : aOK t R := by
  rcases h with ⟨-, rfl⟩ | ⟨q, hall, n', hg, rfl⟩
  · exact ok_no
  · have hB := hJ.B ba.e6 q
    have := ptE_c ba (dr := t 1 0) (bar := -1) hB.2.1 hB.2.2.1
    exact ok_of (isGo.J (gv_W hJ ba q hall) ba.b2 ba.e6 ba.r6 ba.j11 hg) ⟨this.1, by omega⟩
theorem isOt.ok {R : aRs} (hJ : b_J t n) (ba : b_A t n) {e : Nat} (he : e < t 8 0) (h : isOt t n e R) : aOK t R := by
  rcases h with ⟨-, rfl⟩ | ⟨q, n', hg, rfl⟩
  · exact ok_no
  · have h6 := ba.e6
    have : inN t n' ≤ t 8 0 := fb_ct_le _ _
    exact ok_of (isGo.J (ot_W hJ ba q.1 he) ba.b2 ba.e6 ba.r6 ba.j11 hg) ⟨by omega, by omega⟩
end GV
