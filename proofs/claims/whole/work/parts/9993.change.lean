/-! the call change -/
section CH
variable {L : Nat} {xs : Nat → Int32} {E : q_E} {d : Nat} {M : q_M} {t : q_T} {n : sN} {Q : Option Value → q_M → Prop} {P : q_M → Prop}
theorem lst_J (hJ : b_J t n) (ba : b_A t n) {e r x : Nat} (he : e < t 8 0) (hr : r < t 0 0) (hx : x < t 5 0) (hg : n (576 + (6 * e + r)) = 0) (hno : ∀ p, p < t 0 0 → ¬ roE n e p = x) : b_J t (up n (6 * e + r) x) := by
  have h6 := ba.e6
  have h7 := ba.r6
  have h11 := ba.j11
  have eo : ∀ i, ¬ i = 6 * e + r → up n (6 * e + r) x i = n i := fun i hi => up_n hi
  have eg : ∀ e', e' < t 8 0 → gvN t (up n (6 * e + r) x) e' = gvN t n e' := fun e' _ => gvN_eq (fun r' _ => eo _ (by omega))
  have ei : ∀ e', inE (up n (6 * e + r) x) e' = inE n e' := fun e' => inE_eq (eo _ (by omega))
  refine ⟨⟨⟨fun e' he' r' hr' => ?_, fun e' he' => ?_, fun e' he' r1 hr1 r2 hr2 hne z => ?_⟩, fun s h1 h2 => ?_, fun e' he' q r' hr' => ?_, fun e' he' r' hr' q => ?_⟩, ?_, fun q => ?_⟩
  · have hs := ba.bs he' hr'
    by_cases z : 6 * e' + r' = 6 * e + r
    · unfold b_slot at hs ⊢
      rw [z, up_s, eo _ (by omega), eo _ (by omega), eo _ (by omega), eo _ (by omega), eo _ (by omega)]
      rw [z] at hs
      have em : ∀ j, j < 11 → mk (up n (6 * e + r) x) e' r' j = mk n e' r' j := fun j hj => eo _ (by omega)
      obtain ⟨a0, a1, a2, a3, a4, a5, a6, a7, a8⟩ := hs
      refine ⟨⟨by omega, by omega⟩, fun j hj => ?_, a2, a3, a4, a5, a6, fun w j hj => ?_, fun w w' j hj ho => ?_⟩
      · rw [em j hj]
        exact a1 j hj
      · rw [em j hj]
        exact a7 w j hj
      · rw [em j (by omega)]
        exact a8 w w' j hj ho
    · exact hs.eq h11 (eo _ z) (fun j hj => eo _ (by omega)) (eo _ (by omega)) (eo _ (by omega)) (eo _ (by omega)) (eo _ (by omega)) (eo _ (by omega))
  · rw [eo _ (by omega), eo _ (by omega)]
    exact ba.bn.2.1 e' he'
  · have b1 := (ba.bs he' hr1).1
    have b2 := (ba.bs he' hr2).1
    by_cases z1 : 6 * e' + r1 = 6 * e + r
    · have ee : e' = e := by omega
      subst ee
      rw [z1, up_s, eo _ (by omega)] at z
      exact hno r2 hr2 (by show (n (6 * e' + r2)).toNat = x; omega)
    · by_cases z2 : 6 * e' + r2 = 6 * e + r
      · have ee : e' = e := by omega
        subst ee
        rw [z2, up_s, eo _ (by omega)] at z
        exact hno r1 hr1 (by show (n (6 * e' + r1)).toNat = x; omega)
      · rw [eo _ z1, eo _ z2] at z
        exact ba.bn.2.2 e' he' r1 hr1 r2 hr2 hne z
  · rw [eo _ (by omega)]
    exact hJ.1.2.1 s h1 h2
  · rw [eo _ (by omega), eg e' he']
    rw [ei] at q
    exact hJ.1.2.2.1 e' he' q r' hr'
  · rw [eo _ (by omega)] at q ⊢
    exact hJ.1.2.2.2 e' he' r' hr' q
  · rw [eo _ (by omega)]
    exact hJ.2.1
  · unfold isB at q
    rw [eo 633 (by omega)] at q
    have a := hJ.2.2 q
    unfold b_M at a ⊢
    rw [eo 630 (by omega), eo 631 (by omega), eo 632 (by omega), eo (624 + (n 632).toNat) (by omega), ei]
    obtain ⟨⟨a1, a2, a3, a4, a5, a6⟩, a7⟩ := a
    refine ⟨⟨a1, a2, a3, fun y hy => ?_, fun y z hy hz => ?_, fun e' he' hq => ?_⟩, a7⟩
    · rw [eo _ (by omega)]
      exact a4 y hy
    · rw [eo _ (by omega), eo _ (by omega)]
      exact a5 y z hy hz
    · rw [ei] at hq
      obtain ⟨c1, y, c2, c3, c4⟩ := a6 e' he' hq
      rw [eo _ (by omega), eg e' he']
      exact ⟨c1, y, c2, by rw [eo _ (by omega)]; exact c3, c4⟩
theorem lst_S (g : g_Z 43 M t n) (hJ : b_J t n) {e r x : Nat} (he : e < t 8 0) (hr : r < t 0 0) (hg : n (576 + (6 * e + r)) = 0) (hJ' : b_J t (up n (6 * e + r) x)) : g_Z 43 (q_si M 44 (6 * e + r) (nI x)) t (up n (6 * e + r) x) := by
  have h6 := g.R.e6
  have h7 := g.R.r6
  have h11 := g.R.j11
  have eo : ∀ i, ¬ i = 6 * e + r → up n (6 * e + r) x i = n i := fun i hi => up_n hi
  have hf : q_fs [44] [] M (q_si M 44 (6 * e + r) (nI x)) := q_fs.rf.s1
  have ep : ∀ s, s < 36 → n (576 + s) = 1 → ∀ dr bar, ptE t (up n (6 * e + r) x) (s / 6) (s % 6) dr bar = ptE t n (s / 6) (s % 6) dr bar := fun s hs hgv dr bar => by
    have es : 6 * (s / 6) + s % 6 = s := by omega
    have hne : ¬ s = 6 * e + r := fun z => by rw [z] at hgv; omega
    refine ptE_eq h11 ?_ (fun j hj => ?_) ?_ ?_ ?_ ?_ <;> rw [es] <;> exact eo _ (by omega)
  obtain ⟨z1, z2, z3, z4, z5, z6⟩ := g.S
  refine ⟨⟨g.R.1, hJ'.1.1⟩, g.C.fs hf, fun s hs => ?_, fun s hs => ?_, fun e' he' => ?_, ?_, ?_, ?_⟩
  · show (q_si M 44 (6 * e + r) (nI x)).1 44 s = _
    unfold lS
    by_cases z : s = 6 * e + r
    · subst z
      rw [q_si_s, up_s, if_pos (by omega)]
      rfl
    · rw [q_si_n z, eo s z]
      have := z1 s hs
      unfold lS at this
      exact this
  · have e1 : pS t (up n (6 * e + r) x) s = pS t n s := by
      unfold pS
      rw [eo (576 + s) (by omega)]
      by_cases q : n (576 + s) = 1
      · rw [if_pos q, if_pos q, ep s hs q]
      · rw [if_neg q, if_neg q]
    rw [e1, eo (540 + s) (by omega), eo (432 + s) (by omega), eo (468 + s) (by omega), eo (504 + s) (by omega)]
    refine ⟨(z2 s hs).1, fun j hj => ?_⟩
    rw [eo (36 + 11 * s + j) (by omega)]
    exact (z2 s hs).2 j hj
  · obtain ⟨d1, d2, d3, d4⟩ := z3 e' he'
    refine ⟨?_, ?_, ?_, ?_⟩
    · rw [eo (612 + e') (by omega)]
      exact d1
    · refine Eq.trans d2 ?_
      unfold bS
      rw [eo (618 + e') (by omega)]
    · refine Eq.trans d3 ?_
      unfold gS
      rw [gvN_eq (n' := up n (6 * e + r) x) (n := n) (fun r' _ => eo _ (by omega))]
    · refine Eq.trans d4 ?_
      unfold tS
      by_cases q : e' < t 8 0
      · rw [if_pos q, if_pos q]
        congr 1
        unfold toE
        refine fb_si_cong (fun r' hr' => ?_)
        unfold tof
        rw [eo (618 + e') (by omega), eo (576 + (6 * e' + r')) (by omega)]
        by_cases q2 : n (618 + e') ≤ (r' : Int) + 1 ∧ n (576 + (6 * e' + r')) = 1
        · rw [if_pos q2, if_pos q2]
          have := ep (6 * e' + r') (by omega) q2.2 (t 1 0) (-1)
          rw [show (6 * e' + r') / 6 = e' by omega, show (6 * e' + r') % 6 = r' by omega] at this
          exact this.symm
        · rw [if_neg q2, if_neg q2]
      · rw [if_neg q, if_neg q]
  · rw [eo 631 (by omega)]
    exact z4
  · refine Eq.trans z5 ?_
    unfold brd
    rw [eo 633 (by omega), eo 632 (by omega), eo (624 + (n 632).toNat) (by omega)]
  · intro q
    unfold isB at q
    rw [eo 633 (by omega)] at q
    obtain ⟨T, qu, x1, x2, x3, x4, x5⟩ := z6 q
    refine ⟨T, qu, x1, x2, x3, by rw [eo 632 (by omega), eo _ (by omega)]; exact x4, ?_⟩
    obtain ⟨y1, y2, y3⟩ := x5
    have ei : ∀ y, inE (up n (6 * e + r) x) y = inE n y := fun y => inE_eq (eo _ (by omega))
    refine ⟨fun y hy w => y1 y hy (by rw [ei] at w; exact w), y2, fun i j a b w1 w2 w3 w4 w5 w6 w7 w8 => ?_⟩
    rw [eo 630 (by omega)] at w3 w4
    rw [eo _ (by omega)] at w5 w6
    rw [ei] at w7 w8
    exact y3 i j a b w1 w2 w3 w4 w5 w6 w7 w8
/-- whether the dive of a round may be another -/
def isFr (t : q_T) (n : sN) (e r : Nat) : Prop := inE n e = true ∧ isB t n ∧ n (576 + (6 * e + r)) = 0 ∧ ¬ (bE n = e ∧ bR n = r)
def lsd (t : q_T) (n : sN) (e x : Nat) : Prop := ∃ p, p < t 0 0 ∧ roE n e p = x
set_option maxRecDepth 100000 in
set_option maxHeartbeats 4000000 in
theorem k2_isFree (g : g_Z 43 M t n) (hJ : b_J t n) {a b : Int32} (e r : Nat) (he : e < t 8 0) (hr : r < t 0 0) (h1 : isFr t n e r → Q (some (.int 1)) M) (h0 : ¬ isFr t n e r → Q (some (.int 0)) M) (ha : a = nI e := by (first | assumption | (simp only [z_nat, z_lit, ← Int32.ofInt_add, ← Int32.ofInt_sub, ← Int32.ofInt_mul]; exact congrArg Int32.ofInt (by omega)) | (simp only [z_nat, z_lit, ← Int32.ofInt_add, ← Int32.ofInt_sub, ← Int32.ofInt_mul]; done) | exact congrArg Int32.ofInt (by omega) | rfl)) (hb : b = nI (r + 1) := by (first | assumption | (simp only [z_nat, z_lit, ← Int32.ofInt_add, ← Int32.ofInt_sub, ← Int32.ofInt_mul]; exact congrArg Int32.ofInt (by omega)) | (simp only [z_nat, z_lit, ← Int32.ofInt_add, ← Int32.ofInt_sub, ← Int32.ofInt_mul]; done) | exact congrArg Int32.ofInt (by omega) | rfl)) : q_C q_mt (L, xs, q_shp) E nX6_isFree (d + 2) 0 0 [.ref 242, .int (a), .int (b)] M Q := by
  subst ha hb
  have h6 := g.R.e6
  have h7 := g.R.r6
  have e1 := g.dv
  have e2 := g.rn
  have hp := ptE_c g.R (dr := t 1 0) (bar := -1) he hr
  refine w_in 90 [] ?_
  refine k2_isIn_43 g e he (fun hi => br_f (by decide) ?_) (fun hi => br_t (by decide) ⟨z_0, h0 (fun z => by have y := z.1; rw [hi] at y; cases y)⟩)
  by_cases q : isB t n
  · have hB := hJ.B h6 q
    have hbe := hB.2.1
    have h31 := hB.2.2.2.1
    have hbr := hB.2.2.1
    rw [brd_at hB] at e1
    rw [h31] at e2
    refine ⟨_, e1, ?_⟩
    refine z_eq (bE n : Int) (-1) (fun z => by omega) (fun _ => ?_)
    refine k2_pointsOf_43 g e r he hr (fun hg => ?_) (fun hg => ?_)
    · exact z_le 0 (ptE t n e r (t 1 0) (-1)) (fun _ => ⟨z_0, h0 (fun z => by have := z.2.2.1; omega)⟩) (fun z => by omega)
    · refine z_le 0 (-1) (fun z => by omega) (fun _ => ?_)
      refine ⟨_, e1, ?_⟩
      refine z_ne (bE n : Int) (e : Int) (fun z => ⟨z_1, h1 ⟨hi, q, hg, fun y => z (by rw [y.1])⟩⟩) (fun z => ?_)
      refine ⟨_, e2, ?_⟩
      exact z_eq ((bR n : Int) + 1) ((r + 1 : Nat) : Int) (fun y => ⟨z_0, h0 (fun w => w.2.2.2 ⟨by omega, by omega⟩)⟩) (fun y => ⟨z_1, h1 ⟨hi, q, hg, fun w => y (by rw [w.2]; omega)⟩⟩)
  · rw [brd_no q] at e1
    refine ⟨_, e1, ?_⟩
    exact z_eq (-1) (-1) (fun _ => ⟨z_0, h0 (fun z => q z.2.1)⟩) (fun z => absurd rfl z)
set_option maxRecDepth 100000 in
set_option maxHeartbeats 4000000 in
theorem k2_hasListed (g : g_Z 43 M t n) {a b : Int32} (e x : Nat) (he : e < t 8 0) (hx : x < t 5 0) (h1 : lsd t n e x → Q (some (.int 1)) M) (h0 : ¬ lsd t n e x → Q (some (.int 0)) M) (ha : a = nI e := by (first | assumption | (simp only [z_nat, z_lit, ← Int32.ofInt_add, ← Int32.ofInt_sub, ← Int32.ofInt_mul]; exact congrArg Int32.ofInt (by omega)) | (simp only [z_nat, z_lit, ← Int32.ofInt_add, ← Int32.ofInt_sub, ← Int32.ofInt_mul]; done) | exact congrArg Int32.ofInt (by omega) | rfl)) (hb : b = nI x := by (first | assumption | (simp only [z_nat, z_lit, ← Int32.ofInt_add, ← Int32.ofInt_sub, ← Int32.ofInt_mul]; exact congrArg Int32.ofInt (by omega)) | (simp only [z_nat, z_lit, ← Int32.ofInt_add, ← Int32.ofInt_sub, ← Int32.ofInt_mul]; done) | exact congrArg Int32.ofInt (by omega) | rfl)) : q_C q_mt (L, xs, q_shp) E nX8_hasListed (d + 1) 0 0 [.ref 43, .int (a), .int (b)] M Q := by
  subst ha hb
  have h6 := g.R.e6
  have h7 := g.R.r6
  have h10 := g.R.d10
  have W := lp_up (W := fun k => (∀ p, p < k → p < t 0 0 → ¬ roE n e p = x) → ∀ v, v = nI (k + 1) → q_G q_mt (L, xs, q_shp) E nX8_hasListed (d + 1) 0 0 (q_Q (L, xs, q_shp) E Q) 2 [some (.ref 43), some (.int (nI e)), some (.int (nI x)), some (.int (v))] [] M) 6 ?_ ?_ 0 (Nat.zero_le _)
  · refine w_in 90 [2] ?_
    exact W (fun p hp => by omega) _ rfl
  · rintro hno v rfl
    refine w_at 90 [2] ?_
    exact z_lt 6 ((6 + 1 : Nat) : Int) (fun _ => ⟨z_0, h0 (fun ⟨p, hp, z⟩ => hno p (by omega) hp z)⟩) (fun z => by omega)
  · rintro k hk ih hno v rfl
    have hl := g.S.1 (6 * e + k) (by omega)
    unfold lS at hl
    refine w_at 90 [2] ?_
    refine z_lt 6 ((k + 1 : Nat) : Int) (fun z => by omega) (fun _ => ?_)
    refine k2_cellOf e k ?_
    by_cases q : k < t 0 0
    · have bs := (g.R.bs he q).1
      rw [if_pos ⟨by omega, by omega⟩] at hl
      refine ⟨6 * e + k, _, by (first | assumption | (simp only [z_nat, z_lit, ← Int32.ofInt_add, ← Int32.ofInt_sub, ← Int32.ofInt_mul]; exact congrArg Int32.ofInt (by omega)) | (simp only [z_nat, z_lit, ← Int32.ofInt_add, ← Int32.ofInt_sub, ← Int32.ofInt_mul]; done) | exact congrArg Int32.ofInt (by omega) | rfl), by (dsimp only; omega), hl, ?_⟩
      refine z_ne (n (6 * e + k)) (x : Int) (fun z => ?_) (fun z => ⟨z_1, h1 ⟨k, q, by show (n (6 * e + k)).toNat = x; omega⟩⟩)
      refine ih (fun p hp hpt => ?_) _ (by (first | assumption | (simp only [z_nat, z_lit, ← Int32.ofInt_add, ← Int32.ofInt_sub, ← Int32.ofInt_mul]; exact congrArg Int32.ofInt (by omega)) | (simp only [z_nat, z_lit, ← Int32.ofInt_add, ← Int32.ofInt_sub, ← Int32.ofInt_mul]; done) | exact congrArg Int32.ofInt (by omega) | rfl))
      by_cases w : p = k
      · intro y
        rw [w] at y
        have y : (n (6 * e + k)).toNat = x := y
        exact z (by omega)
      · exact hno p (by omega) hpt
    · rw [if_neg (by omega), oZ_1 (g.R.b2.2.2.2.1.mp (by omega))] at hl
      refine ⟨6 * e + k, _, by (first | assumption | (simp only [z_nat, z_lit, ← Int32.ofInt_add, ← Int32.ofInt_sub, ← Int32.ofInt_mul]; exact congrArg Int32.ofInt (by omega)) | (simp only [z_nat, z_lit, ← Int32.ofInt_add, ← Int32.ofInt_sub, ← Int32.ofInt_mul]; done) | exact congrArg Int32.ofInt (by omega) | rfl), by (dsimp only; omega), hl, ?_⟩
      refine z_ne (-1) (x : Int) (fun z => ?_) (fun z => by omega)
      exact ih (fun p hp hpt => hno p (by omega) hpt) _ (by (first | assumption | (simp only [z_nat, z_lit, ← Int32.ofInt_add, ← Int32.ofInt_sub, ← Int32.ofInt_mul]; exact congrArg Int32.ofInt (by omega)) | (simp only [z_nat, z_lit, ← Int32.ofInt_add, ← Int32.ofInt_sub, ← Int32.ofInt_mul]; done) | exact congrArg Int32.ofInt (by omega) | rfl))
set_option maxRecDepth 100000 in
set_option maxHeartbeats 4000000 in
theorem k_isAhead (g : g_R M t n) {row : Nat → Nat} {a b : Int32} (x k : Nat) (hk : k ≤ 6) (hx : x < 10) (hrow : g_Y M row k) (hb10 : ∀ p, p < k → row p < 10) (h1 : (∃ p, p < k ∧ row p = x) → Q (some (.int 1)) M) (h0 : (¬ ∃ p, p < k ∧ row p = x) → Q (some (.int 0)) M) (ha : a = nI x := by (first | assumption | (simp only [z_nat, z_lit, ← Int32.ofInt_add, ← Int32.ofInt_sub, ← Int32.ofInt_mul]; exact congrArg Int32.ofInt (by omega)) | (simp only [z_nat, z_lit, ← Int32.ofInt_add, ← Int32.ofInt_sub, ← Int32.ofInt_mul]; done) | exact congrArg Int32.ofInt (by omega) | rfl)) (hb : b = nI k := by (first | assumption | (simp only [z_nat, z_lit, ← Int32.ofInt_add, ← Int32.ofInt_sub, ← Int32.ofInt_mul]; exact congrArg Int32.ofInt (by omega)) | (simp only [z_nat, z_lit, ← Int32.ofInt_add, ← Int32.ofInt_sub, ← Int32.ofInt_mul]; done) | exact congrArg Int32.ofInt (by omega) | rfl)) : q_C q_mt (L, xs, q_shp) E nX12_isAhead (d) 0 0 [.ref 271, .int (a), .int (b)] M Q := by
  subst ha hb
  have W := lp_up (W := fun m => (∀ p, p < m → ¬ row p = x) → ∀ v, v = nI m → q_G q_mt (L, xs, q_shp) E nX12_isAhead (d) 0 0 (q_Q (L, xs, q_shp) E Q) 2 [some (.ref 271), some (.int (nI x)), some (.int (nI k)), some (.int (v))] [] M) k ?_ ?_ 0 (Nat.zero_le _)
  · refine w_in 90 [2] ?_
    exact W (fun p hp => by omega) _ rfl
  · rintro hno v rfl
    refine w_at 90 [2] ?_
    exact z_le (k : Int) (k : Int) (fun _ => ⟨z_0, h0 (fun ⟨p, hp, z⟩ => hno p hp z)⟩) (fun z => by omega)
  · rintro m hm ih hno v rfl
    have := hb10 m hm
    refine w_at 90 [2] ?_
    refine z_le (k : Int) (m : Int) (fun z => by omega) (fun _ => ?_)
    refine ⟨m, _, by (first | assumption | (simp only [z_nat, z_lit, ← Int32.ofInt_add, ← Int32.ofInt_sub, ← Int32.ofInt_mul]; exact congrArg Int32.ofInt (by omega)) | (simp only [z_nat, z_lit, ← Int32.ofInt_add, ← Int32.ofInt_sub, ← Int32.ofInt_mul]; done) | exact congrArg Int32.ofInt (by omega) | rfl), by (dsimp only; omega), hrow m hm, ?_⟩
    refine z_ne (row m : Int) (x : Int) (fun z => ?_) (fun z => ⟨z_1, h1 ⟨m, hm, by omega⟩⟩)
    refine ih (fun p hp => ?_) _ (by (first | assumption | (simp only [z_nat, z_lit, ← Int32.ofInt_add, ← Int32.ofInt_sub, ← Int32.ofInt_mul]; exact congrArg Int32.ofInt (by omega)) | (simp only [z_nat, z_lit, ← Int32.ofInt_add, ← Int32.ofInt_sub, ← Int32.ofInt_mul]; done) | exact congrArg Int32.ofInt (by omega) | rfl))
    by_cases w : p = m
    · rw [w]
      omega
    · exact hno p (by omega)
end CH
