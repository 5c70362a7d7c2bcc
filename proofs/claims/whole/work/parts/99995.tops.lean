/-! the first best row: the class -/
/-- what may stand where and what counts, as the class has it -/
def g_al (M : q_M) (t : q_T) (alw : Nat → Nat → Bool) (wt : Nat → Bool) : Prop := ∀ p, p < t 0 0 → (∀ d, d < t 5 0 → bt (M.1 249 p) d = alw p d) ∧ M.1 250 p = Int32.ofInt (if wt p = true then 1 else 0)
def cstE (t : q_T) (e : Nat) (wt : Nat → Bool) (p d : Nat) : Int := if wt p = true then fpt t e d else 0
theorem cst_0 {t : q_T} {e : Nat} {wt : Nat → Bool} : ∀ p d, 0 ≤ cstE t e wt p d := fun p d => by
  unfold cstE
  split
  · unfold fpt apt
    exact Int.mul_nonneg (by have := (faw_b (t := t) (e := e) (i := d)).1; omega) (Int.natCast_nonneg _)
  · exact Int.le_refl _
abbrev tpS (t : q_T) (pr : Nat) (alw : Nat → Nat → Bool) (cst : Nat → Nat → Int) (S : Nat) : Int := mx (vl cst (fb_ct (fun j => S.testBit j) 11)) (ext (cWy t pr alw) (t 5 0) (t 0 0 - (fb_ct (fun j => S.testBit j) 11)) (fb_ct (fun j => S.testBit j) 11) S)
/-- all dives of a list are dives -/
theorem ext_mem {C : CT} {D : Nat} : ∀ {k p S : Nat} {l : List Nat}, l ∈ ext C D k p S → l.length = k ∧ ∀ x, x ∈ l → x < D
  | 0, p, S, l, h => by
    have h : l ∈ [[]] := h
    rw [List.mem_singleton] at h
    subst h
    exact ⟨rfl, fun x hx => by cases hx⟩
  | k + 1, p, S, l, h => by
    have key : ∀ j a, a + j ≤ D → l ∈ exF (fun d => if C p S d = true then (ext C D k (p + 1) (S ||| 2 ^ d)).map (List.cons d) else []) j a → l.length = k + 1 ∧ ∀ x, x ∈ l → x < D := by
      intro j
      induction j with
      | zero => intro a _ hl; cases hl
      | succ j ih =>
        intro a ha hl
        rcases List.mem_append.mp hl with z | z
        · by_cases q : C p S a = true
          · have z : l ∈ (if C p S a = true then (ext C D k (p + 1) (S ||| 2 ^ a)).map (List.cons a) else []) := z
            rw [if_pos q] at z
            obtain ⟨y, hy, rfl⟩ := List.mem_map.mp z
            have b := ext_mem hy
            refine ⟨by rw [List.length_cons, b.1], fun x hx => ?_⟩
            rcases List.mem_cons.mp hx with w | w
            · rw [w]
              omega
            · exact b.2 x w
          · have z : l ∈ (if C p S a = true then (ext C D k (p + 1) (S ||| 2 ^ a)).map (List.cons a) else []) := z
            rw [if_neg q] at z
            cases z
        · exact ih (a + 1) (by omega) z
    exact key D 0 (by omega) h
theorem vl_le {cst : Nat → Nat → Int} {c : Int} {D : Nat} (h : ∀ p d, d < D → cst p d ≤ c) : ∀ {l : List Nat} {p : Nat}, (∀ x, x ∈ l → x < D) → vl cst p l ≤ c * l.length
  | [], _, _ => by show (0 : Int) ≤ c * (0 : Nat); rw [Int.natCast_zero, Int.mul_zero]; exact Int.le_refl _
  | d :: l, p, hl => by
    have a := vl_le h (l := l) (p := p + 1) (fun x hx => hl x (List.mem_cons_of_mem _ hx))
    have b := h p d (hl d (List.mem_cons_self ..))
    show cst p d + vl cst (p + 1) l ≤ c * ((l.length + 1 : Nat) : Int)
    push_cast
    rw [Int.mul_add, Int.mul_one]
    omega
section TP
variable {L : Nat} {xs : Nat → Int32} {E : q_E} {d : Nat} {M : q_M} {t : q_T} {n : sN} {Q : Option Value → q_M → Prop} {P : q_M → Prop}
variable {alw : Nat → Nat → Bool} {wt : Nat → Bool}
theorem cst_18 (ba : b_A t n) {e : Nat} : ∀ p d, d < t 5 0 → cstE t e wt p d ≤ 18000 := fun p d hd => by
  unfold cstE
  split
  · exact (apt_b faw_b (ba.bd hd).2.2.2).2
  · omega
theorem mx_108 (ba : b_A t n) {e k p S pr : Nat} (hk : k ≤ 6) : -1 ≤ mx (vl (cstE t e wt) p) (ext (cWy t pr alw) (t 5 0) k p S) ∧ mx (vl (cstE t e wt) p) (ext (cWy t pr alw) (t 5 0) k p S) ≤ 108000 := mx_le (fun y hy => ⟨vl_0 cst_0, by
  have a := ext_mem hy
  have b := vl_le (p := p) (cst_18 (wt := wt) (e := e) ba) a.2
  rw [a.1] at b
  omega⟩) (by omega)
theorem cdV_108 (ba : b_A t n) {e k p S pr d : Nat} (hk : k ≤ 5) (hd : d < t 5 0) : -1 ≤ cdV (cWy t pr alw) (t 5 0) (cstE t e wt) k p S d ∧ cdV (cWy t pr alw) (t 5 0) (cstE t e wt) k p S d ≤ 126000 := by
  refine ⟨cdV_b cst_0, ?_⟩
  unfold cdV
  have a := mx_108 (wt := wt) (alw := alw) (pr := pr) (e := e) ba (k := k) (p := p + 1) (S := S ||| 2 ^ d) (by omega)
  have b := cst_18 (wt := wt) (e := e) ba p d hd
  split <;> omega
set_option maxRecDepth 100000 in
set_option maxHeartbeats 4000000 in
theorem k2_pointsBy (g : g_Z 43 M t n) {pr : Nat} (hm : g_Mm M t pr) (hal : g_al M t alw wt) {a b c : Int32} (e S x : Nat) (he : e < t 8 0) (hpr : t 9 e = pr) (hS : S < 2 ^ t 5 0) (hN : (fb_ct (fun j => S.testBit j) 11) < t 0 0) (hx : x < t 5 0) (hT : rch' t pr S → ∀ S', S < S' → S' < 2 ^ t 5 0 → rch' t pr S' → M.1 248 S' = Int32.ofInt (tpS t pr alw (cstE t e wt) S')) (hQ : ∀ v, (rch' t pr S → v = Int32.ofInt (cdV (cWy t pr alw) (t 5 0) (cstE t e wt) (t 0 0 - (fb_ct (fun j => S.testBit j) 11) - 1) (fb_ct (fun j => S.testBit j) 11) S x)) → Q (some (.int v)) M) (ha : a = nI e := by (first | assumption | (simp only [z_nat, z_lit, ← Int32.ofInt_add, ← Int32.ofInt_sub, ← Int32.ofInt_mul]; exact congrArg Int32.ofInt (by omega)) | (simp only [z_nat, z_lit, ← Int32.ofInt_add, ← Int32.ofInt_sub, ← Int32.ofInt_mul]; done) | exact congrArg Int32.ofInt (by omega) | rfl)) (hb : b = nI S := by (first | assumption | (simp only [z_nat, z_lit, ← Int32.ofInt_add, ← Int32.ofInt_sub, ← Int32.ofInt_mul]; exact congrArg Int32.ofInt (by omega)) | (simp only [z_nat, z_lit, ← Int32.ofInt_add, ← Int32.ofInt_sub, ← Int32.ofInt_mul]; done) | exact congrArg Int32.ofInt (by omega) | rfl)) (hc : c = nI x := by (first | assumption | (simp only [z_nat, z_lit, ← Int32.ofInt_add, ← Int32.ofInt_sub, ← Int32.ofInt_mul]; exact congrArg Int32.ofInt (by omega)) | (simp only [z_nat, z_lit, ← Int32.ofInt_add, ← Int32.ofInt_sub, ← Int32.ofInt_mul]; done) | exact congrArg Int32.ofInt (by omega) | rfl)) : q_C q_mt (L, xs, q_shp) E nX10_pointsBy (d + 3) 0 0 [.ref 244, .int (a), .int (b), .int (c)] M Q := by
  subst ha hb hc
  have h10 := g.R.d10
  have h6 := g.R.r6
  have e6 := g.R.e6
  have hpw := pw_b h10
  have be := (g.R.be he).1
  rw [hpr] at be
  have e13 := (g.en he).1
  rw [hpr] at e13
  have ebc : bcF (nI S) = nI (fb_ct (fun j => S.testBit j) 11) := bc_ok (fun j hj => bt_S (by omega) hj)
  have al := hal _ hN
  have eo := or_nI (S := S) (d := x) (by omega) (by omega)
  have hob : S ||| 2 ^ x < 2 ^ t 5 0 := or_b hS hx
  have ebx := b_at (x := M.1 246 (1024 * pr + S) &&& M.1 249 (fb_ct (fun j => S.testBit j) 11)) (j := x) (by omega)
  rw [b_and, al.1 x hx] at ebx
  have bits : rch' t pr S → (bt (M.1 246 (1024 * pr + S)) x && alw (fb_ct (fun j => S.testBit j) 11) x) = cWy t pr alw (fb_ct (fun j => S.testBit j) 11) S x := fun hr => by
    rw [(hm S hS hr).1 x hx, decide_eq_true hN, Bool.true_and]
    unfold cWy
    rw [Bool.true_and, Bool.and_comm]
  have nx : rch' t pr S → cWy t pr alw (fb_ct (fun j => S.testBit j) 11) S x = true → rch' t pr (S ||| 2 ^ x) ∧ M.1 248 (S ||| 2 ^ x) = Int32.ofInt (mx (vl (cstE t e wt) ((fb_ct (fun j => S.testBit j) 11) + 1)) (ext (cWy t pr alw) (t 5 0) (t 0 0 - (fb_ct (fun j => S.testBit j) 11) - 1) ((fb_ct (fun j => S.testBit j) 11) + 1) (S ||| 2 ^ x))) := fun hr hc => by
    have h2 := cWy_t.mp hc
    have rs := rch_s h10 hr hN hx (cWy_t.mpr ⟨rfl, h2.2⟩)
    have := hT hr (S ||| 2 ^ x) (or_lt h2.2.1) hob rs.1
    unfold tpS at this
    rw [rs.2, show t 0 0 - ((fb_ct (fun j => S.testBit j) 11) + 1) = t 0 0 - (fb_ct (fun j => S.testBit j) 11) - 1 by omega] at this
    exact ⟨rs.1, this⟩
  have noV : (rch' t pr S → ¬ cWy t pr alw (fb_ct (fun j => S.testBit j) 11) S x = true) → rch' t pr S → Int32.ofInt (-1) = Int32.ofInt (cdV (cWy t pr alw) (t 5 0) (cstE t e wt) (t 0 0 - (fb_ct (fun j => S.testBit j) 11) - 1) (fb_ct (fun j => S.testBit j) 11) S x) := fun z hr => by
    unfold cdV
    rw [if_neg (fun w => z hr w.1)]
  refine w_in 90 [] ?_
  refine p_bitCount ?_
  rw [ebc]
  refine ⟨e, _, by (first | assumption | (simp only [z_nat, z_lit, ← Int32.ofInt_add, ← Int32.ofInt_sub, ← Int32.ofInt_mul]; exact congrArg Int32.ofInt (by omega)) | (simp only [z_nat, z_lit, ← Int32.ofInt_add, ← Int32.ofInt_sub, ← Int32.ofInt_mul]; done) | exact congrArg Int32.ofInt (by omega) | rfl), by (dsimp only; omega), e13, ?_⟩
  refine ⟨1024 * pr + S, _, by (first | assumption | (simp only [z_nat, z_lit, ← Int32.ofInt_add, ← Int32.ofInt_sub, ← Int32.ofInt_mul]; exact congrArg Int32.ofInt (by omega)) | (simp only [z_nat, z_lit, ← Int32.ofInt_add, ← Int32.ofInt_sub, ← Int32.ofInt_mul]; done) | exact congrArg Int32.ofInt (by omega) | rfl), by (dsimp only; omega), rfl, ?_⟩
  refine ⟨(fb_ct (fun j => S.testBit j) 11), _, rfl, by (dsimp only; omega), rfl, ?_⟩
  by_cases qb : (bt (M.1 246 (1024 * pr + S)) x && alw (fb_ct (fun j => S.testBit j) 11) x) = true
  · rw [if_pos qb] at ebx
    refine z_eq 1 0 (fun z => by omega) (fun _ => ?_) (hx := ebx)
    refine ⟨S ||| 2 ^ x, M.1 248 (S ||| 2 ^ x), eo, by (dsimp only; omega), rfl, ?_⟩
    refine ⟨fun z => ?_, fun z => ?_⟩
    · refine ⟨S ||| 2 ^ x, M.1 248 (S ||| 2 ^ x), eo, by (dsimp only; omega), rfl, ?_⟩
      refine ⟨(fb_ct (fun j => S.testBit j) 11), _, rfl, by (dsimp only; omega), al.2, ?_⟩
      refine k2_pointsByForm g e x he hx ⟨_, rfl, hQ _ (fun hr => ?_)⟩
      have hc := (bits hr).symm.trans qb
      have n1 := nx hr hc
      have ecd : cdV (cWy t pr alw) (t 5 0) (cstE t e wt) (t 0 0 - (fb_ct (fun j => S.testBit j) 11) - 1) (fb_ct (fun j => S.testBit j) 11) S x = mx (vl (cstE t e wt) ((fb_ct (fun j => S.testBit j) 11) + 1)) (ext (cWy t pr alw) (t 5 0) (t 0 0 - (fb_ct (fun j => S.testBit j) 11) - 1) ((fb_ct (fun j => S.testBit j) 11) + 1) (S ||| 2 ^ x)) + cstE t e wt (fb_ct (fun j => S.testBit j) 11) x := if_pos ⟨hc, fun w => z (by rw [n1.2, w])⟩
      have ew : (if wt (fb_ct (fun j => S.testBit j) 11) = true then (1 : Int) else 0) * fpt t e x = cstE t e wt (fb_ct (fun j => S.testBit j) 11) x := by
        unfold cstE
        split
        · rw [Int.one_mul]
        · rw [Int.zero_mul]
      rw [ecd, n1.2, ← Int32.ofInt_mul, ← Int32.ofInt_add, ew]
    · refine ⟨_, rfl, hQ _ (fun hr => ?_)⟩
      have hc := (bits hr).symm.trans qb
      have n1 := nx hr hc
      have mb := mx_108 (wt := wt) (alw := alw) (pr := pr) (e := e) g.R (k := t 0 0 - (fb_ct (fun j => S.testBit j) 11) - 1) (p := (fb_ct (fun j => S.testBit j) 11) + 1) (S := S ||| 2 ^ x) (by omega)
      rw [n1.2] at z
      have z := (z_inj (by omega) (by omega)).mp z
      unfold cdV
      rw [if_neg (fun w => w.2 z)]
  · rw [if_neg qb] at ebx
    refine z_eq 0 0 (fun _ => ⟨_, rfl, hQ _ (noV (fun hr hc => qb ((bits hr).trans hc)))⟩) (fun z => absurd rfl z) (hx := ebx)
end TP
