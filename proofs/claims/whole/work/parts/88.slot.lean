/-! acts at the board: mark, balk, cap, half, fail, on both sides -/
theorem q_out {l : List Nat} {f : List (Nat × Nat)} {p : Nat → Bool} (h : (l.all (fun a => !(p a)) && f.all (fun q => !(p q.1))) = true) {r : Nat} (hr : p r = true) (i : Nat) : q_scr l f r i = false := by
  rw [Bool.and_eq_true, List.all_eq_true, List.all_eq_true] at h
  cases q : q_scr l f r i with
  | false => rfl
  | true =>
    exfalso
    unfold q_scr at q
    rw [Bool.or_eq_true] at q
    rcases q with q | q
    · have := h.1 r (q_has1_in.mp q)
      rw [hr] at this
      cases this
    · have := h.2 (r, i) (q_has2_in.mp q)
      rw [hr] at this
      cases this
def c_rng (a b r : Nat) : Bool := Nat.ble a r && Nat.ble r b
theorem c_rng.i {a b r : Nat} (h1 : a ≤ r) (h2 : r ≤ b) : c_rng a b r = true := by
  unfold c_rng
  rw [Nat.ble_eq_true_of_le h1, Nat.ble_eq_true_of_le h2]
  rfl
theorem r_C.fs {l : List Nat} {f : List (Nat × Nat)} {M M' : q_M} {t : q_T} (h : r_C 6 M t) (hf : q_fs l f M M') (o : (l.all (fun a => !(c_rng 6 23 a)) && f.all (fun q => !(c_rng 6 23 q.1))) = true := by exact rfl) : r_C 6 M' t := h.eq (fun k hk => hf.c1 (6 + k) (q_out o (c_rng.i (by omega) (by omega))))
theorem g_S.fs {l : List Nat} {f : List (Nat × Nat)} {c : Nat} {M M' : q_M} {t : q_T} {n : sN} (h : g_S c M t n) (hf : q_fs l f M M') (o : (l.all (fun a => !(c_rng c (c + 7) a)) && f.all (fun q => !(c_rng c (c + 7) q.1))) = true := by exact rfl) : g_S c M' t n := h.eq (hf.c1 c (q_out o (c_rng.i (by omega) (by omega)))) (hf.c1 _ (q_out o (c_rng.i (by omega) (by omega)))) (hf.c1 _ (q_out o (c_rng.i (by omega) (by omega)))) (hf.c1 _ (q_out o (c_rng.i (by omega) (by omega)))) (hf.c1 _ (q_out o (c_rng.i (by omega) (by omega)))) (hf.c1 _ (q_out o (c_rng.i (by omega) (by omega)))) (hf.c1 _ (q_out o (c_rng.i (by omega) (by omega)))) (hf.c1 _ (q_out o (c_rng.i (by omega) (by omega))))
theorem g_Z.f2 {l : List Nat} {f : List (Nat × Nat)} {c : Nat} {M M' : q_M} {t : q_T} {n : sN} (g : g_Z c M t n) (hf : q_fs l f M M') (o : (l.all (fun a => !(c_rng 6 23 a)) && f.all (fun q => !(c_rng 6 23 q.1))) = true := by exact rfl) (o' : (l.all (fun a => !(c_rng c (c + 7) a)) && f.all (fun q => !(c_rng c (c + 7) q.1))) = true := by exact rfl) : g_Z c M' t n := ⟨g.R, g.C.fs hf o, g.S.fs hf o'⟩
/-- who is at the board, in which round, where that lies -/
def bE (n : sN) : Nat := (n (624 + (n 632).toNat)).toNat
def bR (n : sN) : Nat := (n 631 - 1).toNat
theorem b_B.eq {t : q_T} {n : sN} {e r : Nat} (h : b_B t n e r) : bE n = e ∧ bR n = r := by
  obtain ⟨-, -, -, h31, -, -, h34⟩ := h
  unfold bE bR
  omega
/-- somebody is at the board whose dive did not fail -/
def isO (t : q_T) (n : sN) : Prop := isB t n ∧ n (540 + (6 * bE n + bR n)) = 0
theorem b_D.B {t : q_T} {n : sN} (h : b_D t n) (q : isB t n) : b_B t n (bE n) (bR n) := by
  obtain ⟨e, r, hb, -⟩ := h.2.2 q
  rw [hb.eq.1, hb.eq.2]
  exact hb
theorem b_J.B {t : q_T} {n : sN} (h : b_J t n) (h6 : t 8 0 ≤ 6) (q : isB t n) : b_B t n (bE n) (bR n) := by
  obtain ⟨e, r, hb, -⟩ := (h.D h6).2.2 q
  rw [hb.eq.1, hb.eq.2]
  exact hb
theorem slot_of {t : q_T} {n n' : sN} {e r : Nat} (he : e < 6) (hr : r < 6) (h : b_slot t n e r) (hc : sch (6 * e + r) n n') (hg : n (576 + (6 * e + r)) = 0) (hm : ∀ j, j < 11 → -1 ≤ n' (36 + 11 * (6 * e + r) + j) ∧ n' (36 + 11 * (6 * e + r) + j) ≤ 20 ∧ (¬ n' (36 + 11 * (6 * e + r) + j) = -1 → j < t 2 0 ∧ onP t j e = true)) (h1 : 0 ≤ n' (432 + (6 * e + r)) ∧ n' (432 + (6 * e + r)) ≤ 20) (h2 : 0 ≤ n' (468 + (6 * e + r)) ∧ n' (468 + (6 * e + r)) ≤ 2) (h3 : 0 ≤ n' (504 + (6 * e + r)) ∧ n' (504 + (6 * e + r)) ≤ 3) (h4 : n' (540 + (6 * e + r)) = 0 ∨ n' (540 + (6 * e + r)) = 1) (h5 : n' (540 + (6 * e + r)) = 1 → ∀ j, j < 11 → n' (36 + 11 * (6 * e + r) + j) = -1) : b_slot t n' e r := by
  have e0 : n' (6 * e + r) = n (6 * e + r) := hc _ (by omega) (by omega) (by omega) (by omega) (by omega)
  have e5 : n' (576 + (6 * e + r)) = n (576 + (6 * e + r)) := hc _ (by omega) (by omega) (by omega) (by omega) (by omega)
  unfold b_slot
  rw [e0, e5]
  exact ⟨h.1, hm, h1, h2, h3, h4, Or.inl hg, h5, fun z => by omega⟩
/-- a mark -/
def nMk (n : sN) (j : Nat) (w : Int) : sN := up n (36 + 11 * (6 * bE n + bR n) + j) w
def nCp (n : sN) (w : Int) : sN := up n (432 + (6 * bE n + bR n)) w
def nHf (n : sN) (v : Int) : sN := up n (504 + (6 * bE n + bR n)) v
def nFl (n : sN) (s : Nat) : sN := fun i => if i = 540 + s then 1 else if 36 + 11 * s ≤ i ∧ i < 47 + 11 * s then -1 else n i
def nBk (n : sN) : sN := up n (468 + (6 * bE n + bR n)) (n (468 + (6 * bE n + bR n)) + 1)
/-- what an act answers and leaves; none: it can't be done -/
abbrev aRs : Type := Option (Int × sN)
def isOb (t : q_T) (n : sN) : Bool := !decide (t 0 0 = 0) && (!decide (n 633 = 1) && decide (n (540 + (6 * bE n + bR n)) = 0))
theorem isOb_t {t : q_T} {n : sN} : isOb t n = true ↔ isO t n := by
  unfold isOb isO isB
  simp [and_assoc]
theorem isOb_f {t : q_T} {n : sN} (h : ¬ isO t n) : isOb t n = false := Bool.eq_false_iff.mpr (fun z => h (isOb_t.mp z))
def aMark (t : q_T) (n : sN) (j : Nat) (w : Int) : aRs := if isOb t n && onP t j (bE n) then some (mkN t (nMk n j w) (bE n) (bR n), nMk n j w) else none
def aCap (t : q_T) (n : sN) (w : Int) : aRs := if isOb t n then some (n (432 + (6 * bE n + bR n)), nCp n w) else none
def hvN (v : Int) (k : Nat) : Int := if k = 0 then v + 1 else v + 2
def hvH (v : Int) (k : Nat) : Bool := if k = 0 then decide (v % 2 = 1) else decide (2 ≤ v)
def aHalf (t : q_T) (n : sN) (k : Nat) : aRs := if isOb t n && (decide (t 9 (bE n) = 1) && !hvH (n (504 + (6 * bE n + bR n))) k) then some (hvN (n (504 + (6 * bE n + bR n))) k, nHf n (hvN (n (504 + (6 * bE n + bR n))) k)) else none
def aFail (t : q_T) (n : sN) : aRs := if isOb t n then some (0, nFl n ((6 * bE n + bR n))) else none
def aBalk (t : q_T) (n : sN) : aRs := if isOb t n then some (n (468 + (6 * bE n + bR n)) + 1, if n (468 + (6 * bE n + bR n)) + 1 = 2 then nFl (nBk n) ((6 * bE n + bR n)) else nBk n) else none
/-- an act's result on the side of the class, by a frame -/
def cQ (c : Nat) (l : List Nat) (f : List (Nat × Nat)) (M : q_M) (t : q_T) (R : aRs) (Q : Option Value → q_M → Prop) : Prop := (R = none → Q (some (.int (Int32.ofInt (-3)))) M) ∧ ∀ v m, R = some (v, m) → ∀ M', q_fs l f M M' → g_Z c M' t m → Q (some (.int (Int32.ofInt v))) M'
/-- on that of the reference -/
def rQ (l : List Nat) (f : List (Nat × Nat)) (M : q_M) (t : q_T) (R : aRs) (Q : Option Value → q_M → Prop) : Prop := (R = none → Q (some (.int (Int32.ofInt (-3)))) M) ∧ ∀ v m, R = some (v, m) → ∀ M', q_fs l f M M' → g_R M' t m → Q (some (.int (Int32.ofInt v))) M'
/-- it is right so -/
def aOK (t : q_T) (R : aRs) : Prop := ∀ v m, R = some (v, m) → b_J t m ∧ 0 ≤ v ∧ v ≤ 20000
section AK
variable {t : q_T} {n : sN}
theorem mk_sch {s j : Nat} {w : Int} (hj : j < 11) : sch s n (up n (36 + 11 * s + j) w) := fun k h1 _ _ _ _ => up_n (by omega)
theorem fl_sch {s : Nat} : sch s n (nFl n s) := fun k h1 _ _ _ h5 => by
  unfold nFl
  rw [if_neg h5, if_neg h1]
theorem sch.tr {s : Nat} {n1 n2 : sN} (h : sch s n n1) (h' : sch s n1 n2) : sch s n n2 := fun k a b c d e => (h' k a b c d e).trans (h k a b c d e)
theorem mk_slot {e r j : Nat} {w : Int} (he : e < 6) (hr : r < 6) (h : b_slot t n e r) (hg : n (576 + (6 * e + r)) = 0) (h0 : n (540 + (6 * e + r)) = 0) (h11 : t 2 0 ≤ 11) (hj : j < t 2 0) (ho : onP t j e = true) (hw : 0 ≤ w ∧ w ≤ 20) : b_slot t (up n (36 + 11 * (6 * e + r) + j) w) e r := by
  refine slot_of he hr h (mk_sch (by omega)) hg (fun i hi => ?_) ?_ ?_ ?_ ?_ (fun z => ?_)
  · by_cases q : i = j
    · subst q
      rw [up_s]
      exact ⟨by omega, by omega, fun _ => ⟨hj, ho⟩⟩
    · rw [up_n (by omega)]
      exact h.2.1 i hi
  · rw [up_n (by omega)]
    exact h.2.2.1
  · rw [up_n (by omega)]
    exact h.2.2.2.1
  · rw [up_n (by omega)]
    exact h.2.2.2.2.1
  · rw [up_n (by omega)]
    exact Or.inl h0
  · rw [up_n (by omega)] at z
    omega
theorem fl_slot {e r : Nat} (he : e < 6) (hr : r < 6) (h : b_slot t n e r) (hg : n (576 + (6 * e + r)) = 0) : b_slot t (nFl n (6 * e + r)) e r := by
  have hm : ∀ i, i < 11 → nFl n (6 * e + r) (36 + 11 * (6 * e + r) + i) = -1 := fun i hi => by
    unfold nFl
    rw [if_neg (by omega), if_pos (by omega)]
  have ho : ∀ k, 432 ≤ k → ¬ k = 540 + (6 * e + r) → nFl n (6 * e + r) k = n k := fun k h1 h2 => by
    unfold nFl
    rw [if_neg h2, if_neg (by omega)]
  refine slot_of he hr h fl_sch hg (fun i hi => ?_) ?_ ?_ ?_ ?_ (fun z => hm)
  · rw [hm i hi]
    exact ⟨by omega, by omega, fun z => absurd rfl z⟩
  · rw [ho _ (by omega) (by omega)]
    exact h.2.2.1
  · rw [ho _ (by omega) (by omega)]
    exact h.2.2.2.1
  · rw [ho _ (by omega) (by omega)]
    exact h.2.2.2.2.1
  · refine Or.inr ?_
    unfold nFl
    rw [if_pos rfl]
/-- the cap, the balks, the halves -/
theorem up_slot {e r k : Nat} {w : Int} (he : e < 6) (hr : r < 6) (h : b_slot t n e r) (hg : n (576 + (6 * e + r)) = 0) (hk : (k = 432 + (6 * e + r) ∧ 0 ≤ w ∧ w ≤ 20) ∨ (k = 468 + (6 * e + r) ∧ 0 ≤ w ∧ w ≤ 2) ∨ (k = 504 + (6 * e + r) ∧ 0 ≤ w ∧ w ≤ 3)) : sch (6 * e + r) n (up n k w) ∧ b_slot t (up n k w) e r := by
  have hc : sch (6 * e + r) n (up n k w) := fun i h1 h2 h3 h4 h5 => up_n (by omega)
  refine ⟨hc, slot_of he hr h hc hg (fun i hi => ?_) ?_ ?_ ?_ ?_ (fun z i hi => ?_)⟩
  · rw [up_n (by omega)]
    exact h.2.1 i hi
  · by_cases q : k = 432 + (6 * e + r)
    · rw [← q, up_s]
      omega
    · rw [up_n (by omega)]
      exact h.2.2.1
  · by_cases q : k = 468 + (6 * e + r)
    · rw [← q, up_s]
      omega
    · rw [up_n (by omega)]
      exact h.2.2.2.1
  · by_cases q : k = 504 + (6 * e + r)
    · rw [← q, up_s]
      omega
    · rw [up_n (by omega)]
      exact h.2.2.2.2.1
  · rw [up_n (by omega)]
    exact h.2.2.2.2.2.1
  · rw [up_n (by omega)] at z ⊢
    exact h.2.2.2.2.2.2.2.1 z i hi
theorem hv_b {v : Int} {k : Nat} (hv : 0 ≤ v ∧ v ≤ 3) (hk : k < 2) (h : hvH v k = false) : 0 ≤ hvN v k ∧ hvN v k ≤ 3 := by
  unfold hvH at h
  unfold hvN
  have : k = 0 ∨ k = 1 := by omega
  rcases this with rfl | rfl
  · rw [if_pos rfl, decide_eq_false_iff_not] at h
    rw [if_pos rfl]
    omega
  · rw [if_neg (by decide), decide_eq_false_iff_not] at h
    rw [if_neg (by decide)]
    omega
theorem ok_of {v : Int} {m : sN} (h : b_J t m) (hv : 0 ≤ v ∧ v ≤ 20000) : aOK t (some (v, m)) := fun v' m' e => by
  cases e
  exact ⟨h, hv.1, hv.2⟩
theorem ok_no : aOK t none := fun v m e => by cases e
/-- what is known where the board is ready -/
theorem b_J.O (h : b_J t n) (ba : b_A t n) (q : isO t n) : b_B t n (bE n) (bR n) ∧ (bE n < t 8 0 ∧ bE n < 6) ∧ (bR n < t 0 0 ∧ bR n < 6) ∧ b_slot t n (bE n) (bR n) ∧ n (576 + (6 * bE n + bR n)) = 0 ∧ n (468 + (6 * bE n + bR n)) ≤ 1 := by
  have h6 := ba.e6
  have h7 := ba.r6
  have hB := h.B h6 q.1
  have he := hB.2.1
  have hr := hB.2.2.1
  exact ⟨hB, ⟨he, by omega⟩, ⟨hr, by omega⟩, ba.bs he hr, (h.at h6 hB).2.1, h.1.2.2.2 _ he _ hr q.2⟩
theorem aMark_ok (h : b_J t n) (ba : b_A t n) {j : Nat} {w : Int} (hj : j < t 2 0) (hw : 0 ≤ w ∧ w ≤ 20) : aOK t (aMark t n j w) := by
  unfold aMark
  split
  · next q =>
    rw [Bool.and_eq_true, isOb_t] at q
    obtain ⟨hB, he, hr, hs, hg, hk⟩ := h.O ba q.1
    have h11 := ba.j11
    have hc := fb_ct_le (mkd (nMk n j w) (bE n) (bR n)) (t 2 0)
    refine ok_of (h.sch ba.e6 ba.r6 ba.j11 hB (mk_sch (by omega)) (mk_slot he.2 hr.2 hs hg q.1.2 ba.j11 hj q.2 hw) (fun _ => by rw [show nMk n j w (468 + (6 * bE n + bR n)) = n (468 + (6 * bE n + bR n)) from up_n (by have := he.2; have := hr.2; have := ba.j11; omega)]; exact hk)) ⟨by omega, ?_⟩
    show ((fb_ct (mkd (nMk n j w) (bE n) (bR n)) (t 2 0) : Nat) : Int) ≤ 20000
    omega
  · exact ok_no
theorem aCap_ok (h : b_J t n) (ba : b_A t n) {w : Int} (hw : 0 ≤ w ∧ w ≤ 20) : aOK t (aCap t n w) := by
  unfold aCap
  split
  · next q =>
    rw [isOb_t] at q
    obtain ⟨hB, he, hr, hs, hg, hk⟩ := h.O ba q
    have u := up_slot (k := 432 + (6 * bE n + bR n)) (w := w) he.2 hr.2 hs hg (Or.inl ⟨rfl, hw⟩)
    have := hs.2.2.1
    exact ok_of (h.sch ba.e6 ba.r6 ba.j11 hB u.1 u.2 (fun _ => by show up n _ _ _ ≤ 1; rw [up_n (by omega)]; exact hk)) ⟨this.1, by omega⟩
  · exact ok_no
theorem aHalf_ok (h : b_J t n) (ba : b_A t n) {k : Nat} (hk2 : k < 2) : aOK t (aHalf t n k) := by
  unfold aHalf
  split
  · next q =>
    rw [Bool.and_eq_true, isOb_t, Bool.and_eq_true, Bool.not_eq_true'] at q
    obtain ⟨hB, he, hr, hs, hg, hk⟩ := h.O ba q.1
    have hv := hv_b hs.2.2.2.2.1 hk2 q.2.2
    have u := up_slot (k := 504 + (6 * bE n + bR n)) (w := hvN (n (504 + (6 * bE n + bR n))) k) he.2 hr.2 hs hg (Or.inr (Or.inr ⟨rfl, hv⟩))
    exact ok_of (h.sch ba.e6 ba.r6 ba.j11 hB u.1 u.2 (fun _ => by show up n _ _ _ ≤ 1; rw [up_n (by omega)]; exact hk)) ⟨hv.1, by omega⟩
  · exact ok_no
theorem aFail_ok (h : b_J t n) (ba : b_A t n) : aOK t (aFail t n) := by
  unfold aFail
  split
  · next q =>
    rw [isOb_t] at q
    obtain ⟨hB, he, hr, hs, hg, hk⟩ := h.O ba q
    exact ok_of (h.sch ba.e6 ba.r6 ba.j11 hB fl_sch (fl_slot he.2 hr.2 hs hg) (fun z => absurd z (by unfold nFl; rw [if_pos rfl]; decide))) ⟨by omega, by omega⟩
  · exact ok_no
theorem bk_b (h : b_J t n) (ba : b_A t n) (q : isO t n) : sch ((6 * bE n + bR n)) n (nBk n) ∧ b_slot t (nBk n) (bE n) (bR n) := by
  obtain ⟨hB, he, hr, hs, hg, hk⟩ := h.O ba q
  have := hs.2.2.2.1
  have u := up_slot (k := 468 + (6 * bE n + bR n)) (w := n (468 + (6 * bE n + bR n)) + 1) he.2 hr.2 hs hg (Or.inr (Or.inl ⟨rfl, by omega, by omega⟩))
  exact ⟨u.1, u.2⟩
theorem nFl_f {s : Nat} : nFl n s (540 + s) = 1 := if_pos rfl
theorem nFl_m {s i : Nat} (hs : s < 36) (hi : i < 11) : nFl n s (36 + 11 * s + i) = -1 := by
  unfold nFl
  rw [if_neg (by omega), if_pos (by omega)]
theorem nFl_o {s k : Nat} (h1 : 432 ≤ k) (hs : s < 36) (h2 : ¬ k = 540 + s) : nFl n s k = n k := by
  unfold nFl
  rw [if_neg h2, if_neg (by omega)]
theorem aBalk_ok (h : b_J t n) (ba : b_A t n) : aOK t (aBalk t n) := by
  unfold aBalk
  split
  · next q =>
    rw [isOb_t] at q
    obtain ⟨hB, he, hr, hs, hg, hk⟩ := h.O ba q
    have b0 := hs.2.2.2.1
    obtain ⟨u1, u2⟩ := bk_b h ba q
    refine ok_of ?_ ⟨by omega, by omega⟩
    split
    · next q2 =>
      have hg2 : nBk n (576 + (6 * bE n + bR n)) = 0 := by
        unfold nBk
        rw [up_n (by omega)]
        exact hg
      exact h.sch ba.e6 ba.r6 ba.j11 hB (u1.tr fl_sch) (fl_slot he.2 hr.2 u2 hg2) (fun z => absurd z (by rw [nFl_f]; decide))
    · next q2 =>
      refine h.sch ba.e6 ba.r6 ba.j11 hB u1 u2 (fun _ => ?_)
      show up n (468 + (6 * bE n + bR n)) (n (468 + (6 * bE n + bR n)) + 1) (468 + (6 * bE n + bR n)) ≤ 1
      rw [up_s]
      omega
  · exact ok_no
/-- the board of a row whose slot moved -/
theorem sch.b {s : Nat} {n' : sN} (hc : sch s n n') (hs : s < 36) : bE n' = bE n ∧ bR n' = bR n := by
  have hi : ∀ k, 576 ≤ k → n' k = n k := fun k hk => hc k (by omega) (by omega) (by omega) (by omega) (by omega)
  unfold bE bR
  rw [hi 632 (by omega), hi 631 (by omega), hi (624 + (n 632).toNat) (by omega)]
  exact ⟨rfl, rfl⟩
theorem sch.D {s : Nat} {n' : sN} (hc : sch s n n') (hs : s < 36) (h : b_D t n) : b_D t n' := by
  have hi : ∀ k, 576 ≤ k → n' k = n k := fun k hk => hc k (by omega) (by omega) (by omega) (by omega) (by omega)
  unfold b_D isB at h ⊢
  rw [hi 633 (by omega)]
  refine ⟨h.1, h.2.1, fun q => ?_⟩
  obtain ⟨e, r, hb, hq⟩ := h.2.2 q
  refine ⟨e, r, ?_, by rw [inE_eq (hi _ (by omega))]; exact hq⟩
  unfold b_B isB at hb ⊢
  rw [hi 633 (by omega), hi 631 (by omega), hi 632 (by omega), hi (624 + (n 632).toNat) (by omega)]
  exact hb
end AK
