/-! drawn dives: the pure picture -/
theorem z_rem {a b : Int} (ha : 0 ≤ a ∧ a < 2147483648) (hb : 0 < b ∧ b < 2147483648) : Int32.ofInt a - Int32.ofInt a / Int32.ofInt b * Int32.ofInt b = Int32.ofInt (a % b) := by
  rw [z_div ha hb, ← Int32.ofInt_mul, ← Int32.ofInt_sub]
  refine congrArg Int32.ofInt ?_
  rw [Int.tdiv_eq_ediv_of_nonneg ha.1, Int.emod_def, Int.mul_comm]
theorem y_toInt {a : Int} (h : -9223372036854775808 ≤ a ∧ a < 9223372036854775808) : (Int64.ofInt a).toInt = a := Int64.toInt_ofInt_of_le (by omega) (by omega)
theorem y_div {a b : Int} (ha : 0 ≤ a ∧ a < 9223372036854775808) (hb : 0 < b ∧ b < 9223372036854775808) : Int64.ofInt a / Int64.ofInt b = Int64.ofInt (a.tdiv b) := by
  have h1 := Int.tdiv_nonneg ha.1 (Int.le_of_lt hb.1)
  have h2 := Int.tdiv_le_self (a := a) b ha.1
  rw [← Int64.toInt_inj, Int64.toInt_div, y_toInt (by omega), y_toInt (by omega), y_toInt (by omega)]
  exact Int.bmod_eq_of_le (by omega) (by omega)
theorem y_rem {a b : Int} (ha : 0 ≤ a ∧ a < 9223372036854775808) (hb : 0 < b ∧ b < 9223372036854775808) : Int64.ofInt a - Int64.ofInt a / Int64.ofInt b * Int64.ofInt b = Int64.ofInt (a % b) := by
  rw [y_div ha hb, ← Int64.ofInt_mul, ← Int64.ofInt_sub]
  refine congrArg Int64.ofInt ?_
  rw [Int.tdiv_eq_ediv_of_nonneg ha.1, Int.emod_def, Int.mul_comm]
theorem y_i2l {a : Int} (h : -2147483648 ≤ a ∧ a < 2147483648) : (Int32.ofInt a).toInt64 = Int64.ofInt a := by
  rw [← Int64.toInt_inj, Int32.toInt_toInt64, z_toInt h, y_toInt (by omega)]
theorem y_l2i {a : Int} : (Int64.ofInt a).toInt32 = Int32.ofInt a := Int64.toInt32_ofInt
/-- what is drawn next -/
def dN (x : Nat) : Nat := (x * 1103 + 12345) % 1000003
theorem dN_b {x : Nat} : dN x ≤ 1000002 := by
  have := Nat.mod_lt (x * 1103 + 12345) (show 0 < 1000003 by decide)
  unfold dN
  omega
def dK (x : Nat) : Nat → Nat
  | 0 => x
  | k + 1 => dN (dK x k)
theorem dK_b {x : Nat} (hx : x ≤ 1000002) : ∀ k, dK x k ≤ 1000002
  | 0 => hx
  | _ + 1 => dN_b
theorem dr_c {x : Nat} (hx : x ≤ 1000002) : (nI x * Int32.ofInt 1103 + Int32.ofInt 12345) - (nI x * Int32.ofInt 1103 + Int32.ofInt 12345) / Int32.ofInt 1000003 * Int32.ofInt 1000003 = nI (dN x) := by
  have e : nI x * Int32.ofInt 1103 + Int32.ofInt 12345 = Int32.ofInt ((x : Int) * 1103 + 12345) := by
    rw [z_nat, ← Int32.ofInt_mul, ← Int32.ofInt_add]
  rw [e, z_rem (by omega) (by omega), z_nat]
  refine congrArg Int32.ofInt ?_
  unfold dN
  omega
theorem dr_l {x : Nat} (hx : x ≤ 1000002) : (((nI x).toInt64 * Int64.ofInt 1103 + Int64.ofInt 12345) - ((nI x).toInt64 * Int64.ofInt 1103 + Int64.ofInt 12345) / Int64.ofInt 1000003 * Int64.ofInt 1000003).toInt32 = nI (dN x) := by
  have e : (nI x).toInt64 * Int64.ofInt 1103 + Int64.ofInt 12345 = Int64.ofInt ((x : Int) * 1103 + 12345) := by
    rw [z_nat, y_i2l (by omega), ← Int64.ofInt_mul, ← Int64.ofInt_add]
  rw [e, y_rem (by omega) (by omega), y_l2i, z_nat]
  refine congrArg Int32.ofInt ?_
  unfold dN
  omega
theorem dr_5 {x : Nat} (hx : x ≤ 1000002) : nI x - nI x / Int32.ofInt 5 * Int32.ofInt 5 = nI (x % 5) := by
  rw [z_nat, z_rem (by omega) (by omega), z_nat]
  exact congrArg Int32.ofInt (by omega)
/-- the dive at the board, of whom -/
def bDv (n : sN) : Nat := (n ((6 * bE n + bR n))).toNat
/-- the mark that judge j is drawn -/
def mkD (t : q_T) (n : sN) (x j : Nat) : Int := clp (faw t (bE n) (bDv n) + ((dK x (fb_ct (fun i => onP t i (bE n)) (j + 1)) % 5 : Nat) : Int) - 2)
theorem mkD_b {t : q_T} {n : sN} {x j : Nat} : 0 ≤ mkD t n x j ∧ mkD t n x j ≤ 20 := clp_le _
/-- the row while marks are drawn: of the judges below k -/
def nDk (t : q_T) (n : sN) (x k : Nat) : sN := fun i => if i = 432 + (6 * bE n + bR n) then 20 else if i = 468 + (6 * bE n + bR n) ∨ i = 504 + (6 * bE n + bR n) ∨ i = 540 + (6 * bE n + bR n) then 0 else if 36 + 11 * (6 * bE n + bR n) ≤ i ∧ i < 47 + 11 * (6 * bE n + bR n) then (if i - (36 + 11 * (6 * bE n + bR n)) < k ∧ onP t (i - (36 + 11 * (6 * bE n + bR n))) (bE n) = true then mkD t n x (i - (36 + 11 * (6 * bE n + bR n))) else -1) else n i
section DW
variable {t : q_T} {n : sN} {x k : Nat}
theorem nD_sch : sch ((6 * bE n + bR n)) n (nDk t n x k) := fun i h1 h2 h3 h4 h5 => by
  unfold nDk
  rw [if_neg h2, if_neg (by omega), if_neg h1]
theorem nD_c (h : (6 * bE n + bR n) < 36) : nDk t n x k (432 + (6 * bE n + bR n)) = 20 ∧ nDk t n x k (468 + (6 * bE n + bR n)) = 0 ∧ nDk t n x k (504 + (6 * bE n + bR n)) = 0 ∧ nDk t n x k (540 + (6 * bE n + bR n)) = 0 := by
  unfold nDk
  refine ⟨if_pos rfl, ?_, ?_, ?_⟩
  · rw [if_neg (by omega), if_pos (Or.inl rfl)]
  · rw [if_neg (by omega), if_pos (Or.inr (Or.inl rfl))]
  · rw [if_neg (by omega), if_pos (Or.inr (Or.inr rfl))]
theorem nD_m (h : (6 * bE n + bR n) < 36) {j : Nat} (hj : j < 11) : nDk t n x k (36 + 11 * (6 * bE n + bR n) + j) = if j < k ∧ onP t j (bE n) = true then mkD t n x j else -1 := by
  unfold nDk
  rw [if_neg (by omega), if_neg (by omega), if_pos (by omega), show 36 + 11 * (6 * bE n + bR n) + j - (36 + 11 * (6 * bE n + bR n)) = j by omega]
theorem nD_b (hJ : b_J t n) (ba : b_A t n) (q : isB t n) (hk : k ≤ t 2 0) : b_J t (nDk t n x k) ∧ isO t (nDk t n x k) ∧ bE (nDk t n x k) = bE n ∧ bR (nDk t n x k) = bR n := by
  have h6 := ba.e6
  have h7 := ba.r6
  have h11 := ba.j11
  have hB := hJ.B h6 q
  have he := hB.2.1
  have hr := hB.2.2.1
  have s36 : (6 * bE n + bR n) < 36 := by omega
  have c := nD_c (t := t) (n := n) (x := x) (k := k) s36
  have e := (nD_sch (t := t) (n := n) (x := x) (k := k)).b s36
  have hs : b_slot t (nDk t n x k) (bE n) (bR n) := by
    refine slot_of (by omega) (by omega) (ba.bs he hr) nD_sch (hJ.at h6 hB).2.1 (fun j hj => ?_) ?_ ?_ ?_ ?_ (fun z => ?_)
    · rw [nD_m s36 hj]
      have := mkD_b (t := t) (n := n) (x := x) (j := j)
      split
      · next z => exact ⟨by omega, by omega, fun _ => ⟨by omega, z.2⟩⟩
      · exact ⟨by omega, by omega, fun z => absurd rfl z⟩
    · rw [c.1]; omega
    · rw [c.2.1]; omega
    · rw [c.2.2.1]; omega
    · rw [c.2.2.2]; exact Or.inl rfl
    · rw [c.2.2.2] at z
      omega
  refine ⟨hJ.sch h6 h7 h11 hB nD_sch hs (fun _ => by rw [c.2.1]; omega), ⟨?_, ?_⟩, e⟩
  · have : nDk t n x k 633 = n 633 := nD_sch 633 (by omega) (by omega) (by omega) (by omega) (by omega)
    unfold isB
    rw [this]
    exact q
  · rw [e.1, e.2]
    exact c.2.2.2
theorem nD_mk (h : (6 * bE n + bR n) < 36) (hk : k < 11) (ho : onP t k (bE n) = true) : up (nDk t n x k) (36 + 11 * (6 * bE n + bR n) + k) (mkD t n x k) = nDk t n x (k + 1) := by
  funext i
  by_cases q : i = 36 + 11 * (6 * bE n + bR n) + k
  · rw [q, up_s, nD_m h hk, if_pos ⟨by omega, ho⟩]
  · rw [up_n q]
    unfold nDk
    by_cases q1 : i = 432 + (6 * bE n + bR n)
    · rw [if_pos q1, if_pos q1]
    · rw [if_neg q1, if_neg q1]
      by_cases q2 : i = 468 + (6 * bE n + bR n) ∨ i = 504 + (6 * bE n + bR n) ∨ i = 540 + (6 * bE n + bR n)
      · rw [if_pos q2, if_pos q2]
      · rw [if_neg q2, if_neg q2]
        by_cases q3 : 36 + 11 * (6 * bE n + bR n) ≤ i ∧ i < 47 + 11 * (6 * bE n + bR n)
        · rw [if_pos q3, if_pos q3]
          by_cases q4 : i - (36 + 11 * (6 * bE n + bR n)) < k ∧ onP t (i - (36 + 11 * (6 * bE n + bR n))) (bE n) = true
          · rw [if_pos q4, if_pos ⟨by omega, q4.2⟩]
          · rw [if_neg q4, if_neg (fun z => q4 ⟨by omega, z.2⟩)]
        · rw [if_neg q3, if_neg q3]
theorem nD_no (h : (6 * bE n + bR n) < 36) (hk : k < 11) (ho : onP t k (bE n) = false) : nDk t n x k = nDk t n x (k + 1) := by
  funext i
  unfold nDk
  by_cases q1 : i = 432 + (6 * bE n + bR n)
  · rw [if_pos q1, if_pos q1]
  · rw [if_neg q1, if_neg q1]
    by_cases q2 : i = 468 + (6 * bE n + bR n) ∨ i = 504 + (6 * bE n + bR n) ∨ i = 540 + (6 * bE n + bR n)
    · rw [if_pos q2, if_pos q2]
    · rw [if_neg q2, if_neg q2]
      by_cases q3 : 36 + 11 * (6 * bE n + bR n) ≤ i ∧ i < 47 + 11 * (6 * bE n + bR n)
      · rw [if_pos q3, if_pos q3]
        by_cases q4 : i - (36 + 11 * (6 * bE n + bR n)) < k ∧ onP t (i - (36 + 11 * (6 * bE n + bR n))) (bE n) = true
        · rw [if_pos q4, if_pos ⟨by omega, q4.2⟩]
        · rw [if_neg q4, if_neg (fun z => q4 ⟨Classical.byContradiction (fun y => by
            have : i - (36 + 11 * (6 * bE n + bR n)) = k := by omega
            rw [this, ho] at z
            cases z.2), z.2⟩)]
      · rw [if_neg q3, if_neg q3]
/-- all have marked then -/
theorem nD_all (ba : b_A t n) (h : (6 * bE n + bR n) < 36) : ¬ mkN t (nDk t n x (t 2 0)) (bE n) (bR n) < pnN t (bE n) := by
  have h11 := ba.j11
  have : mkN t (nDk t n x (t 2 0)) (bE n) (bR n) = pnN t (bE n) := by
    unfold mkN pnN
    refine fb_ct_cong (fun j hj => ?_)
    unfold mkd
    show (!decide (nDk t n x (t 2 0) (36 + 11 * (6 * bE n + bR n) + j) = -1)) = _
    rw [nD_m h (by omega)]
    have := mkD_b (t := t) (n := n) (x := x) (j := j)
    cases q : onP t j (bE n) with
    | true =>
      rw [if_pos ⟨hj, rfl⟩, decide_eq_false (by omega)]
      rfl
    | false =>
      rw [if_neg (fun z => by cases z.2), decide_eq_true rfl]
      rfl
  omega
/-- k dives drawn, to the end -/
def isRun (t : q_T) : Nat → Nat → sN → Nat → sN → Prop
  | 0, x, n, x', n' => ¬ isB t n ∧ x' = x ∧ n' = n
  | k + 1, x, n, x', n' => isB t n ∧ ∃ m, isGo t (nGv (nDk t n x (t 2 0))) m ∧ isRun t k (dK x (pnN t (bE n))) m x' n'
theorem gv_all (ba : b_A t n) (hJ : b_J t n) (q : isB t n) : isB t (nDk t n x (t 2 0)) ∧ ¬ (isO t (nDk t n x (t 2 0)) ∧ mkN t (nDk t n x (t 2 0)) (bE (nDk t n x (t 2 0))) (bR (nDk t n x (t 2 0))) < pnN t (bE (nDk t n x (t 2 0)))) := by
  have d := nD_b (x := x) hJ ba q (Nat.le_refl _)
  have hB := hJ.B ba.e6 q
  have h6 := ba.e6
  have h7 := ba.r6
  have he := hB.2.1
  have hr := hB.2.2.1
  refine ⟨d.2.1.1, fun z => ?_⟩
  rw [d.2.2.1, d.2.2.2] at z
  exact nD_all ba (by omega) z.2
theorem isGo_gv {m : sN} (h6 : t 8 0 ≤ 6) (h7 : t 0 0 ≤ 6) (hg : isGo t n m) : ∀ e, e < t 8 0 → gvN t m e = gvN t n e := by
  intro e he
  refine gvN_eq (fun r hr => ?_)
  have lt : 576 + (6 * e + r) < 612 := by omega
  rcases hg with ⟨-, rfl⟩ | ⟨-, k, -, rfl⟩ | ⟨-, -, ⟨-, rfl⟩ | ⟨-, n2, hn, k, -, rfl⟩⟩
  · exact up_n (by omega)
  · exact up_n (by omega)
  · exact (up_n (by omega)).trans (up_n (by omega))
  · refine (up_n (by omega)).trans ((up_n (by omega)).trans ?_)
    rcases hn with ⟨c, R, -, -, -, rfl⟩ | ⟨-, rfl⟩
    · exact (cut_lo lt).trans (up_n (by omega))
    · exact up_n (by omega)
/-- a step: what it leaves, one more is given -/
theorem run_1 {m : sN} (ba : b_A t n) (hJ : b_J t n) (q : isB t n) (hg : isGo t (nGv (nDk t n x (t 2 0))) m) : b_J t m ∧ b_A t m ∧ gvA t m = gvA t n + 1 := by
  have d := nD_b (x := x) hJ ba q (Nat.le_refl _)
  have ba2 : b_A t (nDk t n x (t 2 0)) := ⟨ba.1, d.1.1.1⟩
  have a := gv_all (x := x) ba hJ q
  have J := isGo.J (gv_W d.1 ba2 a.1 a.2) ba.b2 ba.e6 ba.r6 ba.j11 hg
  refine ⟨J, ⟨ba.1, J.1.1⟩, ?_⟩
  have gN := gv_N d.1 ba2 a.1
  rw [d.2.2.1] at gN
  have hB := hJ.B ba.e6 q
  have h6 := ba.e6
  have h7 := ba.r6
  have he := hB.2.1
  have hr := hB.2.2.1
  have eD : ∀ e, e < t 8 0 → gvN t (nDk t n x (t 2 0)) e = gvN t n e := fun e he' => gvN_eq (fun r hr' => nD_sch _ (by omega) (by omega) (by omega) (by omega) (by omega))
  have key : ∀ k, k ≤ t 8 0 → fb_sm (gvN t m) k = fb_sm (gvN t n) k + (if bE n < k then 1 else 0) := by
    intro k
    induction k with
    | zero => intro _; rw [if_neg (by omega)]; rfl
    | succ k ih =>
      intro hk
      rw [fb_sm_succ, fb_sm_succ, ih (by omega), isGo_gv h6 h7 hg k (by omega)]
      by_cases z : k = bE n
      · rw [z, gN.1, eD _ (by omega), if_neg (by omega), if_pos (by omega)]
        omega
      · rw [gN.2 k (by omega) z, eD _ (by omega)]
        by_cases w : bE n < k
        · rw [if_pos w, if_pos (by omega)]
          omega
        · rw [if_neg w, if_neg (by omega)]
          omega
  have := key (t 8 0) (Nat.le_refl _)
  rw [if_pos he] at this
  exact this
theorem gvA_b (ba : b_A t n) : gvA t n ≤ 36 := by
  have h6 := ba.e6
  have h7 := ba.r6
  have key : ∀ k, fb_sm (gvN t n) k ≤ 6 * k := by
    intro k
    induction k with
    | zero => exact Nat.le_refl _
    | succ k ih =>
      rw [fb_sm_succ]
      have : gvN t n k ≤ t 0 0 := fb_ct_le _ _
      omega
  have := key (t 8 0)
  unfold gvA
  omega
theorem isRun_ex : ∀ (c : Nat) {n : sN} {x : Nat}, b_A t n → b_J t n → gvA t n + c = 37 → ∃ k x' n', isRun t k x n x' n' ∧ k + gvA t n ≤ 36
  | 0, n, x, ba, hJ, hc => by
    have := gvA_b ba
    omega
  | c + 1, n, x, ba, hJ, hc => by
    rcases Classical.em (isB t n) with q | q
    · have d := nD_b (x := x) hJ ba q (Nat.le_refl _)
      have ba2 : b_A t (nDk t n x (t 2 0)) := ⟨ba.1, d.1.1.1⟩
      have a := gv_all (x := x) ba hJ q
      obtain ⟨m, hm⟩ := isGo_ex (gv_W d.1 ba2 a.1 a.2) ba.b2 ba.e6
      obtain ⟨j1, j2, j3⟩ := run_1 ba hJ q hm
      obtain ⟨k, x', n', hr, hk⟩ := isRun_ex c (n := m) (x := dK x (pnN t (bE n))) j2 j1 (by omega)
      exact ⟨k + 1, x', n', ⟨q, m, hm, hr⟩, by omega⟩
    · have := gvA_b ba
      exact ⟨0, x, n, ⟨q, rfl, rfl⟩, by omega⟩
/-- r runs from x: how often e wins -/
def isWins (t : q_T) (n : sN) (e : Nat) : Nat → Nat → Nat → Prop
  | 0, _, w => w = 0
  | r + 1, x, w => ∃ k x' n' w', k ≤ 36 ∧ isRun t k x n x' n' ∧ isWins t n e r x' w' ∧ w = w' + (if rkN t n' (toF t n') e = 1 then 1 else 0)
theorem isWins_ex (ba : b_A t n) (hJ : b_J t n) (e : Nat) : ∀ (r x : Nat), ∃ w, isWins t n e r x w
  | 0, _ => ⟨0, rfl⟩
  | r + 1, x => by
    have := gvA_b ba
    obtain ⟨k, x', n', h1, h2⟩ := isRun_ex (t := t) (37 - gvA t n) (n := n) (x := x) ba hJ (by omega)
    obtain ⟨w, hw⟩ := isWins_ex ba hJ e r x'
    exact ⟨_, k, x', n', w, by omega, h1, hw, rfl⟩
theorem isWins_b {e : Nat} : ∀ {r x w : Nat}, isWins t n e r x w → w ≤ r
  | 0, _, w, h => by
    have h : w = 0 := h
    omega
  | r + 1, x, w, h => by
    obtain ⟨k, x', n', w', -, -, h1, rfl⟩ := h
    have := isWins_b h1
    split <;> omega
end DW
