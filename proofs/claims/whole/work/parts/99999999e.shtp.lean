/-! the result sheet, pure: who stands where, the letters of a line, room -/
section PL
variable {t : q_T} {n : sN} {f : Nat → Int} {o e : Nat}
theorem ahd_ir : ahd n f e e = false := ahd_f.mpr (by omega)
theorem ahd_tr {x : Nat} (h : ahd n f x o = true) (h' : ahd n f o e = true) : ahd n f x e = true := by
  rw [ahd_t] at h h' ⊢
  omega
theorem rk_ah (ho : o < t 8 0) (h : ahd n f o e = true) : rkN t n f o < rkN t n f e := by
  unfold rkN
  have := rk_more (p := fun x => ahd n f x o) (q := fun x => ahd n f x e) ho (fun x _ z => ahd_tr z h) ahd_ir h
  omega
theorem rkN_iff (ho : o < t 8 0) (he : e < t 8 0) : ahd n f o e = true ↔ rkN t n f o < rkN t n f e := by
  refine ⟨rk_ah ho, fun h => ?_⟩
  cases q : ahd n f o e with
  | true => rfl
  | false =>
    exfalso
    cases q2 : ahd n f e o with
    | true =>
      have := rk_ah he q2
      omega
    | false =>
      rw [ahd_f] at q q2
      have e2 : rch n o = rch n e := by omega
      have e3 : f o = f e := by omega
      have e4 : fb_ct (fun x => ahd n f x o) (t 8 0) = fb_ct (fun x => ahd n f x e) (t 8 0) := fb_ct_cong (fun x _ => by
        show ahd n f x o = ahd n f x e
        unfold ahd
        rw [e2, e3])
      have e1 : rkN t n f o = rkN t n f e := by
        unfold rkN
        rw [e4]
      omega
/-- who stands before whom -/
def bfE (t : q_T) (n : sN) (f : Nat → Int) (o e : Nat) : Bool := ahd n f o e || (decide (rkN t n f o = rkN t n f e) && decide (o < e))
theorem bf_iff (ho : o < t 8 0) (he : e < t 8 0) : bfE t n f o e = true ↔ rkN t n f o < rkN t n f e ∨ (rkN t n f o = rkN t n f e ∧ o < e) := by
  unfold bfE
  rw [Bool.or_eq_true, rkN_iff ho he, Bool.and_eq_true, decide_eq_true_iff, decide_eq_true_iff]
theorem pl_bf (he : e < t 8 0) : plN t n f e = fb_ct (fun o => bfE t n f o e) (t 8 0) := by
  unfold bfE
  rw [fb_ct_or (p := fun o => ahd n f o e) (q := fun o => decide (rkN t n f o = rkN t n f e) && decide (o < e)) (fun k hk z => by
    have h1 := rk_ah hk z.1
    have h2 := of_decide_eq_true ((Bool.and_eq_true _ _).mp z.2).1
    omega)]
  unfold plN
  rw [ct_eq (p := fun o => decide (rkN t n f o = rkN t n f e) && decide (o < e)) (q := fun o => decide (rkN t n f o = rkN t n f e)) (Nat.le_of_lt he) (fun i hi => by
    show (decide (rkN t n f i = rkN t n f e) && decide (i < e)) = decide (rkN t n f i = rkN t n f e)
    rw [decide_eq_true hi, Bool.and_true]) (fun i hi _ => by
    show (decide (rkN t n f i = rkN t n f e) && decide (i < e)) = false
    rw [decide_eq_false (p := i < e) (by omega), Bool.and_false])]
  have e1 : rkN t n f e - 1 = fb_ct (fun o => ahd n f o e) (t 8 0) := by unfold rkN; omega
  rw [e1]
theorem pl_lt {e' : Nat} (he : e < t 8 0) (he' : e' < t 8 0) (h : bfE t n f e e' = true) : plN t n f e < plN t n f e' := by
  rw [pl_bf he, pl_bf he']
  refine rk_more he (fun x hx z => ?_) ?_ h
  · rw [bf_iff hx he] at z
    rw [bf_iff he he'] at h
    rw [bf_iff hx he']
    omega
  · show bfE t n f e e = false
    cases q : bfE t n f e e with
    | false => rfl
    | true =>
      rw [bf_iff he he] at q
      omega
theorem pl_ne {e' : Nat} (he : e < t 8 0) (he' : e' < t 8 0) (h : ¬ e = e') : ¬ plN t n f e = plN t n f e' := by
  have h1 : bfE t n f e e' = true ∨ bfE t n f e' e = true := by
    rw [bf_iff he he', bf_iff he' he]
    omega
  rcases h1 with h1 | h1
  · have := pl_lt he he' h1
    omega
  · have := pl_lt he' he h1
    omega
theorem pl_top (he : e < t 8 0) : plN t n f e < t 8 0 := by
  rw [pl_bf he]
  have h := rk_more (p := fun o => bfE t n f o e) (q := fun _ => true) he (fun _ _ _ => rfl) (by
    show bfE t n f e e = false
    cases q : bfE t n f e e with
    | false => rfl
    | true =>
      rw [bf_iff he he] at q
      omega) rfl
  have ha : fb_ct (fun _ => true) (t 8 0) = t 8 0 := fb_ct_all.mpr (fun _ _ => rfl)
  rw [ha] at h
  exact h
theorem pl_ex : ∃ es : Nat → Nat, ∀ i, i < t 8 0 → es i < t 8 0 ∧ plN t n f (es i) = i := by
  have h : ∀ i, ∃ e, i < t 8 0 → e < t 8 0 ∧ plN t n f e = i := fun i => by
    rcases Nat.lt_or_ge i (t 8 0) with q | q
    · obtain ⟨e, he, h1⟩ := fb_onto (f := plN t n f) (n := t 8 0) (fun e he => pl_top he) (fun a b hab hb => pl_ne (by omega) hb (by omega)) q
      exact ⟨e, fun _ => ⟨he, h1⟩⟩
    · exact ⟨0, fun z => by omega⟩
  exact ⟨fun i => Classical.choose (h i), fun i hi => Classical.choose_spec (h i) hi⟩
theorem rk_6 (h6 : t 8 0 ≤ 6) (he : e < t 8 0) : 1 ≤ rkN t n f e ∧ rkN t n f e ≤ 6 := by
  have h := pl_top (n := n) (f := f) he
  unfold plN at h
  have : 1 ≤ rkN t n f e := by unfold rkN; omega
  exact ⟨this, by omega⟩
end PL
/-- the first k letters of a row -/
def ltT (x : Nat → Nat) (k : Nat) : List Nat := (List.range k).map x
theorem ltT_len {x : Nat → Nat} {k : Nat} : (ltT x k).length = k := by unfold ltT; rw [List.length_map, List.length_range]
theorem ltT_s {x : Nat → Nat} {k : Nat} : ltT x (k + 1) = ltT x k ++ [x k] := by unfold ltT; rw [List.range_succ, List.map_append]; rfl
theorem d5 {x : Nat → Nat} : ∀ {k i : Nat}, k ≤ 12 → (∀ p, p < k → 97 ≤ x (0 + p) ∧ x (0 + p) ≤ 122) → w5E x 0 k / 32 ^ i % 32 = if i < k then x (k - 1 - i) - 96 else 0
  | 0, i, _, _ => by
    rw [if_neg (by omega)]
    show 0 / 32 ^ i % 32 = 0
    simp
  | k + 1, i, hk, h => by
    have b := h k (by omega)
    rw [Nat.zero_add] at b
    have e : w5E x 0 (k + 1) = 32 * w5E x 0 k + (x k - 96) := by
      show (if k < 12 then 32 * w5E x 0 k + (x (0 + k) - 96) else w5E x 0 k) = _
      rw [if_pos (by omega), Nat.zero_add]
    rw [e]
    cases i with
    | zero =>
      rw [if_pos (by omega), show k + 1 - 1 - 0 = k by omega, Nat.pow_zero, Nat.div_one]
      omega
    | succ i =>
      have ih := d5 (x := x) (k := k) (i := i) (by omega) (fun p hp => h p (by omega))
      rw [Nat.pow_succ, Nat.mul_comm (32 ^ i) 32, ← Nat.div_div_eq_div_mul, show (32 * w5E x 0 k + (x k - 96)) / 32 = w5E x 0 k by omega, ih]
      by_cases q : i < k
      · rw [if_pos q, if_pos (by omega), show k + 1 - 1 - (i + 1) = k - 1 - i by omega]
      · rw [if_neg q, if_neg (by omega)]
theorem d8 {x : Nat → Nat} : ∀ {k i : Nat}, k ≤ 8 → (∀ p, p < k → 97 ≤ x (0 + p) ∧ x (0 + p) ≤ 122) → w8E x 0 k / 256 ^ i % 256 = if i < k then x (k - 1 - i) else 0
  | 0, i, _, _ => by
    rw [if_neg (by omega)]
    show 0 / 256 ^ i % 256 = 0
    simp
  | k + 1, i, hk, h => by
    have b := h k (by omega)
    rw [Nat.zero_add] at b
    have e : w8E x 0 (k + 1) = 256 * w8E x 0 k + x k := by
      show (if k < 8 then 256 * w8E x 0 k + x (0 + k) else 0) = _
      rw [if_pos (by omega), Nat.zero_add]
    rw [e]
    cases i with
    | zero =>
      rw [if_pos (by omega), show k + 1 - 1 - 0 = k by omega, Nat.pow_zero, Nat.div_one]
      omega
    | succ i =>
      have ih := d8 (x := x) (k := k) (i := i) (by omega) (fun p hp => h p (by omega))
      rw [Nat.pow_succ, Nat.mul_comm (256 ^ i) 256, ← Nat.div_div_eq_div_mul, show (256 * w8E x 0 k + x k) / 256 = w8E x 0 k by omega, ih]
      by_cases q : i < k
      · rw [if_pos q, if_pos (by omega), show k + 1 - 1 - (i + 1) = k - 1 - i by omega]
      · rw [if_neg q, if_neg (by omega)]
theorem sh63 : ∀ s, s < 64 → (((nI s).toInt64 &&& 63).toBitVec.smod 64).toNat = s := by decide +kernel
theorem lN_shr {w s : Nat} (h : w < 2 ^ 63) (hs : s < 64) : lN w >>> ((nI s).toInt64 &&& 63) = lN (w / 2 ^ s) := by
  apply Int64.toInt_inj.mp
  have h2 : w / 2 ^ s ≤ w := Nat.div_le_self _ _
  have e : (lN w >>> ((nI s).toInt64 &&& 63)).toInt = (lN w).toInt >>> s := by
    show ((lN w).toBitVec.sshiftRight (((nI s).toInt64 &&& 63).toBitVec.smod 64).toNat).toInt = _
    rw [sh63 s hs, BitVec.toInt_sshiftRight]
    rfl
  rw [e, pk_lT h, pk_lT (by omega), Int.shiftRight_eq_div_pow]
  rfl
theorem nI_31 (x : Nat) : nI x &&& Int32.ofInt 31 = nI (x % 32) := by
  rw [pk_and (nI x) 5 (by decide)]
  show nI (x % 2 ^ 32 % 2 ^ 5) = nI (x % 32)
  exact congrArg nI (by omega)
/-- the letters that the class has: T; those that the reference has said: T -/
def sbT (M : q_M) (T : List Nat) : Prop := M.1 270 0 = 1 ∧ M.1 270 1 = nI T.length ∧ ∀ i, i < T.length → M.1 270 (2 + i) = nI (T.getD i 0)
def rfT (M : q_M) (T : List Nat) : Prop := M.1 271 47 = nI T.length ∧ ∀ i, i < T.length → M.1 299 i = nI (T.getD i 0)
theorem gD_l {T L : List Nat} {i : Nat} (h : i < T.length) : (T ++ L).getD i 0 = T.getD i 0 := by
  rw [List.getD_eq_getElem?_getD, List.getD_eq_getElem?_getD, List.getElem?_append_left h]
theorem gD_r {T L : List Nat} {i : Nat} : (T ++ L).getD (T.length + i) 0 = L.getD i 0 := by
  rw [List.getD_eq_getElem?_getD, List.getD_eq_getElem?_getD, List.getElem?_append_right (by omega), show T.length + i - T.length = i by omega]
theorem sbT.app {M : q_M} {T L : List Nat} (h : sbT M T) : sbT (zbM M T.length L) (T ++ L) := by
  refine ⟨(zbM_x (by omega) (Or.inl (by omega))).trans h.1, by rw [List.length_append]; exact zbM_1, fun i hi => ?_⟩
  rw [List.length_append] at hi
  rcases Nat.lt_or_ge i T.length with q | q
  · rw [zbM_x (by omega) (Or.inl (by omega)), gD_l q]
    exact h.2.2 i q
  · obtain ⟨j, rfl⟩ : ∃ j, i = T.length + j := ⟨i - T.length, by omega⟩
    rw [zbM_n (by omega), gD_r]
theorem zbM_fs {M : q_M} {k : Nat} {L : List Nat} : q_fs [270] [] M (zbM M k L) := fun r i hr => by
  have h : r ≠ 270 := fun e => by rw [e] at hr; exact absurd (show true = false from hr) (by decide)
  exact ⟨congrFun (zbM_ne r h).1 i, congrFun (zbM_ne r h).2 i⟩
/-- a line -/
def lnT (t : q_T) (n : sN) (e : Nat) : List Nat := dgL (rkN t n (toF t n) e) ++ ([32] ++ (ltT (t (31 + (10 + e))) (t 30 (10 + e)) ++ ([32] ++ (dgL ((toF t n e).toNat / 100) ++ ([46] ++ ([48 + (toF t n e).toNat / 10 % 10] ++ ([48 + (toF t n e).toNat % 10] ++ [59])))))))
def pgT (t : q_T) (n : sN) (es : Nat → Nat) : Nat → List Nat
  | 0 => []
  | k + 1 => pgT t n es k ++ lnT t n (es k)
/-- room: what the rows that hold n letters may still cost -/
def roC (n : Nat) : Nat := (if n ≤ 16 then 1 else 0) + (if n ≤ 34 then 1 else 0) + (if n ≤ 70 then 1 else 0)
def roS (n : Nat) : Nat := (if n ≤ 16 then 34 else 0) + (if n ≤ 34 then 70 else 0) + (if n ≤ 70 then 142 else 0)
theorem ro_b (n : Nat) : roC n ≤ 3 ∧ roS n ≤ 246 := by
  unfold roC roS
  by_cases h1 : n ≤ 16
  · rw [if_pos h1, if_pos (show n ≤ 34 by omega), if_pos (show n ≤ 70 by omega), if_pos h1, if_pos (show n ≤ 34 by omega), if_pos (show n ≤ 70 by omega)]
    exact ⟨by decide, by decide⟩
  · by_cases h2 : n ≤ 34
    · rw [if_neg h1, if_pos h2, if_pos (show n ≤ 70 by omega), if_neg h1, if_pos h2, if_pos (show n ≤ 70 by omega)]
      exact ⟨by decide, by decide⟩
    · by_cases h3 : n ≤ 70
      · rw [if_neg h1, if_neg h2, if_pos h3, if_neg h1, if_neg h2, if_pos h3]
        exact ⟨by decide, by decide⟩
      · rw [if_neg h1, if_neg h2, if_neg h3, if_neg h1, if_neg h2, if_neg h3]
        exact ⟨by decide, by decide⟩
theorem ro_st {a b : Nat} (h : a ≤ b) : ∃ c s, roC a = roC b + c ∧ roS a = roS b + s ∧ ∀ x, (x = 16 ∨ x = 34 ∨ x = 70) → a ≤ x → x < b → 1 ≤ c ∧ 2 * x + 2 ≤ s := by
  have k1 : ∀ v w : Nat, ∃ q, (if a ≤ v then w else 0) = (if b ≤ v then w else 0) + q ∧ (a ≤ v → v < b → q = w) := fun v w => by
    by_cases ha : a ≤ v
    · by_cases hb : b ≤ v
      · exact ⟨0, by rw [if_pos ha, if_pos hb, Nat.add_zero], fun _ z => by omega⟩
      · exact ⟨w, by rw [if_pos ha, if_neg hb]; omega, fun _ _ => rfl⟩
    · exact ⟨0, by rw [if_neg ha, if_neg (show ¬ b ≤ v by omega), Nat.add_zero], fun z _ => by omega⟩
  obtain ⟨c1, e1, f1⟩ := k1 16 1
  obtain ⟨c2, e2, f2⟩ := k1 34 1
  obtain ⟨c3, e3, f3⟩ := k1 70 1
  obtain ⟨s1, g1, h1⟩ := k1 16 34
  obtain ⟨s2, g2, h2⟩ := k1 34 70
  obtain ⟨s3, g3, h3⟩ := k1 70 142
  refine ⟨c1 + c2 + c3, s1 + s2 + s3, by unfold roC; omega, by unfold roS; omega, fun x hx ha hb => ?_⟩
  rcases hx with rfl | rfl | rfl
  · have := f1 ha hb
    have := h1 ha hb
    omega
  · have := f2 ha hb
    have := h2 ha hb
    omega
  · have := f3 ha hb
    have := h3 ha hb
    omega
