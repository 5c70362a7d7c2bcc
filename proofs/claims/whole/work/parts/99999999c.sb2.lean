/-! THE StringBuilder, further: stringSize, getChars; append(C), append(I), charAt (written by wip/whole/gen16.py) -/
/-- a number's digits -/
def dgL (v : Nat) : List Nat := if v < 10 then [48 + v] else if v < 100 then [48 + v / 10, 48 + v % 10] else if v < 1000 then [48 + v / 100, 48 + v % 100 / 10, 48 + v % 100 % 10] else [48 + v / 100 / 10, 48 + v / 100 % 10, 48 + v % 100 / 10, 48 + v % 100 % 10]
theorem dgL_1 {v : Nat} (h : v < 10) : dgL v = [48 + v] := if_pos h
theorem dgL_2 {v : Nat} (h : 10 ≤ v) (h' : v < 100) : dgL v = [48 + v / 10, 48 + v % 10] := (if_neg (by omega)).trans (if_pos h')
theorem dgL_3 {v : Nat} (h : 100 ≤ v) (h' : v < 1000) : dgL v = [48 + v / 100, 48 + v % 100 / 10, 48 + v % 100 % 10] := (if_neg (by omega)).trans ((if_neg (by omega)).trans (if_pos h'))
theorem dgL_4 {v : Nat} (h : 1000 ≤ v) : dgL v = [48 + v / 100 / 10, 48 + v / 100 % 10, 48 + v % 100 / 10, 48 + v % 100 % 10] := (if_neg (by omega)).trans ((if_neg (by omega)).trans (if_neg (by omega)))
theorem dgL_b {v : Nat} : 1 ≤ (dgL v).length ∧ (dgL v).length ≤ 4 := by
  unfold dgL
  split
  · exact ⟨Nat.le_of_ble_eq_true rfl, Nat.le_of_ble_eq_true rfl⟩
  · split
    · exact ⟨Nat.le_of_ble_eq_true rfl, Nat.le_of_ble_eq_true rfl⟩
    · split
      · exact ⟨Nat.le_of_ble_eq_true rfl, Nat.le_of_ble_eq_true rfl⟩
      · exact ⟨Nat.le_of_ble_eq_true rfl, Nat.le_of_ble_eq_true rfl⟩
/-- the last two digits, or one -/
def fdW (f : Nat → Int32) (w P : Nat) : Nat → Int32 := if w < 10 then upd f (P - 1) (nI (48 + w)) else upd (upd f (P - 1) (nI (48 + w % 10))) (P - 2) (nI (48 + w / 10))
theorem fdW_1 {f : Nat → Int32} {w P : Nat} (h : w < 10) : fdW f w P = upd f (P - 1) (nI (48 + w)) := if_pos h
theorem fdW_2 {f : Nat → Int32} {w P : Nat} (h : 10 ≤ w) : fdW f w P = upd (upd f (P - 1) (nI (48 + w % 10))) (P - 2) (nI (48 + w / 10)) := if_neg (by omega)
/-- all digits -/
def fdA (f : Nat → Int32) (v n : Nat) : Nat → Int32 := if v < 100 then fdW f v (n + (dgL v).length) else fdW (upd (upd f (n + (dgL v).length - 1) (nI (48 + v % 100 % 10))) (n + (dgL v).length - 2) (nI (48 + v % 100 / 10))) (v / 100) (n + (dgL v).length - 2)
theorem fdA_ok {f : Nat → Int32} {v n : Nat} (hv : v < 1100) : (∀ i, i < n → fdA f v n i = f i) ∧ ∀ i, i < (dgL v).length → fdA f v n (n + i) = nI ((dgL v).getD i 0) := by
  rcases Nat.lt_or_ge v 10 with h | h
  · unfold fdA
    rw [if_pos (by omega), fdW_1 h, dgL_1 h]
    refine ⟨fun i hi => pk_un (by show ¬ i = n + 1 - 1; omega), fun i hi => ?_⟩
    have hi : i < 1 := hi
    obtain rfl : i = 0 := by omega
    exact pk_us
  rcases Nat.lt_or_ge v 100 with h2 | h2
  · unfold fdA
    rw [if_pos h2, fdW_2 h, dgL_2 h h2]
    refine ⟨fun i hi => (pk_un (by show ¬ i = n + 2 - 2; omega)).trans (pk_un (by show ¬ i = n + 2 - 1; omega)), fun i hi => ?_⟩
    have hi : i < 2 := hi
    rcases (show i = 0 ∨ i = 1 by omega) with rfl | rfl
    · exact pk_us
    · exact (pk_un (by show ¬ n + 1 = n + 2 - 2; omega)).trans pk_us
  rcases Nat.lt_or_ge v 1000 with h3 | h3
  · unfold fdA
    rw [if_neg (by omega), fdW_1 (by omega), dgL_3 h2 h3]
    refine ⟨fun i hi => (pk_un (by show ¬ i = n + 3 - 2 - 1; omega)).trans ((pk_un (by show ¬ i = n + 3 - 2; omega)).trans (pk_un (by show ¬ i = n + 3 - 1; omega))), fun i hi => ?_⟩
    have hi : i < 3 := hi
    rcases (show i = 0 ∨ i = 1 ∨ i = 2 by omega) with rfl | rfl | rfl
    · exact pk_us
    · exact (pk_un (by show ¬ n + 1 = n + 3 - 2 - 1; omega)).trans pk_us
    · exact (pk_un (by show ¬ n + 2 = n + 3 - 2 - 1; omega)).trans ((pk_un (by show ¬ n + 2 = n + 3 - 2; omega)).trans pk_us)
  · unfold fdA
    rw [if_neg (by omega), fdW_2 (by omega), dgL_4 h3]
    refine ⟨fun i hi => (pk_un (by show ¬ i = n + 4 - 2 - 2; omega)).trans ((pk_un (by show ¬ i = n + 4 - 2 - 1; omega)).trans ((pk_un (by show ¬ i = n + 4 - 2; omega)).trans (pk_un (by show ¬ i = n + 4 - 1; omega)))), fun i hi => ?_⟩
    have hi : i < 4 := hi
    rcases (show i = 0 ∨ i = 1 ∨ i = 2 ∨ i = 3 by omega) with rfl | rfl | rfl | rfl
    · exact pk_us
    · exact (pk_un (by show ¬ n + 1 = n + 4 - 2 - 2; omega)).trans pk_us
    · exact (pk_un (by show ¬ n + 2 = n + 4 - 2 - 2; omega)).trans ((pk_un (by show ¬ n + 2 = n + 4 - 2 - 1; omega)).trans pk_us)
    · exact (pk_un (by show ¬ n + 3 = n + 4 - 2 - 2; omega)).trans ((pk_un (by show ¬ n + 3 = n + 4 - 2 - 1; omega)).trans ((pk_un (by show ¬ n + 3 = n + 4 - 2; omega)).trans pk_us))
theorem fit_u {f : Nat → Int32} (h : ∀ i, fits .byte (.int (f i)) = true) {k c : Nat} (hc : c < 128) : ∀ i, fits .byte (.int (upd f k (nI c) i)) = true := fun i => by
  by_cases q : i = k
  · rw [q, pk_us]
    exact zb_fit hc
  · rw [pk_un q]
    exact h i
theorem gc_neg : ∀ v, v < 1100 → ((-100 : Int32) < -(nI v) ↔ v < 100) ∧ -(nI v) / nI 100 = -(nI (v / 100)) ∧ -(nI (v / 100)) * nI 100 - -(nI v) = nI (v % 100) ∧ -(-(nI v)) = nI v ∧ ((-9 : Int32) ≤ -(nI v) ↔ v < 10) := by decide +kernel
theorem ss_neg : ∀ v, v < 1100 → (-(nI v) ≤ -(nI 10) ↔ 10 ≤ v) ∧ (-(nI v) ≤ -(nI 100) ↔ 100 ≤ v) ∧ (-(nI v) ≤ -(nI 1000) ↔ 1000 ≤ v) ∧ ¬ -(nI v) ≤ -(nI 10000) := by decide +kernel
theorem gm1 {p : Nat} (h : 0 < p) : nI p + Int32.ofInt (-1) = nI (p - 1) := by
  rw [show Int32.ofInt (-1) = (-1 : Int32) by decide]
  exact sb_m1 h
section S10
variable {Z : q_Z} {E : q_E} {M : q_M} {d : Nat} {a cap k n : Nat} {ml : Int32} {f : Nat → Int32}
set_option maxHeartbeats 4000000 in
theorem j_ssz_ok {v : Nat} (hv : v < 1100) : q_D j_ssz Z E d 0 0 [.int (nI v)] M (fun w M' => w = some (.int (nI (dgL v).length)) ∧ M' = M) := by
  refine q_D.of (by decide) rfl (Nat.le_of_ble_eq_true rfl) ?_
  intro l p e R s m args below meth c ls A hl hR hc hs
  refine lv_iconst A.1 A.2.1 (v := 1) jd_ssz_0 (by decide) ?_
  refine lv_istore_n A.1 A.2.1 jd_ssz_1 rfl hl (by decide) rfl (fun ls_h1 h1 => ?_)
  refine lv_iload_n A.1 A.2.1 jd_ssz_2 rfl (lv_at h1 1 rfl) ?_
  refine lv_if_lt A.1 A.2.1 jd_ssz_3 (tgt := 11) (by decide) (fun z => absurd z (nI_pos (by omega))) (fun _ => ?_)
  refine lv_iconst A.1 A.2.1 (v := 0) jd_ssz_6 (by decide) ?_
  refine lv_istore_n A.1 A.2.1 jd_ssz_7 rfl h1 (by decide) rfl (fun ls_h2 h2 => ?_)
  refine lv_iload_n A.1 A.2.1 jd_ssz_8 rfl (lv_at h2 1 rfl) ?_
  refine lv_ineg A.1 A.2.1 jd_ssz_9 ?_
  refine lv_istore_n A.1 A.2.1 jd_ssz_10 rfl h2 (by decide) rfl (fun ls_h3 h3 => ?_)
  refine lv_bipush A.1 A.2.1 (v := -(nI 10)) jd_ssz_11 (by decide) ?_
  refine lv_istore_n A.1 A.2.1 jd_ssz_13 rfl h3 (by decide) rfl (fun ls_h4 h4 => ?_)
  refine lv_iconst A.1 A.2.1 (v := nI 1) jd_ssz_14 (by decide) ?_
  refine lv_istore_n A.1 A.2.1 jd_ssz_15 rfl h4 (by decide) rfl (fun ls_h5 h5 => ?_)
  have step : ∀ (i P : Nat) (ls' : Array Slot), i < 10 → ((nI 10) * -(nI P) = -(nI (P * 10))) → (-(nI v) ≤ -(nI P) ↔ P ≤ v) → (v < P → (dgL v).length = i) → lv_has ls' 4 [(3, .int (nI i)), (2, .int (-(nI P))), (0, .int (-(nI v))), (1, .int 0)] → (P ≤ v → ∀ ls'' : Array Slot, lv_has ls'' 4 [(3, .int (nI (i + 1))), (2, .int (-(nI (P * 10)))), (0, .int (-(nI v))), (1, .int 0)] → W p l e R s m args below meth c s.heap [] 0 0 (MQ below (q_DQ Z E (fun w M' => w = some (.int (nI (dgL v).length)) ∧ M' = M)) args s 0 0 (q_A E)) (F0 m 16 ls'' [])) → W p l e R s m args below meth c s.heap [] 0 0 (MQ below (q_DQ Z E (fun w M' => w = some (.int (nI (dgL v).length)) ∧ M' = M)) args s 0 0 (q_A E)) (F0 m 16 ls' []) := by
    intro i P ls' hi hm hle hdg h6 kk
    refine lv_iload_n A.1 A.2.1 jd_ssz_16 rfl (lv_at h6 0 rfl) ?_
    refine lv_bipush A.1 A.2.1 (v := nI 10) jd_ssz_17 (by decide) ?_
    refine lv_icmp_ge A.1 A.2.1 jd_ssz_19 (tgt := 42) (by decide) (fun z => absurd z (nI_ge hi (by omega))) (fun _ => ?_)
    refine lv_iload_n A.1 A.2.1 jd_ssz_22 rfl (lv_at h6 2 rfl) ?_
    refine lv_iload_n A.1 A.2.1 jd_ssz_23 rfl (lv_at h6 1 rfl) ?_
    refine lv_icmp_le A.1 A.2.1 jd_ssz_24 (tgt := 31) (by decide) (fun z => ?_) (fun z => ?_)
    · refine lv_bipush A.1 A.2.1 (v := nI 10) jd_ssz_31 (by decide) ?_
      refine lv_iload_n A.1 A.2.1 jd_ssz_33 rfl (lv_at h6 1 rfl) ?_
      refine lv_imul A.1 A.2.1 jd_ssz_34 ?_
      rw [hm]
      refine lv_istore_n A.1 A.2.1 jd_ssz_35 rfl h6 (by decide) rfl (fun ls_h7 h7 => ?_)
      refine lv_iinc A.1 A.2.1 jd_ssz_36 h7 (k := 1) rfl (v := nI (i + 1)) (by rw [show Int32.ofInt 1 = (1 : Int32) by decide]; exact nI_1 i) (by decide) rfl (fun ls_h8 h8 => ?_)
      refine lv_goto A.1 A.2.1 jd_ssz_39 (tgt := 16) (by decide) ?_
      exact kk (hle.mp z) _ h8
    · refine lv_iload_n A.1 A.2.1 jd_ssz_27 rfl (lv_at h6 0 rfl) ?_
      refine lv_iload_n A.1 A.2.1 jd_ssz_28 rfl (lv_at h6 3 rfl) ?_
      refine lv_iadd A.1 A.2.1 jd_ssz_29 ?_
      have hd := hdg (by rcases Nat.lt_or_ge v P with w | w; exact w; exact absurd (hle.mpr w) z)
      rw [Int32.add_zero, ← hd]
      exact q_D.zret A hR jd_ssz_30 rfl rfl ⟨rfl, rfl⟩ (Nat.le_refl _) (Nat.le_refl _)
  obtain ⟨n1, n2, n3, n4⟩ := ss_neg v hv
  refine step 1 10 _ (by omega) (by decide) n1 (fun w => by rw [dgL_1 w]; rfl) h5 (fun w1 ls1 h6 => ?_)
  refine step 2 100 _ (by omega) (by decide) n2 (fun w => by rw [dgL_2 w1 w]; rfl) h6 (fun w2 ls2 h7 => ?_)
  refine step 3 1000 _ (by omega) (by decide) n3 (fun w => by rw [dgL_3 w2 w]; rfl) h7 (fun w3 ls3 h8 => ?_)
  exact step 4 10000 _ (by omega) (by decide) ⟨fun w => absurd w n4, fun w => by omega⟩ (fun w => by rw [dgL_4 w3]; rfl) h8 (fun w => by omega)
set_option maxHeartbeats 4000000 in
theorem j_gch_ok {sv : List Value} {v : Nat} (hv : v < 1100) (hn : n + (dgL v).length ≤ cap) (hcap : cap ≤ 142) (hf : ∀ i, fits .byte (.int (f i)) = true) : q_K j_gch Z E sv [(a, .inl (E.2.2.1 5, cap, .inl f))] d 0 0 [.int (nI v), .int (nI (n + (dgL v).length)), .ref a] M (fun w H => (∃ x, w = some (.int x)) ∧ (∀ i, fits .byte (.int (fdA f v n i)) = true) ∧ va_P E.2.1 vwCl (q_wl Z E M sv ++ [(a, .inl (E.2.2.1 5, cap, .inl (fdA f v n)))]) H ∧ va_D (q_A E) (q_wl Z E M sv ++ [(a, .inl (E.2.2.1 5, cap, .inl (fdA f v n)))])) := by
  refine q_Kof (by decide) rfl (Nat.le_of_ble_eq_true rfl) ?_
  intro l p e R s m args below meth c ls A hl hK hP hD hX hz' hEv hN hc hs
  obtain ⟨d1, d2, ⟨z1, t1⟩, z2, t2⟩ := hX.2.2.2.2.2.2
  have hb := dgL_b (v := v)
  refine lv_iload_n A.1 A.2.1 jd_gch_0 rfl (lv_at hl 1 rfl) ?_
  refine lv_istore A.1 A.2.1 jd_gch_1 hl (by decide) rfl (fun ls_h1 h1 => ?_)
  refine lv_iload_n A.1 A.2.1 jd_gch_3 rfl (lv_at h1 1 rfl) ?_
  refine lv_if_ge A.1 A.2.1 jd_gch_4 (tgt := 11) (by decide) (fun _ => ?_) (fun z => absurd (nI_pos' (by omega)) z)
  refine lv_iconst A.1 A.2.1 (v := 0) jd_gch_11 (by decide) ?_
  refine lv_istore A.1 A.2.1 jd_gch_12 h1 (by decide) rfl (fun ls_h2 h2 => ?_)
  refine lv_iload A.1 A.2.1 jd_gch_14 (lv_at h2 0 rfl) ?_
  refine lv_if_ne A.1 A.2.1 jd_gch_16 (tgt := 22) (by decide) (fun z => absurd rfl z) (fun _ => ?_)
  refine lv_iload_n A.1 A.2.1 jd_gch_19 rfl (lv_at h2 2 rfl) ?_
  refine lv_ineg A.1 A.2.1 jd_gch_20 ?_
  refine lv_istore_n A.1 A.2.1 jd_gch_21 rfl h2 (by decide) rfl (fun ls_h3 h3 => ?_)
  have fin : ∀ (w P : Nat) (f1 : Nat → Int32) (H1 : Heap) (locs1 : List Loc) (ls1 : Array Slot), w < 100 → P ≤ cap → (dgL w).length ≤ P → fdW f1 w P = fdA f v n → (∀ i, fits .byte (.int (f1 i)) = true) → lv_has ls1 7 [(0, .int (-(nI w))), (6, .int 0), (5, .int (nI P)), (2, .ref a)] → va_P E.2.1 vwCl (q_wl Z E M sv ++ [(a, .inl (E.2.2.1 5, cap, .inl f1))]) H1 → va_D (q_A E) (q_wl Z E M sv ++ [(a, .inl (E.2.2.1 5, cap, .inl f1))]) → va_S (q_A E) s.heap H1 locs1 → W p l e R s m args below meth c H1 locs1 0 0 (MQ below (q_KQ E (fun w H => (∃ x, w = some (.int x)) ∧ (∀ i, fits .byte (.int (fdA f v n i)) = true) ∧ va_P E.2.1 vwCl (q_wl Z E M sv ++ [(a, .inl (E.2.2.1 5, cap, .inl (fdA f v n)))]) H ∧ va_D (q_A E) (q_wl Z E M sv ++ [(a, .inl (E.2.2.1 5, cap, .inl (fdA f v n)))]))) args s 0 0 (q_A E)) (F0 m 22 ls1 []) := by
    intro w P f1 H1 locs1 ls1 hw hP4 hl4 hfw hf1 h4 hP1 hD1 hS1
    obtain ⟨m1, -, -, m4, m5⟩ := gc_neg w (by omega)
    have hbw := dgL_b (v := w)
    refine lv_iload_n A.1 A.2.1 jd_gch_22 rfl (lv_at h4 0 rfl) ?_
    refine lv_bipush A.1 A.2.1 (v := -100) jd_gch_23 (by decide) ?_
    refine lv_icmp_gt A.1 A.2.1 jd_gch_25 (tgt := 72) (by decide) (fun _ => ?_) (fun z => absurd (m1.mpr hw) z)
    refine lv_aload_n A.1 A.2.1 jd_gch_72 rfl (lv_at h4 3 rfl) ?_
    refine lv_iinc A.1 A.2.1 jd_gch_73 h4 (k := 2) rfl (v := nI (P - 1)) (gm1 (by omega)) (by decide) rfl (fun ls_h5 h5 => ?_)
    refine lv_iload A.1 A.2.1 jd_gch_76 (lv_at h5 0 rfl) ?_
    refine va_gets (own := "java/lang/Intege\x72") (ref := "java/lang/Intege\x72") A.1 A.2.1 z1 hS1 A.2.2.2.2.1 (q_word A (q_in_mem (j := 1702) (by decide +kernel))) (fun x h => h) jd_gch_78 ?_
    refine lv_iload_n A.1 A.2.1 jd_gch_81 rfl (lv_at h5 1 rfl) ?_
    refine lv_ineg A.1 A.2.1 jd_gch_82 ?_
    rw [m4]
    refine va_tb A.1 A.2.1 t1 hS1 (i := nI w) (v := .int (nI (48 + w % 10))) (vp_in_nI hw (by omega)) (congrArg (fun j => Value.int (Int32.ofNat (48 + j % 10))) (nI_clamp (by omega))) jd_gch_83 ?_
    refine zb_bas (E := E) A hK hP1 hD1 hS1 (i := P - 1) (by omega) (by omega) jd_gch_84 (fun H2 locs2 hP2 hD2 hS2 => ?_)
    rw [zb_nar (by omega)] at hP2 hD2
    refine lv_iload_n A.1 A.2.1 jd_gch_85 rfl (lv_at h5 1 rfl) ?_
    refine lv_bipush A.1 A.2.1 (v := -9) jd_gch_86 (by decide) ?_
    have fin2 : ∀ (P2 : Nat) (H3 : Heap) (locs3 : List Loc) (ls3 : Array Slot) (f3 : Nat → Int32), f3 = fdA f v n → (∀ i, fits .byte (.int (f3 i)) = true) → lv_has ls3 7 [(5, .int (nI P2)), (0, .int (-(nI w))), (6, .int 0), (2, .ref a)] → va_P E.2.1 vwCl (q_wl Z E M sv ++ [(a, .inl (E.2.2.1 5, cap, .inl f3))]) H3 → va_D (q_A E) (q_wl Z E M sv ++ [(a, .inl (E.2.2.1 5, cap, .inl f3))]) → va_S (q_A E) s.heap H3 locs3 → W p l e R s m args below meth c H3 locs3 0 0 (MQ below (q_KQ E (fun w H => (∃ x, w = some (.int x)) ∧ (∀ i, fits .byte (.int (fdA f v n i)) = true) ∧ va_P E.2.1 vwCl (q_wl Z E M sv ++ [(a, .inl (E.2.2.1 5, cap, .inl (fdA f v n)))]) H ∧ va_D (q_A E) (q_wl Z E M sv ++ [(a, .inl (E.2.2.1 5, cap, .inl (fdA f v n)))]))) args s 0 0 (q_A E)) (F0 m 104 ls3 []) := by
      intro P2 H3 locs3 ls3 f3 e3 hf3 h6 hP3 hD3 hS3
      subst e3
      refine lv_iload A.1 A.2.1 jd_gch_104 (lv_at h6 2 rfl) ?_
      refine lv_if_eq A.1 A.2.1 jd_gch_106 (tgt := 118) (by decide) (fun _ => ?_) (fun z => absurd rfl z)
      refine lv_iload A.1 A.2.1 jd_gch_118 (lv_at h6 0 rfl) ?_
      exact q_Kzr A hS3 jd_gch_120 rfl rfl ⟨⟨_, rfl⟩, hf3, hP3, hD3⟩ (Nat.le_refl _) (Nat.le_refl _)
    refine lv_icmp_ge A.1 A.2.1 jd_gch_88 (tgt := 104) (by decide) (fun z => ?_) (fun z => ?_)
    · have w1 := m5.mp z
      rw [fdW_1 w1] at hfw
      rw [show w % 10 = w by omega] at hP2 hD2
      exact fin2 _ _ _ _ _ hfw (fit_u hf1 (by omega)) h5 hP2 hD2 hS2
    · have w1 : 10 ≤ w := by
        rcases Nat.lt_or_ge w 10 with q | q
        · exact absurd (m5.mpr q) z
        · exact q
      rw [fdW_2 w1] at hfw
      rw [dgL_2 w1 hw] at hl4
      have hl4 : 2 ≤ P := hl4
      refine lv_aload_n A.1 A.2.1 jd_gch_91 rfl (lv_at h5 3 rfl) ?_
      refine lv_iinc A.1 A.2.1 jd_gch_92 h5 (k := 0) rfl (v := nI (P - 2)) ((gm1 (by omega)).trans (congrArg nI (by omega))) (by decide) rfl (fun ls_h6 h6 => ?_)
      refine lv_iload A.1 A.2.1 jd_gch_95 (lv_at h6 0 rfl) ?_
      refine va_gets (own := "java/lang/Intege\x72") (ref := "java/lang/Intege\x72") A.1 A.2.1 z2 hS2 A.2.2.2.2.1 (q_word A (q_in_mem (j := 1704) (by decide +kernel))) (fun x h => h) jd_gch_97 ?_
      refine lv_iload_n A.1 A.2.1 jd_gch_100 rfl (lv_at h6 1 rfl) ?_
      refine lv_ineg A.1 A.2.1 jd_gch_101 ?_
      rw [m4]
      refine va_tb A.1 A.2.1 t2 hS2 (i := nI w) (v := .int (nI (48 + w / 10))) (vp_in_nI hw (by omega)) (congrArg (fun j => Value.int (Int32.ofNat (48 + j / 10))) (nI_clamp (by omega))) jd_gch_102 ?_
      refine zb_bas (E := E) A hK hP2 hD2 hS2 (i := P - 2) (by omega) (by omega) jd_gch_103 (fun H3 locs3 hP3 hD3 hS3 => ?_)
      rw [zb_nar (by omega)] at hP3 hD3
      exact fin2 _ _ _ _ _ hfw (fit_u (fit_u hf1 (by omega)) (by omega)) h6 hP3 hD3 hS3
  rcases Nat.lt_or_ge v 100 with h100 | h100
  · exact fin v _ f _ _ _ h100 hn (Nat.le_add_left _ _) (by unfold fdA; rw [if_pos h100]) hf (lv_sub h3 [0, 1, 2, 4] rfl) hP hD va_S.rf
  · obtain ⟨m1, m2, m3, -, -⟩ := gc_neg v hv
    have h3l : 3 ≤ (dgL v).length := by
      rcases Nat.lt_or_ge v 1000 with q | q
      · rw [dgL_3 h100 q]; exact Nat.le_refl 3
      · rw [dgL_4 q]; exact Nat.le_of_ble_eq_true rfl
    refine lv_iload_n A.1 A.2.1 jd_gch_22 rfl (lv_at h3 0 rfl) ?_
    refine lv_bipush A.1 A.2.1 (v := -100) jd_gch_23 (by decide) ?_
    refine lv_icmp_gt A.1 A.2.1 jd_gch_25 (tgt := 72) (by decide) (fun z => by have := m1.mp z; omega) (fun _ => ?_)
    refine lv_iload_n A.1 A.2.1 jd_gch_28 rfl (lv_at h3 0 rfl) ?_
    refine lv_bipush A.1 A.2.1 (v := nI 100) jd_gch_29 (by decide) ?_
    refine lv_idiv A.1 A.2.1 jd_gch_31 (by decide) ?_
    rw [m2]
    refine lv_istore_n A.1 A.2.1 jd_gch_32 rfl h3 (by decide) rfl (fun ls_h4 h4 => ?_)
    refine lv_iload_n A.1 A.2.1 jd_gch_33 rfl (lv_at h4 0 rfl) ?_
    refine lv_bipush A.1 A.2.1 (v := nI 100) jd_gch_34 (by decide) ?_
    refine lv_imul A.1 A.2.1 jd_gch_36 ?_
    refine lv_iload_n A.1 A.2.1 jd_gch_37 rfl (lv_at h4 1 rfl) ?_
    refine lv_isub A.1 A.2.1 jd_gch_38 ?_
    rw [m3]
    refine lv_istore A.1 A.2.1 jd_gch_39 h4 (by decide) rfl (fun ls_h5 h5 => ?_)
    refine lv_iload_n A.1 A.2.1 jd_gch_41 rfl (lv_at h5 1 rfl) ?_
    refine lv_istore_n A.1 A.2.1 jd_gch_42 rfl h5 (by decide) rfl (fun ls_h6 h6 => ?_)
    refine lv_aload_n A.1 A.2.1 jd_gch_43 rfl (lv_at h6 6 rfl) ?_
    refine lv_iinc A.1 A.2.1 jd_gch_44 h6 (k := 4) rfl (v := nI (n + (dgL v).length - 1)) (gm1 (by omega)) (by decide) rfl (fun ls_h7 h7 => ?_)
    refine lv_iload A.1 A.2.1 jd_gch_47 (lv_at h7 0 rfl) ?_
    refine va_gets (own := "java/lang/Intege\x72") (ref := "java/lang/Intege\x72") A.1 A.2.1 z1 va_S.rf A.2.2.2.2.1 (q_word A (q_in_mem (j := 1702) (by decide +kernel))) (fun x h => h) jd_gch_49 ?_
    refine lv_iload A.1 A.2.1 jd_gch_52 (lv_at h7 2 rfl) ?_
    refine va_tb A.1 A.2.1 t1 va_S.rf (i := nI (v % 100)) (v := .int (nI (48 + v % 100 % 10))) (vp_in_nI (by omega) (by omega)) (congrArg (fun j => Value.int (Int32.ofNat (48 + j % 10))) (nI_clamp (by omega))) jd_gch_54 ?_
    refine zb_bas (E := E) A hK hP hD va_S.rf (i := n + (dgL v).length - 1) (by omega) (by omega) jd_gch_55 (fun H2 locs2 hP2 hD2 hS2 => ?_)
    rw [zb_nar (by omega)] at hP2 hD2
    refine lv_aload_n A.1 A.2.1 jd_gch_56 rfl (lv_at h7 6 rfl) ?_
    refine lv_iinc A.1 A.2.1 jd_gch_57 h7 (k := 0) rfl (v := nI (n + (dgL v).length - 2)) ((gm1 (by omega)).trans (congrArg nI (by omega))) (by decide) rfl (fun ls_h8 h8 => ?_)
    refine lv_iload A.1 A.2.1 jd_gch_60 (lv_at h8 0 rfl) ?_
    refine va_gets (own := "java/lang/Intege\x72") (ref := "java/lang/Intege\x72") A.1 A.2.1 z2 hS2 A.2.2.2.2.1 (q_word A (q_in_mem (j := 1704) (by decide +kernel))) (fun x h => h) jd_gch_62 ?_
    refine lv_iload A.1 A.2.1 jd_gch_65 (lv_at h8 2 rfl) ?_
    refine va_tb A.1 A.2.1 t2 hS2 (i := nI (v % 100)) (v := .int (nI (48 + v % 100 / 10))) (vp_in_nI (by omega) (by omega)) (congrArg (fun j => Value.int (Int32.ofNat (48 + j / 10))) (nI_clamp (by omega))) jd_gch_67 ?_
    refine zb_bas (E := E) A hK hP2 hD2 hS2 (i := n + (dgL v).length - 2) (by omega) (by omega) jd_gch_68 (fun H3 locs3 hP3 hD3 hS3 => ?_)
    rw [zb_nar (by omega)] at hP3 hD3
    refine lv_goto A.1 A.2.1 jd_gch_69 (tgt := 22) (by decide) ?_
    refine fin (v / 100) (n + (dgL v).length - 2) _ _ _ _ (by omega) (by omega) ?_ (by unfold fdA; rw [if_neg (by omega)]) (fit_u (fit_u hf (by omega)) (by omega)) (lv_sub h8 [1, 4, 0, 6] rfl) hP3 hD3 hS3
    rcases Nat.lt_or_ge v 1000 with q | q
    · rw [dgL_1 (by omega)]
      show 1 ≤ _
      omega
    · rw [dgL_2 (by omega) (by omega), dgL_4 q]
      show 2 ≤ n + 4 - 2
      omega
end S10
