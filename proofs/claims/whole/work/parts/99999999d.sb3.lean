/-! THE StringBuilder, further: letters are appended, read (written by wip/whole/gen17.py) -/
/-- letters L behind n letters -/
def zbM (M : q_M) (n : Nat) (L : List Nat) : q_M := (fun r i => if r = 270 then (if i = 1 then nI (n + L.length) else if 2 + n ≤ i ∧ i < 2 + n + L.length then nI (L.getD (i - (2 + n)) 0) else M.1 270 i) else M.1 r i, M.2)
theorem zbM_ne {M : q_M} {n : Nat} {L : List Nat} : ∀ j, j ≠ 270 → (zbM M n L).1 j = M.1 j ∧ (zbM M n L).2 j = M.2 j := fun _ hj => ⟨funext (fun _ => if_neg hj), rfl⟩
theorem zbM_at {M : q_M} {n i : Nat} {L : List Nat} : (zbM M n L).1 270 i = if i = 1 then nI (n + L.length) else if 2 + n ≤ i ∧ i < 2 + n + L.length then nI (L.getD (i - (2 + n)) 0) else M.1 270 i := by
  show (if (270 : Nat) = 270 then (if i = 1 then nI (n + L.length) else if 2 + n ≤ i ∧ i < 2 + n + L.length then nI (L.getD (i - (2 + n)) 0) else M.1 270 i) else M.1 270 i) = _
  rw [if_pos rfl]
theorem zbM_1 {M : q_M} {n : Nat} {L : List Nat} : (zbM M n L).1 270 1 = nI (n + L.length) := zbM_at.trans (if_pos rfl)
theorem zbM_x {M : q_M} {n i : Nat} {L : List Nat} (h : ¬ i = 1) (h' : i < 2 + n ∨ 2 + n + L.length ≤ i) : (zbM M n L).1 270 i = M.1 270 i := by
  rw [zbM_at, if_neg h, if_neg (by omega)]
theorem zbM_n {M : q_M} {n i : Nat} {L : List Nat} (h : i < L.length) : (zbM M n L).1 270 (2 + (n + i)) = nI (L.getD i 0) := by
  rw [zbM_at, if_neg (by omega), if_pos ⟨by omega, by omega⟩, show 2 + (n + i) - (2 + n) = i by omega]
section S11
variable {Z : q_Z} {E : q_E} {M : q_M} {d : Nat} {a cap n : Nat} {ml : Int32} {f : Nat → Int32} {L : List Nat}
theorem zb_end {s : State} {H : Heap} {locs : List Loc} (hE : zb_E E) (hz : zb_Z Z) (h2 : M.1 270 0 = 1) (hK : va_K E.2.1 vwCl (q_tys E) s) (hP : va_P E.2.1 vwCl (q_wl Z E M [.ref a, .int 0, .int ml, .int (nI (n + L.length))] ++ [(a, .inl (E.2.2.1 5, cap, .inl f))]) H) (hD : va_D (q_A E) (q_wl Z E M [.ref a, .int 0, .int ml, .int (nI (n + L.length))] ++ [(a, .inl (E.2.2.1 5, cap, .inl f))])) (hS : va_S (q_A E) s.heap H locs) (hX : q_X Z E s s.heap) (hz' : E.2.2.2.1 ≤ s.heap.size) (hEv : q_env Z E) (hN : q_N s)
    (hc4 : cap = 16 ∨ cap = 34 ∨ cap = 70 ∨ cap = 142) (hml : ml = 0 ∨ ml = 1) (hnc : n + L.length ≤ cap) (g1 : ∀ i, i < n → f i = M.1 270 (2 + i)) (g2 : ∀ i, i < L.length → f (n + i) = nI (L.getD i 0)) (g3 : ∀ i, fits .byte (.int (f i)) = true) : q_R Z E (zbM M n L) s H locs := by
  rw [zb_wl (M' := zbM M n L) hz zbM_ne] at hP hD
  have h0 : (zbM M n L).1 270 0 = 1 := (zbM_x (by omega) (Or.inl (by omega))).trans h2
  refine ⟨hK, ⟨_, _, hP, hD, ?_⟩, hS, hX, hz', hEv, hN⟩
  rw [hE.P]
  refine ⟨fun _ => ⟨a, cap, n + L.length, ml, f, rfl, rfl, zbM_1, hnc, hc4, hml, fun i hi => ?_, g3⟩, fun h => ?_, fun h => ?_⟩
  · rcases Nat.lt_or_ge i n with q | q
    · rw [zbM_x (by omega) (Or.inl (by omega))]
      exact g1 i q
    · obtain ⟨j, rfl⟩ : ∃ j, i = n + j := ⟨i - n, by omega⟩
      rw [zbM_n (by omega)]
      exact g2 j (by omega)
  · rw [h0] at h
    exact absurd h (by decide)
  · rw [h0] at h
    exact absurd h (by decide)
set_option maxHeartbeats 4000000 in
theorem j_apc_ok {ch c1 s1 : Nat} (hE : zb_E E) (hz : zb_Z Z) (h2 : M.1 270 0 = 1) (h1 : M.1 270 1 = nI n) (hn : n < 142) (hch : ch < 128) (hroom : ∀ x, (x = 16 ∨ x = 34 ∨ x = 70) → n ≤ x → x < n + 1 → 1 ≤ c1 ∧ 2 * x + 2 ≤ s1) : q_D j_apc Z E (d + 4) c1 s1 [.ref (E.1 270), .int (nI ch)] M (fun v M' => v = some (.ref (E.1 270)) ∧ M' = zbM M n [ch]) := by
  refine q_D.of (by decide) rfl (Nat.le_of_ble_eq_true rfl) ?_
  intro l p e R s m args below meth c ls A hl hR hc hs
  obtain ⟨hK, ⟨sv, X, hP, hD, hSB⟩, hS, hX, hz', hEv, hN⟩ := hR
  rw [hE.P] at hSB
  obtain ⟨a, cap, k, ml, f, rfl, rfl, g1, g2, g3, g4, g5, g6⟩ := hSB.1 h2
  obtain rfl : k = n := (nI_eq (by omega) (by omega)).mp (g1.symm.trans h1)
  have hR0 : q_R Z (q_at E [.ref a, .int 0, .int ml, .int (nI k)] [(a, .inl (E.2.2.1 5, cap, .inl f))]) M s s.heap [] := q_atR hK hP hD hS hX hz' (q_atEv (sv0 := []) (X0 := []) hEv) hN
  refine lv_aload_n A.1 A.2.1 jd_apc_0 rfl (lv_at hl 0 rfl) ?_
  refine lv_aload_n A.1 A.2.1 jd_apc_1 rfl (lv_at hl 0 rfl) ?_
  refine zb_get (E := E) (k := 3) (v := .int (nI k)) A hK hP hz rfl (by omega) (q_in_mem (j := 809) (by decide +kernel)) rfl jd_apc_2 ?_
  refine lv_iconst A.1 A.2.1 (v := 1) jd_apc_5 (by decide) ?_
  refine lv_iadd A.1 A.2.1 jd_apc_6 ?_
  rw [nI_1]
  refine q_Kih (E := E) (as := [.int (nI (k + 1))]) (rest := []) A hl.1 hR0 hz rfl (j_ens_ok (d := d) hz g3 g2 (by omega) (by omega) g6 hroom) rfl (hR0.2.2.2.1.2.2.2.2.2.1 _ (List.mem_cons_self)) (q_in_mem (j := 1642) (by decide +kernel)) (q_in_mem (j := 1644) (by decide +kernel)) (q_in_mem (j := 2971) (by decide +kernel)) (q_in_mem (j := 1645) (by decide +kernel)) (show q_yok j_ens 1 = true by decide +kernel) (Nat.le_of_ble_eq_true rfl) (Nat.zero_le _) jd_apc_7 ⟨by omega, by omega⟩ (fun v H1 locs1 hv hS1 => ?_)
  obtain ⟨rfl, a', cap', f', c1', c2', c3', c4', c5', hP1, hD1⟩ := hv
  have hR1 : q_R Z (q_at E [.ref a', .int 0, .int ml, .int (nI k)] [(a', .inl (E.2.2.1 5, cap', .inl f'))]) M s H1 locs1 := q_atR hK hP1 hD1 hS1 hX hz' (q_atEv (sv0 := []) (X0 := []) hEv) hN
  refine lv_aload_n A.1 A.2.1 jd_apc_10 rfl (lv_at hl 0 rfl) ?_
  refine q_D.inh (E := q_at E [.ref a', .int 0, .int ml, .int (nI k)] [(a', .inl (E.2.2.1 5, cap', .inl f'))]) (as := []) (rest := []) A hl.1 hR1 hz rfl (j_isl_ok (d := d + 3) hz) rfl (q_word A (q_in_mem (j := 1674) (by decide +kernel))) (q_in_mem (j := 1671) (by decide +kernel)) (q_in_mem (j := 1672) (by decide +kernel)) (q_in_mem (j := 1673) (by decide +kernel)) (q_in_mem (j := 1675) (by decide +kernel)) (show q_yok j_isl 0 = true by decide +kernel) (Nat.le_of_ble_eq_true rfl) (Nat.zero_le _) jd_apc_11 ⟨by omega, by omega⟩ (fun v M2 H2 locs2 hv hR2 => ?_)
  obtain ⟨rfl, rfl⟩ := hv
  refine lv_if_eq A.1 A.2.1 jd_apc_14 (tgt := 45) (by decide) (fun h => absurd h (by decide)) (fun _ => ?_)
  refine lv_iload_n A.1 A.2.1 jd_apc_17 rfl (lv_at hl 1 rfl) ?_
  refine q_D.ins (E := q_at E [.ref a', .int 0, .int ml, .int (nI k)] [(a', .inl (E.2.2.1 5, cap', .inl f'))]) (as := [.int (nI ch)]) (rest := []) A hl.1 hR2 (j_cen_ok (d := d + 3) hch) (q_in_mem (j := 1733) (by decide +kernel)) (q_in_mem (j := 1734) (by decide +kernel)) (q_in_mem (j := 209) (by decide +kernel)) (q_in_mem (j := 1735) (by decide +kernel)) (show q_yok j_cen 1 = true by decide +kernel) (Nat.le_of_ble_eq_true rfl) (Nat.zero_le _) jd_apc_18 ⟨by omega, by omega⟩ (fun v M3 H3 locs3 hv hR3 => ?_)
  obtain ⟨rfl, rfl⟩ := hv
  obtain ⟨hP3, hD3, hS3⟩ := q_atEl hR3
  refine lv_if_eq A.1 A.2.1 jd_apc_21 (tgt := 45) (by decide) (fun h => absurd h (by decide)) (fun _ => ?_)
  refine lv_aload_n A.1 A.2.1 jd_apc_24 rfl (lv_at hl 0 rfl) ?_
  refine zb_get (E := E) (k := 0) (v := .ref a') A hK hP3 hz rfl (by omega) (q_in_mem (j := 806) (by decide +kernel)) rfl jd_apc_25 ?_
  refine lv_aload_n A.1 A.2.1 jd_apc_28 rfl (lv_at hl 0 rfl) ?_
  refine lv_dup A.1 A.2.1 jd_apc_29 rfl ?_
  refine zb_get (E := E) (k := 3) (v := .int (nI k)) A hK hP3 hz rfl (by omega) (q_in_mem (j := 809) (by decide +kernel)) rfl jd_apc_30 ?_
  refine lv_dup_x1 A.1 A.2.1 jd_apc_33 rfl rfl ?_
  refine lv_iconst A.1 A.2.1 (v := 1) jd_apc_34 (by decide) ?_
  refine lv_iadd A.1 A.2.1 jd_apc_35 ?_
  rw [nI_1]
  refine zb_put (E := E) (k := 3) (v := .int (nI (k + 1))) (ty := .int) A hK hP3 hD3 hS3 hz rfl (by omega) (q_in_mem (j := 809) (by decide +kernel)) (by decide +kernel) rfl rfl (Nat.le_of_ble_eq_true rfl) jd_apc_36 (fun H4 locs4 hP4 hD4 hS4 => ?_)
  refine lv_iload_n A.1 A.2.1 jd_apc_39 rfl (lv_at hl 1 rfl) ?_
  refine lv_i2b A.1 A.2.1 jd_apc_40 (zb_b7 ch hch).1 ?_
  refine zb_bas (E := E) A hK hP4 hD4 hS4 (i := k) (by omega) (by omega) jd_apc_41 (fun H5 locs5 hP5 hD5 hS5 => ?_)
  rw [zb_nar hch] at hP5 hD5
  refine lv_goto A.1 A.2.1 jd_apc_42 (tgt := 75) (by decide) ?_
  refine lv_aload_n A.1 A.2.1 jd_apc_75 rfl (lv_at hl 0 rfl) ?_
  exact q_Dar (M := zbM M3 k [ch]) A (zb_end (L := [ch]) hE hz h2 hK hP5 hD5 hS5 hX hz' hEv hN c3' g4 c1' (fun i hi => (pk_un (by omega)).trans ((c4' i hi).trans (g5 i hi))) (fun i hi => by
    have hi : i < 1 := hi
    obtain rfl : i = 0 := by omega
    exact pk_us) (fit_u c5' hch)) jd_apc_76 rfl (Or.inl ⟨_, rfl⟩) ⟨rfl, rfl⟩ (by omega) (by omega)
set_option maxHeartbeats 4000000 in
theorem j_api_ok {v c1 s1 : Nat} (hE : zb_E E) (hz : zb_Z Z) (h2 : M.1 270 0 = 1) (h1 : M.1 270 1 = nI n) (hv : v < 1100) (hn : n + (dgL v).length ≤ 142) (hroom : ∀ x, (x = 16 ∨ x = 34 ∨ x = 70) → n ≤ x → x < n + (dgL v).length → 1 ≤ c1 ∧ 2 * x + 2 ≤ s1) : q_D j_api Z E (d + 4) c1 s1 [.ref (E.1 270), .int (nI v)] M (fun w M' => w = some (.ref (E.1 270)) ∧ M' = zbM M n (dgL v)) := by
  refine q_D.of (by decide) rfl (Nat.le_of_ble_eq_true rfl) ?_
  intro l p e R s m args below meth c ls A hl hR hc hs
  have hb := dgL_b (v := v)
  obtain ⟨hK, ⟨sv, X, hP, hD, hSB⟩, hS, hX, hz', hEv, hN⟩ := hR
  rw [hE.P] at hSB
  obtain ⟨a, cap, k, ml, f, rfl, rfl, g1, g2, g3, g4, g5, g6⟩ := hSB.1 h2
  obtain rfl : k = n := (nI_eq (by omega) (by omega)).mp (g1.symm.trans h1)
  have hR0 : q_R Z (q_at E [.ref a, .int 0, .int ml, .int (nI k)] [(a, .inl (E.2.2.1 5, cap, .inl f))]) M s s.heap [] := q_atR hK hP hD hS hX hz' (q_atEv (sv0 := []) (X0 := []) hEv) hN
  refine lv_aload_n A.1 A.2.1 jd_api_0 rfl (lv_at hl 0 rfl) ?_
  refine zb_get (E := E) (k := 3) (v := .int (nI k)) A hK hP hz rfl (by omega) (q_in_mem (j := 809) (by decide +kernel)) rfl jd_api_1 ?_
  refine lv_istore_n A.1 A.2.1 jd_api_4 rfl hl (by decide) rfl (fun ls_h3 h3 => ?_)
  refine lv_iload_n A.1 A.2.1 jd_api_5 rfl (lv_at h3 0 rfl) ?_
  refine lv_iload_n A.1 A.2.1 jd_api_6 rfl (lv_at h3 2 rfl) ?_
  refine q_D.ins (E := q_at E [.ref a, .int 0, .int ml, .int (nI k)] [(a, .inl (E.2.2.1 5, cap, .inl f))]) (as := [.int (nI v)]) (rest := [.int (nI k)]) A h3.1 hR0 (j_ssz_ok (d := d + 3) hv) (q_in_mem (j := 1696) (by decide +kernel)) (q_in_mem (j := 1697) (by decide +kernel)) (q_in_mem (j := 229) (by decide +kernel)) (q_in_mem (j := 1698) (by decide +kernel)) (show q_yok j_ssz 1 = true by decide +kernel) (Nat.le_of_ble_eq_true rfl) (Nat.le_of_ble_eq_true rfl) jd_api_7 ⟨by omega, by omega⟩ (fun w M1 H1 locs1 hw hR1 => ?_)
  obtain ⟨rfl, rfl⟩ := hw
  refine lv_iadd A.1 A.2.1 jd_api_10 ?_
  rw [nI_add]
  refine lv_istore_n A.1 A.2.1 jd_api_11 rfl h3 (by decide) rfl (fun ls_h4 h4 => ?_)
  refine lv_aload_n A.1 A.2.1 jd_api_12 rfl (lv_at h4 2 rfl) ?_
  refine lv_iload_n A.1 A.2.1 jd_api_13 rfl (lv_at h4 0 rfl) ?_
  refine q_Kih (E := E) (as := [.int (nI (k + (dgL v).length))]) (rest := []) A h4.1 hR1 hz rfl (j_ens_ok (d := d) hz g3 g2 (by omega) hn g6 hroom) rfl (hR0.2.2.2.1.2.2.2.2.2.1 _ (List.mem_cons_self)) (q_in_mem (j := 1642) (by decide +kernel)) (q_in_mem (j := 1644) (by decide +kernel)) (q_in_mem (j := 2971) (by decide +kernel)) (q_in_mem (j := 1645) (by decide +kernel)) (show q_yok j_ens 1 = true by decide +kernel) (Nat.le_of_ble_eq_true rfl) (Nat.zero_le _) jd_api_14 ⟨by omega, by omega⟩ (fun w H2 locs2 hw hS2 => ?_)
  obtain ⟨rfl, a', cap', f', c1', c2', c3', c4', c5', hP2, hD2⟩ := hw
  have hR2 : q_R Z (q_at E [.ref a', .int 0, .int ml, .int (nI k)] [(a', .inl (E.2.2.1 5, cap', .inl f'))]) M1 s H2 locs2 := q_atR hK hP2 hD2 hS2 hX hz' (q_atEv (sv0 := []) (X0 := []) hEv) hN
  refine lv_aload_n A.1 A.2.1 jd_api_17 rfl (lv_at h4 2 rfl) ?_
  refine q_D.inh (E := q_at E [.ref a', .int 0, .int ml, .int (nI k)] [(a', .inl (E.2.2.1 5, cap', .inl f'))]) (as := []) (rest := []) A h4.1 hR2 hz rfl (j_isl_ok (d := d + 3) hz) rfl (q_word A (q_in_mem (j := 1674) (by decide +kernel))) (q_in_mem (j := 1671) (by decide +kernel)) (q_in_mem (j := 1672) (by decide +kernel)) (q_in_mem (j := 1673) (by decide +kernel)) (q_in_mem (j := 1675) (by decide +kernel)) (show q_yok j_isl 0 = true by decide +kernel) (Nat.le_of_ble_eq_true rfl) (Nat.zero_le _) jd_api_18 ⟨by omega, by omega⟩ (fun w M3 H3 locs3 hw hR3 => ?_)
  obtain ⟨rfl, rfl⟩ := hw
  obtain ⟨hP3, hD3, hS3⟩ := q_atEl hR3
  refine lv_if_eq A.1 A.2.1 jd_api_21 (tgt := 37) (by decide) (fun h => absurd h (by decide)) (fun _ => ?_)
  refine lv_iload_n A.1 A.2.1 jd_api_24 rfl (lv_at h4 3 rfl) ?_
  refine lv_iload_n A.1 A.2.1 jd_api_25 rfl (lv_at h4 0 rfl) ?_
  refine lv_aload_n A.1 A.2.1 jd_api_26 rfl (lv_at h4 2 rfl) ?_
  refine zb_get (E := E) (k := 0) (v := .ref a') A hK hP3 hz rfl (by omega) (q_in_mem (j := 806) (by decide +kernel)) rfl jd_api_27 ?_
  refine q_Kis (E := E) (as := [.int (nI v), .int (nI (k + (dgL v).length)), .ref a']) (rest := []) A h4.1 hR3 (j_gch_ok (d := d + 3) hv c1' (by omega) c5') (q_in_mem (j := 1699) (by decide +kernel)) (q_in_mem (j := 1700) (by decide +kernel)) (q_in_mem (j := 229) (by decide +kernel)) (q_in_mem (j := 1701) (by decide +kernel)) (show q_yok j_gch 3 = true by decide +kernel) (Nat.le_of_ble_eq_true rfl) (Nat.zero_le _) jd_api_30 ⟨by omega, by omega⟩ (fun w H4 locs4 hw hS4 => ?_)
  obtain ⟨⟨x, rfl⟩, hf4, hP4, hD4⟩ := hw
  refine lv_pop A.1 A.2.1 jd_api_33 rfl ?_
  refine lv_goto A.1 A.2.1 jd_api_34 (tgt := 48) (by decide) ?_
  refine lv_aload_n A.1 A.2.1 jd_api_48 rfl (lv_at h4 2 rfl) ?_
  refine lv_iload_n A.1 A.2.1 jd_api_49 rfl (lv_at h4 0 rfl) ?_
  refine zb_put (E := E) (k := 3) (v := .int (nI (k + (dgL v).length))) (ty := .int) A hK hP4 hD4 hS4 hz rfl (by omega) (q_in_mem (j := 809) (by decide +kernel)) (by decide +kernel) rfl rfl (Nat.le_of_ble_eq_true rfl) jd_api_50 (fun H5 locs5 hP5 hD5 hS5 => ?_)
  refine lv_aload_n A.1 A.2.1 jd_api_53 rfl (lv_at h4 2 rfl) ?_
  obtain ⟨o1, o2⟩ := fdA_ok (f := f') (n := k) hv
  exact q_Dar (M := zbM M3 k (dgL v)) A (zb_end (L := dgL v) hE hz h2 hK hP5 hD5 hS5 hX hz' hEv hN c3' g4 c1' (fun i hi => (o1 i hi).trans ((c4' i hi).trans (g5 i hi))) o2 hf4) jd_api_54 rfl (Or.inl ⟨_, rfl⟩) ⟨rfl, rfl⟩ (by omega) (by omega)
set_option maxHeartbeats 4000000 in
theorem j_cat_ok {i ch : Nat} (hE : zb_E E) (hz : zb_Z Z) (h2 : M.1 270 0 = 1) (h1 : M.1 270 1 = nI n) (hn : n ≤ 142) (hi : i < n) (hch : ch < 128) (hx : M.1 270 (2 + i) = nI ch) : q_D j_cat Z E (d + 2) 0 0 [.ref (E.1 270), .int (nI i)] M (fun w M' => w = some (.int (nI ch)) ∧ M' = M) := by
  refine q_D.of (by decide) rfl (Nat.le_of_ble_eq_true rfl) ?_
  intro l p e R s m args below meth c ls A hl hR hc hs
  have hRk := hR
  obtain ⟨hK, ⟨sv, X, hP, hD, hSB⟩, hS, hX, hz', hEv, hN⟩ := hR
  rw [hE.P] at hSB
  obtain ⟨a, cap, k, ml, f, rfl, rfl, g1, g2, g3, g4, g5, g6⟩ := hSB.1 h2
  obtain rfl : k = n := (nI_eq (by omega) (by omega)).mp (g1.symm.trans h1)
  refine lv_aload_n A.1 A.2.1 jd_cat_0 rfl (lv_at hl 0 rfl) ?_
  refine zb_get (E := E) (k := 1) (v := .int 0) A hK hP hz rfl (by omega) (q_in_mem (j := 807) (by decide +kernel)) rfl jd_cat_1 ?_
  refine lv_istore_n A.1 A.2.1 jd_cat_4 rfl hl (by decide) rfl (fun ls_h3 h3 => ?_)
  refine lv_aload_n A.1 A.2.1 jd_cat_5 rfl (lv_at h3 1 rfl) ?_
  refine zb_get (E := E) (k := 0) (v := .ref a) A hK hP hz rfl (by omega) (q_in_mem (j := 806) (by decide +kernel)) rfl jd_cat_6 ?_
  refine lv_astore_n A.1 A.2.1 jd_cat_9 rfl h3 (by decide) rfl (fun ls_h4 h4 => ?_)
  refine lv_aload_n A.1 A.2.1 jd_cat_10 rfl (lv_at h4 2 rfl) ?_
  refine zb_get (E := E) (k := 3) (v := .int (nI k)) A hK hP hz rfl (by omega) (q_in_mem (j := 809) (by decide +kernel)) rfl jd_cat_11 ?_
  refine lv_aload_n A.1 A.2.1 jd_cat_14 rfl (lv_at h4 0 rfl) ?_
  refine va_alen A.1 A.2.1 hK hP Z.2.2.length 4 zb_ar (ty := .byte) rfl (v := nI cap) rfl jd_cat_15 ?_
  refine lv_iload_n A.1 A.2.1 jd_cat_16 rfl (lv_at h4 1 rfl) ?_
  refine lv_ishr A.1 A.2.1 jd_cat_17 ?_
  rw [sb_shr0]
  have hR0 : q_R Z (q_at E [.ref a, .int 0, .int ml, .int (nI k)] [(a, .inl (E.2.2.1 5, cap, .inl f))]) M s s.heap [] := q_atR hK hP hD hS hX hz' (q_atEv (sv0 := []) (X0 := []) hEv) hN
  have em : (if nI cap < nI k then nI cap else nI k) = nI k := if_neg (nI_nlt g2 (by omega))
  refine va_mmin (x := nI k) (y := nI cap) (rest := []) A.1 A.2.1 (by rw [A.2.2.2.1]; exact h4.1.symm) A.2.2.2.2.1 (q_word A (q_in_mem (j := 1776) (by decide +kernel))) (q_word A (q_in_mem (j := 1282) (by decide +kernel))) (q_word A (q_in_mem (j := 227) (by decide +kernel))) (q_word A (q_in_mem (j := 1283) (by decide +kernel))) (by have := A.2.2.2.2.2.2.2.1; omega) (by have := A.2.2.2.2.2.2.2.2; show 0 + 13 ≤ _; omega) (Nat.zero_le _) (Nat.zero_le _) jd_cat_18 ?_
  rw [em]
  refine lv_istore A.1 A.2.1 jd_cat_21 h4 (by decide) rfl (fun ls_h5 h5 => ?_)
  refine lv_iload_n A.1 A.2.1 jd_cat_23 rfl (lv_at h5 4 rfl) ?_
  refine lv_iload A.1 A.2.1 jd_cat_24 (lv_at h5 0 rfl) ?_
  refine q_D.ins (E := q_at E [.ref a, .int 0, .int ml, .int (nI k)] [(a, .inl (E.2.2.1 5, cap, .inl f))]) (as := [.int (nI i), .int (nI k)]) (rest := []) A h5.1 hR0 (j_chk_ok (d := d) (nI_pos (by omega)) (nI_lt hi (by omega))) (q_in_mem (j := 1777) (by decide +kernel)) (q_in_mem (j := 268) (by decide +kernel)) (q_in_mem (j := 208) (by decide +kernel)) (q_in_mem (j := 269) (by decide +kernel)) (show q_yok j_chk 2 = true by decide +kernel) (Nat.le_of_ble_eq_true rfl) (Nat.zero_le _) jd_cat_26 ⟨by omega, by omega⟩ (fun w M2 H2 locs2 hw hR2 => ?_)
  obtain ⟨rfl, rfl⟩ := hw
  obtain ⟨hP2, hD2, hS2⟩ := q_atEl hR2
  refine lv_iload_n A.1 A.2.1 jd_cat_29 rfl (lv_at h5 2 rfl) ?_
  refine lv_if_ne A.1 A.2.1 jd_cat_30 (tgt := 42) (by decide) (fun z => absurd rfl z) (fun _ => ?_)
  refine lv_aload_n A.1 A.2.1 jd_cat_33 rfl (lv_at h5 1 rfl) ?_
  refine lv_iload_n A.1 A.2.1 jd_cat_34 rfl (lv_at h5 4 rfl) ?_
  refine va_bald A.1 A.2.1 hK hP2 Z.2.2.length 4 zb_ar rfl (i := nI i) (vp_in_nI (by omega) (by omega)) jd_cat_35 ?_
  rw [nI_clamp (by omega), g5 i hi, hx]
  refine lv_sipush A.1 A.2.1 (v := 255) jd_cat_36 (by decide) ?_
  refine lv_iand A.1 A.2.1 jd_cat_39 ?_
  rw [(zb_b7 ch hch).2.1]
  refine lv_i2c A.1 A.2.1 jd_cat_40 (zb_b7 ch hch).2.2 ?_
  have hR3 : q_R Z E M2 s H2 locs2 := by
    refine ⟨hK, ⟨_, _, hP2, hD2, ?_⟩, hS2, hX, hz', hEv, hN⟩
    rw [hE.P]
    exact hSB
  exact q_D.zret A hR3 jd_cat_41 rfl (pk_charN (by omega)).1 ⟨rfl, rfl⟩ (Nat.le_refl _) (Nat.le_refl _)
set_option maxHeartbeats 4000000 in
theorem j_sbc_ok {ch c1 s1 : Nat} (hE : zb_E E) (hz : zb_Z Z) (h2 : M.1 270 0 = 1) (h1 : M.1 270 1 = nI n) (hn : n < 142) (hch : ch < 128) (hroom : ∀ x, (x = 16 ∨ x = 34 ∨ x = 70) → n ≤ x → x < n + 1 → 1 ≤ c1 ∧ 2 * x + 2 ≤ s1) : q_D j_sbc Z E (d + 5) c1 s1 [.ref (E.1 270), .int (nI ch)] M (fun v M' => v = some (.ref (E.1 270)) ∧ M' = zbM M n [ch]) := by
  refine q_D.of (by decide) rfl (Nat.le_of_ble_eq_true rfl) ?_
  intro l p e R s m args below meth c ls A hl hR hc hs
  refine lv_aload_n A.1 A.2.1 jd_sbc_0 rfl (lv_at hl 0 rfl) ?_
  refine lv_iload_n A.1 A.2.1 jd_sbc_1 rfl (lv_at hl 1 rfl) ?_
  refine q_D.sup (as := [.int (nI ch)]) (rest := []) A hl.1 hR hz rfl (j_apc_ok (d := d) hE hz h2 h1 hn hch hroom) rfl (by decide) (q_in_mem (j := 1730) (by decide +kernel)) (q_in_mem (j := 1731) (by decide +kernel)) (q_in_mem (j := 2974) (by decide +kernel)) (q_in_mem (j := 1732) (by decide +kernel)) (show q_yok j_apc 1 = true by decide +kernel) (Nat.le_of_ble_eq_true rfl) (Nat.zero_le _) jd_sbc_2 ⟨by omega, by omega⟩ (fun v M1 H1 locs1 hv hR1 => ?_)
  obtain ⟨rfl, rfl⟩ := hv
  refine lv_pop A.1 A.2.1 jd_sbc_5 rfl ?_
  refine lv_aload_n A.1 A.2.1 jd_sbc_6 rfl (lv_at hl 0 rfl) ?_
  exact q_Dar A hR1 jd_sbc_7 rfl (Or.inl ⟨_, rfl⟩) ⟨rfl, rfl⟩ (by omega) (by omega)
set_option maxHeartbeats 4000000 in
theorem j_sbn_ok {v c1 s1 : Nat} (hE : zb_E E) (hz : zb_Z Z) (h2 : M.1 270 0 = 1) (h1 : M.1 270 1 = nI n) (hv : v < 1100) (hn : n + (dgL v).length ≤ 142) (hroom : ∀ x, (x = 16 ∨ x = 34 ∨ x = 70) → n ≤ x → x < n + (dgL v).length → 1 ≤ c1 ∧ 2 * x + 2 ≤ s1) : q_D j_sbn Z E (d + 5) c1 s1 [.ref (E.1 270), .int (nI v)] M (fun w M' => w = some (.ref (E.1 270)) ∧ M' = zbM M n (dgL v)) := by
  refine q_D.of (by decide) rfl (Nat.le_of_ble_eq_true rfl) ?_
  intro l p e R s m args below meth c ls A hl hR hc hs
  refine lv_aload_n A.1 A.2.1 jd_sbn_0 rfl (lv_at hl 0 rfl) ?_
  refine lv_iload_n A.1 A.2.1 jd_sbn_1 rfl (lv_at hl 1 rfl) ?_
  refine q_D.sup (as := [.int (nI v)]) (rest := []) A hl.1 hR hz rfl (j_api_ok (d := d) hE hz h2 h1 hv hn hroom) rfl (by decide) (q_in_mem (j := 1693) (by decide +kernel)) (q_in_mem (j := 1694) (by decide +kernel)) (q_in_mem (j := 2973) (by decide +kernel)) (q_in_mem (j := 1695) (by decide +kernel)) (show q_yok j_api 1 = true by decide +kernel) (Nat.le_of_ble_eq_true rfl) (Nat.zero_le _) jd_sbn_2 ⟨by omega, by omega⟩ (fun w M1 H1 locs1 hw hR1 => ?_)
  obtain ⟨rfl, rfl⟩ := hw
  refine lv_pop A.1 A.2.1 jd_sbn_5 rfl ?_
  refine lv_aload_n A.1 A.2.1 jd_sbn_6 rfl (lv_at hl 0 rfl) ?_
  exact q_Dar A hR1 jd_sbn_7 rfl (Or.inl ⟨_, rfl⟩) ⟨rfl, rfl⟩ (by omega) (by omega)
set_option maxHeartbeats 4000000 in
theorem j_sba_ok {i ch : Nat} (hE : zb_E E) (hz : zb_Z Z) (h2 : M.1 270 0 = 1) (h1 : M.1 270 1 = nI n) (hn : n ≤ 142) (hi : i < n) (hch : ch < 128) (hx : M.1 270 (2 + i) = nI ch) : q_D j_sba Z E (d + 3) 0 0 [.ref (E.1 270), .int (nI i)] M (fun w M' => w = some (.int (nI ch)) ∧ M' = M) := by
  refine q_D.of (by decide) rfl (Nat.le_of_ble_eq_true rfl) ?_
  intro l p e R s m args below meth c ls A hl hR hc hs
  refine lv_aload_n A.1 A.2.1 jd_sba_0 rfl (lv_at hl 0 rfl) ?_
  refine lv_iload_n A.1 A.2.1 jd_sba_1 rfl (lv_at hl 1 rfl) ?_
  refine q_D.sup (as := [.int (nI i)]) (rest := []) A hl.1 hR hz rfl (j_cat_ok (d := d) hE hz h2 h1 hn hi hch hx) rfl (by decide) (q_in_mem (j := 1773) (by decide +kernel)) (q_in_mem (j := 1774) (by decide +kernel)) (q_in_mem (j := 2977) (by decide +kernel)) (q_in_mem (j := 1775) (by decide +kernel)) (show q_yok j_cat 1 = true by decide +kernel) (Nat.le_of_ble_eq_true rfl) (Nat.zero_le _) jd_sba_2 ⟨by omega, by omega⟩ (fun w M1 H1 locs1 hw hR1 => ?_)
  obtain ⟨rfl, rfl⟩ := hw
  exact q_D.zret A hR1 jd_sba_5 rfl (pk_charN (by omega)).1 ⟨rfl, rfl⟩ (Nat.le_refl _) (Nat.le_refl _)
end S11
