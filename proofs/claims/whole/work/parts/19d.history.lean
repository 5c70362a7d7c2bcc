/-! History's constructor: a row of 21 States -/
/-- a State's cells behind n others -/
def s_obj (n : Nat) : q_Sh := (0, 9, 10, [some (n + 3), some (n + 4), some (n + 5), some (n + 6), some (n + 7), some (n + 8), some (n + 9), none, none, none])
def s_arr : List q_Sh := [(1, 0, 36, []), (1, 0, 576, []), (1, 0, 6, []), (1, 0, 6, []), (1, 0, 6, []), (1, 0, 6, []), (1, 0, 6, [])]
/-- State's contract where it is made behind 'arr' -/
theorem k_X8n {Z0 : q_Z} {E : q_E} {M : q_M} {r0 d n : Nat} {g : q_Sh} {arr : List q_Sh} (hn : n = Z0.2.2.length + arr.length) (hc : q_cok Z0 r0 g (arr ++ [(0, 9, 10, List.replicate 10 none)]) E M) (hlen : n + 8 ≤ 268) : q_CK q_mt (q_zc Z0 r0 g (arr ++ [(0, 9, 10, List.replicate 10 none)])) E nX8_init (d + 1) 7 642 [.ref (n + 2)] M (fun Z' E' M' => Z' = q_zc (q_zc Z0 r0 g (arr ++ [(0, 9, 10, List.replicate 10 none)])) n (s_obj n) s_arr ∧ M' = q_si M (n + 2) 9 (Int32.ofInt (-1)) ∧ E'.2 = E.2) := by
  have hl : (q_zc Z0 r0 g (arr ++ [(0, 9, 10, List.replicate 10 none)])).2.2.length = n + 1 := by
    rw [q_zc.len]
    simp only [List.length_append, List.length_cons, List.length_nil]
    omega
  have h := k_X8 (Z0 := q_zc Z0 r0 g (arr ++ [(0, 9, 10, List.replicate 10 none)])) (E := E) (M := M) (r0 := n) (d := d) (q_zc.last hn) hc.wf hc.zero hc.2.2.2.2.2.1 (by rw [hl]; omega)
  rw [hl] at h
  exact h
section KH
variable {Z0 : q_Z} {E : q_E} {d rc rs r0 : Nat} {Y : Array Value → State → Outcome → State → Prop} {M : q_M} {arr : List q_Sh}
set_option maxRecDepth 100000 in
set_option maxHeartbeats 4000000 in
theorem k_hist_it {refs : List (Option Nat)} {i : Nat} (hi : i < 21) (ha : arr[0]? = some (4, 0, 21, refs)) (hl : refs.length = 21) (hc : q_cok Z0 r0 (0, 1, 3, [some (Z0.2.2.length + 2), none, none]) arr E M) (hlen : Z0.2.2.length + arr.length + 8 ≤ 268)
    (kk : ∀ E', q_ext (Z0.2.2.length + 2) E E' → q_cok Z0 r0 (0, 1, 3, [some (Z0.2.2.length + 2), none, none]) ((arr ++ s_obj (Z0.2.2.length + arr.length) :: s_arr).set 0 (4, 0, 21, refs.set i (some (Z0.2.2.length + arr.length + 2)))) E' (q_si M (Z0.2.2.length + arr.length + 2) 9 (Int32.ofInt (-1))) →
      q_G q_mt (q_zc Z0 r0 (0, 1, 3, [some (Z0.2.2.length + 2), none, none]) ((arr ++ s_obj (Z0.2.2.length + arr.length) :: s_arr).set 0 (4, 0, 21, refs.set i (some (Z0.2.2.length + arr.length + 2))))) E' nX0_init (d + 2) rc rs Y 15 [some (.ref (r0 + 2)), some (.int (nI (i + 1)))] [] (q_si M (Z0.2.2.length + arr.length + 2) 9 (Int32.ofInt (-1)))) :
    q_G q_mt (q_zc Z0 r0 (0, 1, 3, [some (Z0.2.2.length + 2), none, none]) arr) E nX0_init (d + 2) (rc + 8) (rs + 652) Y 15 [some (.ref (r0 + 2)), some (.int (nI i))] [] M := by
  have hr0 := hc.1
  have la : 0 < arr.length := (List.getElem?_eq_some_iff.mp ha).1
  refine k_go (Nat.le_of_ble_eq_true rfl) 4 22 ?_
  refine And.intro (fun q => absurd q (nI_ge (b := 21) hi (by decide))) (fun _ => ?_)
  refine k_get (k := 0) (Nat.le_of_ble_eq_true rfl) (List.mem_of_getElem? (i := 12) rfl) (show vwCl[1]? = some (RX0, TX0, 3) from rfl) ⟨by decide, by decide⟩ (q_in_mem (j := 594) (by decide +kernel)) rfl rfl rfl hc ?_
  refine k_go (Nat.le_of_ble_eq_true rfl) 1 26 ?_
  refine k_new (rc := rc + 7) (rs := rs + 642) (Nat.le_of_ble_eq_true rfl) (List.mem_of_getElem? (i := 14) rfl) (show vwCl[9]? = some (RX8, TX8, 10) from rfl) (q_in_mem (j := 592) (by decide +kernel)) (q_in_mem (j := 520) (by decide +kernel)) (q_in_mem (j := 215) (by decide +kernel)) hc (q_ol_some (q_ov_ref (by omega)) rfl) (q_os_cons rfl (q_os_cons (q_ov_ref (by omega)) rfl)) (Or.inl (by omega)) (fun E1 e1 hc1 => ?_)
  refine k_go (Nat.le_of_ble_eq_true rfl) 1 30 ?_
  refine k_ini (rc := rc) (rs := rs) (k := Z0.2.2.length + arr.length) (mj := nX8_init) rfl (Nat.le_of_ble_eq_true rfl) (Nat.le_of_ble_eq_true rfl) (List.mem_of_getElem? (i := 16) rfl) (k_X8n (d := d) rfl hc1 (by omega)) rfl rfl (q_in_mem (j := 593) (by decide +kernel)) (q_in_mem (j := 522) (by decide +kernel)) (q_in_mem (j := 215) (by decide +kernel)) (show q_yok (q_mt nX8_init) 0 = true by decide +kernel) (Nat.le_of_ble_eq_true rfl) hc1 (q_ol_some (q_ov_ref (by omega)) rfl) (q_os_cons (q_ov_ref (by omega)) (q_os_cons rfl (q_os_cons (q_ov_ref (by omega)) rfl))) ?_ ?_ ?_ (Or.inl (by show Z0.2.2.length + arr.length + 7 + 3 ≤ 270; omega)) (fun E2 e2 hc2 => ?_)
  · show q_wr (Z0.2.2.length + arr.length + 7 + 3) [some (Z0.2.2.length + arr.length + 3), some (Z0.2.2.length + arr.length + 4), some (Z0.2.2.length + arr.length + 5), some (Z0.2.2.length + arr.length + 6), some (Z0.2.2.length + arr.length + 7), some (Z0.2.2.length + arr.length + 8), some (Z0.2.2.length + arr.length + 9), none, none, none] = true
    simp only [q_wr, Bool.and_eq_true, Nat.blt, Nat.ble_eq, and_true]
    omega
  · intro a h
    simp only [s_arr, List.mem_cons, List.not_mem_nil, or_false] at h
    rcases h with rfl | rfl | rfl | rfl | rfl | rfl | rfl <;> rfl
  · intro r hr j
    have hr : Z0.2.2.length + arr.length + 7 + 3 ≤ r := hr
    rw [q_si_ne (by omega)]
    exact hc.2.2.2.2.1 r (by omega) j
  · have hcl : (nI i).toNatClampNeg = i := nI_clamp (by omega)
    refine k_aast (a := Z0.2.2.length) (v := Z0.2.2.length + arr.length) (ja := 0) (jv := arr.length) (refs := refs) (cx := 0) (nn := 21) (nv := 10) (rv := (s_obj (Z0.2.2.length + arr.length)).2.2.2) (i := nI i) (Nat.le_of_ble_eq_true rfl) (List.mem_of_getElem? (i := 17) rfl) rfl rfl ?_ ?_ (by rw [hcl, hl]; exact hi) (q_n1 (by omega) hi) hc2 (Or.inl ?_) (fun hc3 => ?_)
    · rw [List.getElem?_append_left la]; exact ha
    · rw [List.getElem?_append_right (Nat.le_refl _), Nat.sub_self]; rfl
    · simp only [List.length_append, List.length_cons, s_arr, List.length_nil]; omega
    · rw [hcl] at hc3 ⊢
      refine k_go (Nat.le_of_ble_eq_true rfl) 3 15 ?_
      have K := kk E2 (q_ext.tr (Nat.le_refl _) e1 e2) hc3
      rw [show nI (i + 1) = nI i + Int32.ofInt 1 from (nI_add i 1).symm] at K
      exact K
end KH
/-- the cells behind i States: the row ahead, then each State with its rows -/
def h_arr (n : Nat) : Nat → List q_Sh
  | 0 => [(4, 0, 21, List.replicate 21 none)]
  | i + 1 => (h_arr n i ++ s_obj (n + 1 + 8 * i) :: s_arr).set 0 (4, 0, 21, ((List.range (i + 1)).map fun k => some (n + 1 + 8 * k + 2)) ++ List.replicate (20 - i) none)
def h_mem (n : Nat) (M : q_M) : Nat → q_M
  | 0 => M
  | i + 1 => q_si (h_mem n M i) (n + 1 + 8 * i + 2) 9 (Int32.ofInt (-1))
theorem h_arr_len (n : Nat) : ∀ i, (h_arr n i).length = 1 + 8 * i
  | 0 => rfl
  | i + 1 => by
    unfold h_arr
    rw [List.length_set, List.length_append, h_arr_len n i]
    simp only [s_arr, List.length_cons, List.length_nil]
    omega
theorem h_arr_0 (n : Nat) : ∀ i, i ≤ 21 → (h_arr n i)[0]? = some (4, 0, 21, ((List.range i).map fun k => some (n + 1 + 8 * k + 2)) ++ List.replicate (21 - i) none)
  | 0, _ => rfl
  | i + 1, hi => by
    unfold h_arr
    rw [List.getElem?_set_self (by rw [List.length_append, h_arr_len]; omega), show 20 - i = 21 - (i + 1) by omega]
theorem h_refs_set (n i : Nat) (hi : i < 21) : (((List.range i).map fun k => some (n + 1 + 8 * k + 2)) ++ List.replicate (21 - i) none).set i (some (n + 1 + 8 * i + 2)) = ((List.range (i + 1)).map fun k => some (n + 1 + 8 * k + 2)) ++ List.replicate (20 - i) none := by
  rw [List.set_append_right _ _ (by rw [List.length_map, List.length_range]; omega), List.length_map, List.length_range, Nat.sub_self, show 21 - i = (20 - i) + 1 by omega, List.replicate_succ, List.set_cons_zero, List.range_succ, List.map_append, List.append_assoc]
  rfl
section KH2
variable {Z0 : q_Z} {d r0 : Nat} {Y : Array Value → State → Outcome → State → Prop} {M : q_M}
theorem k_hist_loop (hz : Z0.2.2.length + 169 ≤ 268) {E0 : q_E} (hY : ∀ E, q_ext (Z0.2.2.length + 2) E0 E → q_cok Z0 r0 (0, 1, 3, [some (Z0.2.2.length + 2), none, none]) (h_arr Z0.2.2.length 21) E (h_mem Z0.2.2.length M 21) → q_G q_mt (q_zc Z0 r0 (0, 1, 3, [some (Z0.2.2.length + 2), none, none]) (h_arr Z0.2.2.length 21)) E nX0_init (d + 2) 0 0 Y 15 [some (.ref (r0 + 2)), some (.int (nI 21))] [] (h_mem Z0.2.2.length M 21)) :
    ∀ (n i : Nat) (E : q_E), i + n = 21 → q_ext (Z0.2.2.length + 2) E0 E → q_cok Z0 r0 (0, 1, 3, [some (Z0.2.2.length + 2), none, none]) (h_arr Z0.2.2.length i) E (h_mem Z0.2.2.length M i) → q_G q_mt (q_zc Z0 r0 (0, 1, 3, [some (Z0.2.2.length + 2), none, none]) (h_arr Z0.2.2.length i)) E nX0_init (d + 2) (8 * n) (652 * n) Y 15 [some (.ref (r0 + 2)), some (.int (nI i))] [] (h_mem Z0.2.2.length M i)
  | 0, i, E, hi, he, hc => by
    obtain rfl : i = 21 := by omega
    exact hY E he hc
  | n + 1, i, E, hi, he, hc => by
    have hl := h_arr_len Z0.2.2.length i
    refine k_hist_it (rc := 8 * n) (rs := 652 * n) (i := i) (by omega) (h_arr_0 Z0.2.2.length i (by omega)) (by rw [List.length_append, List.length_map, List.length_range, List.length_replicate]; omega) hc (by rw [hl]; omega) (fun E' he' hc' => ?_)
    rw [hl, show Z0.2.2.length + (1 + 8 * i) = Z0.2.2.length + 1 + 8 * i by omega, h_refs_set _ _ (by omega)] at hc' ⊢
    exact k_hist_loop hz hY n (i + 1) E' (by omega) (q_ext.tr (Nat.le_refl _) he he') hc'
set_option maxRecDepth 100000 in
set_option maxHeartbeats 4000000 in
theorem k_X0 {E : q_E} (hr : Z0.2.2[r0]? = some (0, 1, 3, List.replicate 3 none)) (hwf : q_wf Z0.2.2 (Z0.2.2.length + 2)) (hz : q_zero M (Z0.2.2.length + 2)) (h270 : E.2.2.2.2.1 = 270) (hlen : Z0.2.2.length + 169 ≤ 268) : q_CK q_mt Z0 E nX0_init (d + 2) 169 13713 [.ref (r0 + 2)] M (fun Z' E' M' => Z' = q_zc Z0 r0 (0, 1, 3, [some (Z0.2.2.length + 2), none, none]) (h_arr Z0.2.2.length 21) ∧ M' = h_mem Z0.2.2.length M 21 ∧ E'.2 = E.2) := by
  have hr0 : r0 < Z0.2.2.length := (List.getElem?_eq_some_iff.mp hr).1
  have hc : q_cok Z0 r0 (0, 1, 3, List.replicate 3 none) [] E M := ⟨hr0, hwf, q_wr_nones, (fun _ h => by cases h), hz, h270, Or.inl (by simp only [List.length_nil]; omega)⟩
  refine k_en (Nat.le_of_ble_eq_true rfl) rfl ?_
  have hS := q_zc.start hr
  have key : ∀ Zs, Zs = q_zc Z0 r0 (0, 1, 3, List.replicate 3 none) [] → q_G q_mt Zs E nX0_init (d + 2) 169 13713 (q_YK Z0 E (fun Z' E' M' => Z' = q_zc Z0 r0 (0, 1, 3, [some (Z0.2.2.length + 2), none, none]) (h_arr Z0.2.2.length 21) ∧ M' = h_mem Z0.2.2.length M 21 ∧ E'.2 = E.2)) 0 (q_lv0 (q_mt nX0_init).2.2.2.1 [.ref (r0 + 2)]) [] M := by
    intro Zs eZ
    subst eZ
    refine k_go (Nat.le_of_ble_eq_true rfl) 1 1 ?_
    refine k_obj (Nat.le_of_ble_eq_true rfl) (List.mem_of_getElem? (i := 1) rfl) (q_in_mem (j := 591) (by decide +kernel)) q_ko_i q_ko_c ?_
    refine k_go (Nat.le_of_ble_eq_true rfl) 2 7 ?_
    refine k_anew (rc := 168) (rs := 13692) (nn := 21) (Nat.le_of_ble_eq_true rfl) (List.mem_of_getElem? (i := 4) rfl) (q_in_mem (j := 592) (by decide +kernel)) (by decide) (by decide) (by decide) hc (q_ol_some (q_ov_ref (by simp only [List.length_nil]; omega)) rfl) (q_os_cons (q_ov_ref (by simp only [List.length_nil]; omega)) rfl) (Or.inl (by simp only [List.length_nil]; omega)) (fun E1 e1 hc1 => ?_)
    refine k_putr (k := 0) (ty := .array (.object "DropTwo$State")) (Nat.le_of_ble_eq_true rfl) (List.mem_of_getElem? (i := 5) rfl) (show vwCl[1]? = some (RX0, TX0, 3) from rfl) ⟨by decide, by decide, Nat.le_of_ble_eq_true rfl⟩ (q_in_mem (j := 594) (by decide +kernel)) ⟨rfl, rfl, rfl⟩ (by decide +kernel) (Or.inr ⟨_, rfl⟩) rfl hc1 (by simp only [List.length_append, List.length_cons, List.length_nil]; omega) (Or.inl (by omega)) (fun hc2 => ?_)
    refine k_go (Nat.le_of_ble_eq_true rfl) 3 15 ?_
    refine k_hist_loop (M := M) (E0 := E) hlen (fun E2 e2 hc3 => ?_) 21 0 E1 rfl e1 hc2
    refine k_go (Nat.le_of_ble_eq_true rfl) 3 40 ?_
    refine And.intro (fun _ => ?_) (fun q => absurd (show nI 21 ≤ nI 21 from nI_le (Nat.le_refl _) (by decide)) q)
    exact k_ret (Nat.le_of_ble_eq_true rfl) (List.mem_of_getElem? (i := 20) rfl) rfl e2 ⟨rfl, rfl⟩ ⟨rfl, rfl, e2.2⟩
  exact key Z0 hS
end KH2
