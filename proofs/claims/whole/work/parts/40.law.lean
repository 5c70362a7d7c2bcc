/-! THE LAW'S LOOP, out of what each call owes (written by wip/whole/gen4.py) -/
/-- a call of both sides, one behind the other: the same answer, and the invariant behind it -/
def q_opR (Z : q_Z) (E : q_E) (I J : q_M → Prop) (mi mj d c1 s1 : Nat) (as : List Value) : Prop := ∀ M, I M → q_C q_mt Z E mi d c1 s1 (.ref 2 :: as) M (fun v M' => ∃ r : Int32, v = some (.int r) ∧ q_C q_mt Z E mj d 0 0 (.ref 271 :: as) M' (fun v' M'' => v' = some (.int r) ∧ J M''))
abbrev q_opOK (Z : q_Z) (E : q_E) (I J : q_M → Prop) (mi mj d : Nat) (as : List Value) : Prop := q_opR Z E I J mi mj d 0 0 as
theorem q_G.widen {mt : Nat → q_Me} {Z : q_Z} {E : q_E} {mi d rc rs : Nat} {Y : Array Value → State → Outcome → State → Prop} {pc : Nat} {lv : q_L} {st : List Value} {M : q_M} (a b : Nat) (h : q_G mt Z E mi d rc rs Y pc lv st M) : q_G mt Z E mi d (rc + a) (rs + b) Y pc lv st M := by
  intro l p e R s m args below meth c H locs cells slots ls A hl hR hcc hss
  refine W.widen (Nat.le_add_right cells a) (Nat.le_add_right slots b) ?_
  have K := h l p e R s m args below meth c H locs (cells + a) (slots + b) ls A hl hR (by omega) (by omega)
  rw [show cells + a + rc = cells + (rc + a) by omega, show slots + b + rs = slots + (rs + b) by omega] at K
  exact K
/-- a call that may make cells -/
theorem q_invR {mt : Nat → q_Me} {Z : q_Z} {E : q_E} {mi mj d rc rs c1 s1 : Nat} {Q1 : Option Value → q_M → Prop} {Y : Array Value → State → Outcome → State → Prop} {pc idx : Nat} {lv : q_L} {as rest : List Value} {M : q_M} {r ci nn : Nat} {refs : List (Option Nat)} {C : String} {T : u_T} {N : Nat} (hM : q_C mt Z E mj d c1 s1 (.ref r :: as) M Q1) (hc : q_cell Z r = some (0, ci, nn, refs)) (hv : vwCl[ci]? = some (C, T, N)) (hC : (mt mj).2.1.cls = C)
    (h1 : Cond.methodLink (mt mi).1 idx (mt mj).2.1 ∈ q_wT) (h2 : Cond.instanceMethod (mt mj).2.1 ∈ q_wT) (h3 : Cond.selects C (mt mj).2.1 (mt mj).2.1 ∈ q_wT) (h4 : Cond.initialized C ∈ q_wT) (h5 : Cond.code (mt mj).2.1 (mt mj).2.2.1 (mt mj).2.2.2.1 (mt mj).2.2.2.2.1 ∈ q_wT)
    (hy : (mt mj).2.1.cls ≠ "java/lang/invoke/MethodHandle" ∧ (mt mj).2.1.cls ≠ "java/lang/invoke/VarHandle" ∧ (parseMethodDescriptor (mt mj).2.1.desc).map (fun d => d.parameters.length) = some as.length) (hL : (mt mj).2.2.2.1 ≤ 45) (hroom : (rest.map fun v => v.category).sum ≤ 8) (hd : decode (mt mi).2.2.1 pc = .ok (.invokevirtual idx, 3))
    (kk : ∀ (v : Option Value) (M1 : q_M), Q1 v M1 → q_G mt Z E mi (d + 1) rc rs Y (pc + 3) lv (v.toList ++ rest) M1) : q_G mt Z E mi (d + 1) (rc + c1) (rs + s1) Y pc lv (as.reverse ++ .ref r :: rest) M := by
  intro l p e R s m args below meth c H locs cells slots ls A hl hR hcc hss
  obtain ⟨r0, rfl⟩ := q_own hc (Nat.le_of_ble_eq_true rfl)
  have hts : ∀ w ∈ q_wT, w.before args s = true := fun w h => q_word A h
  have cw : CallW R s args (mt mi).1 C idx (mt mj).2.1 (mt mj).2.2.1 (mt mj).2.2.2.1 (mt mj).2.2.2.2.1 (q_ws (mt mj)) (q_room d c1 s1) c1 s1 as.length := cwV (ws' := q_wT) as.length hts (q_goodIn (fun w hw => by
      rcases List.mem_append.mp hw with h | h
      · rcases List.mem_cons.mp h with rfl | h
        · exact h1
        rcases List.mem_cons.mp h with rfl | h
        · exact h2
        rcases List.mem_cons.mp h with rfl | h
        · exact h3
        rcases List.mem_cons.mp h with rfl | h
        · exact h4
        cases h
      · exact q_ws_in h5 w h)) rfl rfl rfl ⟨hC, hy⟩ ⟨A.2.2.2.2.2.2.2.1, by have := A.2.2.2.2.2.2.2.2; show 8 + ((mt mj).2.2.2.1 + 11) + 64 * d ≤ R.locals; omega⟩
  have hRk := hR
  obtain ⟨hK, ⟨sv, X, hP, hD, -⟩, -⟩ := hR
  have hcat : ((rest.map (q_vm E.1)).map fun v => v.category).sum ≤ 8 := by
    rw [List.map_map, show ((fun v => Value.category v) ∘ q_vm E.1) = (fun v => v.category) from funext (fun v => q_vm_cat E.1 v)]
    exact hroom
  have hr := va_runV (e := e) (below := below) (meth := meth) (locs := locs) (cells := cells) (slots := slots) (b := E.1 (r0 + 2)) (As := as.map (q_vm E.1)) (rest := rest.map (q_vm E.1)) (g := F0 m pc ls ((as.reverse ++ .ref (r0 + 2) :: rest).map (q_vm E.1)))
    (⟨A.1, A.2.1, A.2.2.2.1, A.2.2.2.2.1, hts⟩ : CallFix p m c (mt mi).2.2.1 (mt mi).2.2.2.1 s args q_wT (mt mi).1) (hM l) cw ⟨q_blind, va_recv hK hP hv (q_wl_at X hc), fun U hU hW => ⟨rfl, q_RS.of hRk hU hW⟩⟩ rfl (List.length_map _) hl.1
    (by show (as.reverse ++ .ref (r0 + 2) :: rest).map (q_vm E.1) = _; rw [List.map_append, List.map_reverse]; rfl) (lv_room hcat) hd ⟨by omega, by omega⟩
  refine q_call hr hRk (fun v M1 H1 locs1 hq hR1 => ?_)
  have K := kk v M1 hq l p e R s m args below meth c H1 locs1 (cells + c1) (slots + s1) ls A hl hR1 (by omega) (by omega)
  rw [List.map_append, show cells + c1 + rc = cells + (rc + c1) by omega, show slots + s1 + rs = slots + (rs + s1) by omega] at K
  cases v <;> exact K
def q_ops (Z : q_Z) (E : q_E) (I J : q_M → Prop) (d : Nat) : Prop := (∀ a b c e f : Int32, q_opOK Z E I J nX11_feed nX12_feed d [.int a, .int b, .int c, .int e, .int f]) ∧ (∀ a : Int32, q_opOK Z E I J nX11_end nX12_end d [.int a]) ∧ (q_opOK Z E I J nX11_meet nX12_meet d []) ∧ (q_opOK Z E I J nX11_script nX12_script d []) ∧ (∀ a : Int32, q_opOK Z E I J nX11_fault nX12_fault d [.int a]) ∧ (q_opOK Z E I J nX11_stopped nX12_stopped d []) ∧ (∀ a : Int32, q_opOK Z E I J nX11_named nX12_named d [.int a]) ∧ (∀ a : Int32, q_opOK Z E I J nX11_look nX12_look d [.int a]) ∧ (∀ a b : Int32, q_opOK Z E I J nX11_dive nX12_dive d [.int a, .int b]) ∧ (∀ a b : Int32, q_opOK Z E I J nX11_entrant nX12_entrant d [.int a, .int b]) ∧ (∀ a b : Int32, q_opOK Z E I J nX11_judge nX12_judge d [.int a, .int b]) ∧ (∀ a b : Int32, q_opOK Z E I J nX11_list nX12_list d [.int a, .int b]) ∧ (∀ a b : Int32, q_opOK Z E I J nX11_form nX12_form d [.int a, .int b]) ∧ (∀ a b : Int32, q_opOK Z E I J nX11_cut nX12_cut d [.int a, .int b]) ∧ (∀ a b c : Int32, q_opOK Z E I J nX11_law nX12_law d [.int a, .int b, .int c]) ∧ (∀ a b : Int32, q_opOK Z E I J nX11_breaks nX12_breaks d [.int a, .int b]) ∧ (∀ a : Int32, q_opOK Z E I J nX11_ways nX12_ways d [.int a]) ∧ (∀ a b c : Int32, q_opOK Z E I J nX11_way nX12_way d [.int a, .int b, .int c]) ∧ (∀ a b : Int32, q_opOK Z E I J nX11_best nX12_best d [.int a, .int b]) ∧ (∀ a : Int32, q_opOK Z E I J nX11_board nX12_board d [.int a]) ∧ (∀ a : Int32, q_opOK Z E I J nX11_marked nX12_marked d [.int a]) ∧ (∀ a b : Int32, q_opOK Z E I J nX11_mark nX12_mark d [.int a, .int b]) ∧ (q_opOK Z E I J nX11_balk nX12_balk d []) ∧ (∀ a : Int32, q_opOK Z E I J nX11_cap nX12_cap d [.int a]) ∧ (∀ a : Int32, q_opOK Z E I J nX11_half nX12_half d [.int a]) ∧ (q_opOK Z E I J nX11_fail nX12_fail d []) ∧ (q_opOK Z E I J nX11_give nX12_give d []) ∧ (∀ a : Int32, q_opOK Z E I J nX11_out nX12_out d [.int a]) ∧ (∀ a b c : Int32, q_opOK Z E I J nX11_change nX12_change d [.int a, .int b, .int c]) ∧ (q_opOK Z E I J nX11_undo nX12_undo d []) ∧ (∀ a b : Int32, q_opOK Z E I J nX11_points nX12_points d [.int a, .int b]) ∧ (∀ a b c e : Int32, q_opOK Z E I J nX11_award nX12_award d [.int a, .int b, .int c, .int e]) ∧ (∀ a b : Int32, q_opOK Z E I J nX11_kept nX12_kept d [.int a, .int b]) ∧ (∀ a b : Int32, q_opOK Z E I J nX11_total nX12_total d [.int a, .int b]) ∧ (∀ a : Int32, q_opOK Z E I J nX11_rank nX12_rank d [.int a]) ∧ (∀ a : Int32, q_opOK Z E I J nX11_at nX12_at d [.int a]) ∧ (∀ a : Int32, q_opR Z E I J nX11_sheet nX12_sheet d 4 600 [.int a]) ∧ (∀ a b c : Int32, q_opOK Z E I J nX11_worth nX12_worth d [.int a, .int b, .int c]) ∧ (∀ a b : Int32, q_opOK Z E I J nX11_needs nX12_needs d [.int a, .int b]) ∧ (∀ a b c : Int32, q_opOK Z E I J nX11_swing nX12_swing d [.int a, .int b, .int c]) ∧ (∀ a b c : Int32, q_opOK Z E I J nX11_bribes nX12_bribes d [.int a, .int b, .int c]) ∧ (∀ a b : Int32, q_opOK Z E I J nX11_bias nX12_bias d [.int a, .int b]) ∧ (∀ a b : Int32, q_opOK Z E I J nX11_alike nX12_alike d [.int a, .int b]) ∧ (∀ a b : Int32, q_opOK Z E I J nX11_dropped nX12_dropped d [.int a, .int b]) ∧ (∀ a b : Int32, q_opOK Z E I J nX11_without nX12_without d [.int a, .int b]) ∧ (∀ a b : Int32, q_opOK Z E I J nX11_asDrop nX12_asDrop d [.int a, .int b]) ∧ (∀ a : Int32, q_opOK Z E I J nX11_expected nX12_expected d [.int a]) ∧ (∀ a : Int32, q_opOK Z E I J nX11_goes nX12_goes d [.int a]) ∧ (∀ a b : Int32, q_opOK Z E I J nX11_order nX12_order d [.int a, .int b]) ∧ (∀ a b c : Int32, q_opOK Z E I J nX11_wins nX12_wins d [.int a, .int b, .int c]) ∧ (∀ a : Int32, q_opOK Z E I J nX11_keep nX12_keep d [.int a]) ∧ (∀ a : Int32, q_opOK Z E I J nX11_back nX12_back d [.int a])
section LW
variable {L : Nat} {xs : Nat → Int32} {E : q_E} {I : Nat → q_M → Prop} {d rc rs : Nat} {Y : Array Value → State → Outcome → State → Prop}
theorem law_in {t j : Nat} (hL : L ≤ 3072) (h : 6 * t + 6 ≤ L) (hj : j ≤ 5) : q_in0 (nI (6 * t) + Int32.ofInt (j : Int)) L := by
  have e : Int32.ofInt (j : Int) = nI j := rfl
  rw [e, nI_add]
  exact q_n1 (by omega) (by omega)
set_option maxRecDepth 1000000 in
set_option maxHeartbeats 40000000 in
theorem law_loop (hL : L ≤ 3072) (hY : ∀ M, q_Y (L, xs, q_shp) E Y (some (.int 1)) M) (hskip : ∀ t, 6 * t + 6 ≤ L → ∀ M, I t M → I (t + 1) M) (hops0 : ∀ t, 6 * t + 6 ≤ L → q_ops (L, xs, q_shp) E (I t) (I (t + 1)) d) : ∀ (n t : Nat) (M : q_M), L ≤ 6 * (t + n) + 5 → 6 * t ≤ L → I t M → q_G q_mt (L, xs, q_shp) E nL_law (d + 1) (rc + 4 * n) (rs + 600 * n) Y 18 [some (.ref 0), some (.ref 2), some (.ref 271), some (.int (nI (6 * t)))] [] M
  | n, t, M, hn, ht0, hI => by
    refine q_goY (Q := fun v _ => v = some (.int 1)) q_ok (fun v M' h => by rw [h]; exact hY M') kaL_law 200 [18, 1270] ?_
    have eL : (Int32.ofNat L - Int32.ofInt 6).toInt = (L : Int) - 6 := by
      have e1 : (Int32.ofNat L).toInt = (L : Int) := nI_toInt (by omega)
      have e2 : (Int32.ofInt 6).toInt = 6 := by decide
      rw [q_sub (by omega) (by omega), e1, e2]
    refine And.intro (fun _ => And.intro (Or.inr rfl) rfl) (fun q => ?_)
    have q : ¬ (Int32.ofNat L - Int32.ofInt 6) < nI (6 * t) := q
    have ht : 6 * t + 6 ≤ L := by
      rw [Int32.lt_iff_toInt_lt, eL, nI_toInt (by omega)] at q
      omega
    match n, hn with
    | 0, hn => omega
    | n + 1, hn =>
      have hops := hops0 t ht
      have nx0 : ∀ M', I (t + 1) M' → q_G q_mt (L, xs, q_shp) E nL_law (d + 1) (rc + 4 * n) (rs + 600 * n) Y 18 [some (.ref 0), some (.ref 2), some (.ref 271), some (.int (nI (6 * t) + Int32.ofInt 6))] [] M' := by
        intro M' hI'
        have e : nI (6 * t) + Int32.ofInt 6 = nI (6 * (t + 1)) := nI_add (6 * t) 6
        rw [e]
        exact law_loop hL hY hskip hops0 n (t + 1) M' (by omega) (by omega) hI'
      have nx : ∀ M', I (t + 1) M' → q_G q_mt (L, xs, q_shp) E nL_law (d + 1) (rc + 4 * (n + 1)) (rs + 600 * (n + 1)) Y 18 [some (.ref 0), some (.ref 2), some (.ref 271), some (.int (nI (6 * t) + Int32.ofInt 6))] [] M' := fun M' hI' => (nx0 M' hI').widen 4 600
      have h0 : q_in0 (nI (6 * t)) L := q_n1 (by omega) (by omega)
      have h1 := law_in (j := 1) hL ht (by omega)
      have h2 := law_in (j := 2) hL ht (by omega)
      have h3 := law_in (j := 3) hL ht (by omega)
      have h4 := law_in (j := 4) hL ht (by omega)
      have h5 := law_in (j := 5) hL ht (by omega)
      refine And.intro h0 (And.intro (fun q => ?_) ?_)
      · exact nx M (hskip t ht M hI)
      refine And.intro (fun _ => And.intro h1 (And.intro h2 (And.intro h3 (And.intro h4 (And.intro h5 (q_C.mono ((hops.1 _ _ _ _ _) M hI) (fun v M' h => ?_))))))) ?_
      · obtain ⟨r, rfl, h⟩ := h
        exact And.intro h1 (And.intro h2 (And.intro h3 (And.intro h4 (And.intro h5 (q_C.mono h (fun v' M'' h' => by obtain ⟨rfl, hI'⟩ := h'; exact br_t rfl (nx M'' hI')))))))
      refine And.intro (fun _ => And.intro h1 (q_C.mono ((hops.2.1 _) M hI) (fun v M' h => ?_))) ?_
      · obtain ⟨r, rfl, h⟩ := h
        exact And.intro h1 (q_C.mono h (fun v' M'' h' => by obtain ⟨rfl, hI'⟩ := h'; exact br_t rfl (nx M'' hI')))
      refine And.intro (fun _ => q_C.mono (hops.2.2.1 M hI) (fun v M' h => ?_)) ?_
      · obtain ⟨r, rfl, h⟩ := h
        exact q_C.mono h (fun v' M'' h' => by obtain ⟨rfl, hI'⟩ := h'; exact br_t rfl (nx M'' hI'))
      refine And.intro (fun _ => q_C.mono (hops.2.2.2.1 M hI) (fun v M' h => ?_)) ?_
      · obtain ⟨r, rfl, h⟩ := h
        exact q_C.mono h (fun v' M'' h' => by obtain ⟨rfl, hI'⟩ := h'; exact br_t rfl (nx M'' hI'))
      refine And.intro (fun _ => And.intro h1 (q_C.mono ((hops.2.2.2.2.1 _) M hI) (fun v M' h => ?_))) ?_
      · obtain ⟨r, rfl, h⟩ := h
        exact And.intro h1 (q_C.mono h (fun v' M'' h' => by obtain ⟨rfl, hI'⟩ := h'; exact br_t rfl (nx M'' hI')))
      refine And.intro (fun _ => q_C.mono (hops.2.2.2.2.2.1 M hI) (fun v M' h => ?_)) ?_
      · obtain ⟨r, rfl, h⟩ := h
        exact q_C.mono h (fun v' M'' h' => by obtain ⟨rfl, hI'⟩ := h'; exact br_t rfl (nx M'' hI'))
      refine And.intro (fun _ => And.intro h1 (q_C.mono ((hops.2.2.2.2.2.2.1 _) M hI) (fun v M' h => ?_))) ?_
      · obtain ⟨r, rfl, h⟩ := h
        exact And.intro h1 (q_C.mono h (fun v' M'' h' => by obtain ⟨rfl, hI'⟩ := h'; exact br_t rfl (nx M'' hI')))
      refine And.intro (fun _ => And.intro h1 (q_C.mono ((hops.2.2.2.2.2.2.2.1 _) M hI) (fun v M' h => ?_))) ?_
      · obtain ⟨r, rfl, h⟩ := h
        exact And.intro h1 (q_C.mono h (fun v' M'' h' => by obtain ⟨rfl, hI'⟩ := h'; exact br_t rfl (nx M'' hI')))
      refine And.intro (fun _ => And.intro h1 (And.intro h2 (q_C.mono ((hops.2.2.2.2.2.2.2.2.1 _ _) M hI) (fun v M' h => ?_)))) ?_
      · obtain ⟨r, rfl, h⟩ := h
        exact And.intro h1 (And.intro h2 (q_C.mono h (fun v' M'' h' => by obtain ⟨rfl, hI'⟩ := h'; exact br_t rfl (nx M'' hI'))))
      refine And.intro (fun _ => And.intro h1 (And.intro h2 (q_C.mono ((hops.2.2.2.2.2.2.2.2.2.1 _ _) M hI) (fun v M' h => ?_)))) ?_
      · obtain ⟨r, rfl, h⟩ := h
        exact And.intro h1 (And.intro h2 (q_C.mono h (fun v' M'' h' => by obtain ⟨rfl, hI'⟩ := h'; exact br_t rfl (nx M'' hI'))))
      refine And.intro (fun _ => And.intro h1 (And.intro h2 (q_C.mono ((hops.2.2.2.2.2.2.2.2.2.2.1 _ _) M hI) (fun v M' h => ?_)))) ?_
      · obtain ⟨r, rfl, h⟩ := h
        exact And.intro h1 (And.intro h2 (q_C.mono h (fun v' M'' h' => by obtain ⟨rfl, hI'⟩ := h'; exact br_t rfl (nx M'' hI'))))
      refine And.intro (fun _ => And.intro h1 (And.intro h2 (q_C.mono ((hops.2.2.2.2.2.2.2.2.2.2.2.1 _ _) M hI) (fun v M' h => ?_)))) ?_
      · obtain ⟨r, rfl, h⟩ := h
        exact And.intro h1 (And.intro h2 (q_C.mono h (fun v' M'' h' => by obtain ⟨rfl, hI'⟩ := h'; exact br_t rfl (nx M'' hI'))))
      refine And.intro (fun _ => And.intro h1 (And.intro h2 (q_C.mono ((hops.2.2.2.2.2.2.2.2.2.2.2.2.1 _ _) M hI) (fun v M' h => ?_)))) ?_
      · obtain ⟨r, rfl, h⟩ := h
        exact And.intro h1 (And.intro h2 (q_C.mono h (fun v' M'' h' => by obtain ⟨rfl, hI'⟩ := h'; exact br_t rfl (nx M'' hI'))))
      refine And.intro (fun _ => And.intro h1 (And.intro h2 (q_C.mono ((hops.2.2.2.2.2.2.2.2.2.2.2.2.2.1 _ _) M hI) (fun v M' h => ?_)))) ?_
      · obtain ⟨r, rfl, h⟩ := h
        exact And.intro h1 (And.intro h2 (q_C.mono h (fun v' M'' h' => by obtain ⟨rfl, hI'⟩ := h'; exact br_t rfl (nx M'' hI'))))
      refine And.intro (fun _ => And.intro h1 (And.intro h2 (And.intro h3 (q_C.mono ((hops.2.2.2.2.2.2.2.2.2.2.2.2.2.2.1 _ _ _) M hI) (fun v M' h => ?_))))) ?_
      · obtain ⟨r, rfl, h⟩ := h
        exact And.intro h1 (And.intro h2 (And.intro h3 (q_C.mono h (fun v' M'' h' => by obtain ⟨rfl, hI'⟩ := h'; exact br_t rfl (nx M'' hI')))))
      refine And.intro (fun _ => And.intro h1 (And.intro h2 (q_C.mono ((hops.2.2.2.2.2.2.2.2.2.2.2.2.2.2.2.1 _ _) M hI) (fun v M' h => ?_)))) ?_
      · obtain ⟨r, rfl, h⟩ := h
        exact And.intro h1 (And.intro h2 (q_C.mono h (fun v' M'' h' => by obtain ⟨rfl, hI'⟩ := h'; exact br_t rfl (nx M'' hI'))))
      refine And.intro (fun _ => And.intro h1 (q_C.mono ((hops.2.2.2.2.2.2.2.2.2.2.2.2.2.2.2.2.1 _) M hI) (fun v M' h => ?_))) ?_
      · obtain ⟨r, rfl, h⟩ := h
        exact And.intro h1 (q_C.mono h (fun v' M'' h' => by obtain ⟨rfl, hI'⟩ := h'; exact br_t rfl (nx M'' hI')))
      refine And.intro (fun _ => And.intro h1 (And.intro h2 (And.intro h3 (q_C.mono ((hops.2.2.2.2.2.2.2.2.2.2.2.2.2.2.2.2.2.1 _ _ _) M hI) (fun v M' h => ?_))))) ?_
      · obtain ⟨r, rfl, h⟩ := h
        exact And.intro h1 (And.intro h2 (And.intro h3 (q_C.mono h (fun v' M'' h' => by obtain ⟨rfl, hI'⟩ := h'; exact br_t rfl (nx M'' hI')))))
      refine And.intro (fun _ => And.intro h1 (And.intro h2 (q_C.mono ((hops.2.2.2.2.2.2.2.2.2.2.2.2.2.2.2.2.2.2.1 _ _) M hI) (fun v M' h => ?_)))) ?_
      · obtain ⟨r, rfl, h⟩ := h
        exact And.intro h1 (And.intro h2 (q_C.mono h (fun v' M'' h' => by obtain ⟨rfl, hI'⟩ := h'; exact br_t rfl (nx M'' hI'))))
      refine And.intro (fun _ => And.intro h1 (q_C.mono ((hops.2.2.2.2.2.2.2.2.2.2.2.2.2.2.2.2.2.2.2.1 _) M hI) (fun v M' h => ?_))) ?_
      · obtain ⟨r, rfl, h⟩ := h
        exact And.intro h1 (q_C.mono h (fun v' M'' h' => by obtain ⟨rfl, hI'⟩ := h'; exact br_t rfl (nx M'' hI')))
      refine And.intro (fun _ => And.intro h1 (q_C.mono ((hops.2.2.2.2.2.2.2.2.2.2.2.2.2.2.2.2.2.2.2.2.1 _) M hI) (fun v M' h => ?_))) ?_
      · obtain ⟨r, rfl, h⟩ := h
        exact And.intro h1 (q_C.mono h (fun v' M'' h' => by obtain ⟨rfl, hI'⟩ := h'; exact br_t rfl (nx M'' hI')))
      refine And.intro (fun _ => And.intro h1 (And.intro h2 (q_C.mono ((hops.2.2.2.2.2.2.2.2.2.2.2.2.2.2.2.2.2.2.2.2.2.1 _ _) M hI) (fun v M' h => ?_)))) ?_
      · obtain ⟨r, rfl, h⟩ := h
        exact And.intro h1 (And.intro h2 (q_C.mono h (fun v' M'' h' => by obtain ⟨rfl, hI'⟩ := h'; exact br_t rfl (nx M'' hI'))))
      refine And.intro (fun _ => q_C.mono (hops.2.2.2.2.2.2.2.2.2.2.2.2.2.2.2.2.2.2.2.2.2.2.1 M hI) (fun v M' h => ?_)) ?_
      · obtain ⟨r, rfl, h⟩ := h
        exact q_C.mono h (fun v' M'' h' => by obtain ⟨rfl, hI'⟩ := h'; exact br_t rfl (nx M'' hI'))
      refine And.intro (fun _ => And.intro h1 (q_C.mono ((hops.2.2.2.2.2.2.2.2.2.2.2.2.2.2.2.2.2.2.2.2.2.2.2.1 _) M hI) (fun v M' h => ?_))) ?_
      · obtain ⟨r, rfl, h⟩ := h
        exact And.intro h1 (q_C.mono h (fun v' M'' h' => by obtain ⟨rfl, hI'⟩ := h'; exact br_t rfl (nx M'' hI')))
      refine And.intro (fun _ => And.intro h1 (q_C.mono ((hops.2.2.2.2.2.2.2.2.2.2.2.2.2.2.2.2.2.2.2.2.2.2.2.2.1 _) M hI) (fun v M' h => ?_))) ?_
      · obtain ⟨r, rfl, h⟩ := h
        exact And.intro h1 (q_C.mono h (fun v' M'' h' => by obtain ⟨rfl, hI'⟩ := h'; exact br_t rfl (nx M'' hI')))
      refine And.intro (fun _ => q_C.mono (hops.2.2.2.2.2.2.2.2.2.2.2.2.2.2.2.2.2.2.2.2.2.2.2.2.2.1 M hI) (fun v M' h => ?_)) ?_
      · obtain ⟨r, rfl, h⟩ := h
        exact q_C.mono h (fun v' M'' h' => by obtain ⟨rfl, hI'⟩ := h'; exact br_t rfl (nx M'' hI'))
      refine And.intro (fun _ => q_C.mono (hops.2.2.2.2.2.2.2.2.2.2.2.2.2.2.2.2.2.2.2.2.2.2.2.2.2.2.1 M hI) (fun v M' h => ?_)) ?_
      · obtain ⟨r, rfl, h⟩ := h
        exact q_C.mono h (fun v' M'' h' => by obtain ⟨rfl, hI'⟩ := h'; exact br_t rfl (nx M'' hI'))
      refine And.intro (fun _ => And.intro h1 (q_C.mono ((hops.2.2.2.2.2.2.2.2.2.2.2.2.2.2.2.2.2.2.2.2.2.2.2.2.2.2.2.1 _) M hI) (fun v M' h => ?_))) ?_
      · obtain ⟨r, rfl, h⟩ := h
        exact And.intro h1 (q_C.mono h (fun v' M'' h' => by obtain ⟨rfl, hI'⟩ := h'; exact br_t rfl (nx M'' hI')))
      refine And.intro (fun _ => And.intro h1 (And.intro h2 (And.intro h3 (q_C.mono ((hops.2.2.2.2.2.2.2.2.2.2.2.2.2.2.2.2.2.2.2.2.2.2.2.2.2.2.2.2.1 _ _ _) M hI) (fun v M' h => ?_))))) ?_
      · obtain ⟨r, rfl, h⟩ := h
        exact And.intro h1 (And.intro h2 (And.intro h3 (q_C.mono h (fun v' M'' h' => by obtain ⟨rfl, hI'⟩ := h'; exact br_t rfl (nx M'' hI')))))
      refine And.intro (fun _ => q_C.mono (hops.2.2.2.2.2.2.2.2.2.2.2.2.2.2.2.2.2.2.2.2.2.2.2.2.2.2.2.2.2.1 M hI) (fun v M' h => ?_)) ?_
      · obtain ⟨r, rfl, h⟩ := h
        exact q_C.mono h (fun v' M'' h' => by obtain ⟨rfl, hI'⟩ := h'; exact br_t rfl (nx M'' hI'))
      refine And.intro (fun _ => And.intro h1 (And.intro h2 (q_C.mono ((hops.2.2.2.2.2.2.2.2.2.2.2.2.2.2.2.2.2.2.2.2.2.2.2.2.2.2.2.2.2.2.1 _ _) M hI) (fun v M' h => ?_)))) ?_
      · obtain ⟨r, rfl, h⟩ := h
        exact And.intro h1 (And.intro h2 (q_C.mono h (fun v' M'' h' => by obtain ⟨rfl, hI'⟩ := h'; exact br_t rfl (nx M'' hI'))))
      refine And.intro (fun _ => And.intro h1 (And.intro h2 (And.intro h3 (And.intro h4 (q_C.mono ((hops.2.2.2.2.2.2.2.2.2.2.2.2.2.2.2.2.2.2.2.2.2.2.2.2.2.2.2.2.2.2.2.1 _ _ _ _) M hI) (fun v M' h => ?_)))))) ?_
      · obtain ⟨r, rfl, h⟩ := h
        exact And.intro h1 (And.intro h2 (And.intro h3 (And.intro h4 (q_C.mono h (fun v' M'' h' => by obtain ⟨rfl, hI'⟩ := h'; exact br_t rfl (nx M'' hI'))))))
      refine And.intro (fun _ => And.intro h1 (And.intro h2 (q_C.mono ((hops.2.2.2.2.2.2.2.2.2.2.2.2.2.2.2.2.2.2.2.2.2.2.2.2.2.2.2.2.2.2.2.2.1 _ _) M hI) (fun v M' h => ?_)))) ?_
      · obtain ⟨r, rfl, h⟩ := h
        exact And.intro h1 (And.intro h2 (q_C.mono h (fun v' M'' h' => by obtain ⟨rfl, hI'⟩ := h'; exact br_t rfl (nx M'' hI'))))
      refine And.intro (fun _ => And.intro h1 (And.intro h2 (q_C.mono ((hops.2.2.2.2.2.2.2.2.2.2.2.2.2.2.2.2.2.2.2.2.2.2.2.2.2.2.2.2.2.2.2.2.2.1 _ _) M hI) (fun v M' h => ?_)))) ?_
      · obtain ⟨r, rfl, h⟩ := h
        exact And.intro h1 (And.intro h2 (q_C.mono h (fun v' M'' h' => by obtain ⟨rfl, hI'⟩ := h'; exact br_t rfl (nx M'' hI'))))
      refine And.intro (fun _ => And.intro h1 (q_C.mono ((hops.2.2.2.2.2.2.2.2.2.2.2.2.2.2.2.2.2.2.2.2.2.2.2.2.2.2.2.2.2.2.2.2.2.2.1 _) M hI) (fun v M' h => ?_))) ?_
      · obtain ⟨r, rfl, h⟩ := h
        exact And.intro h1 (q_C.mono h (fun v' M'' h' => by obtain ⟨rfl, hI'⟩ := h'; exact br_t rfl (nx M'' hI')))
      refine And.intro (fun _ => And.intro h1 (q_C.mono ((hops.2.2.2.2.2.2.2.2.2.2.2.2.2.2.2.2.2.2.2.2.2.2.2.2.2.2.2.2.2.2.2.2.2.2.2.1 _) M hI) (fun v M' h => ?_))) ?_
      · obtain ⟨r, rfl, h⟩ := h
        exact And.intro h1 (q_C.mono h (fun v' M'' h' => by obtain ⟨rfl, hI'⟩ := h'; exact br_t rfl (nx M'' hI')))
      refine And.intro (fun _ => And.intro h1 ?_) ?_
      · refine q_invR (rc := rc + 4 * n) (rs := rs + 600 * n) (c1 := 4) (s1 := 600) (as := [.int _]) (rest := []) (r := 2) ((hops.2.2.2.2.2.2.2.2.2.2.2.2.2.2.2.2.2.2.2.2.2.2.2.2.2.2.2.2.2.2.2.2.2.2.2.2.1 _) M hI) rfl (show vwCl[12]? = some (RX11, TX11, 17) from rfl) rfl (q_in_mem (j := 1627) (by decide +kernel)) (q_in_mem (j := 1628) (by decide +kernel)) (q_in_mem (j := 1629) (by decide +kernel)) (q_in_mem (j := 206) (by decide +kernel)) (q_ok.1 nX11_sheet (Nat.le_of_ble_eq_true rfl)).2.2.1 (q_yok.el (show q_yok (q_mt nX11_sheet) 1 = true by decide +kernel)) (q_ok.1 nX11_sheet (Nat.le_of_ble_eq_true rfl)).2.2.2.1 (Nat.le_of_ble_eq_true rfl) (q_dec (mt := q_mt) (me := mL_law) kaL_law (r := (1270, .invokevirtual 164, 3, [1, 205, 1, 12, 1627, 1628, 1629, 206])) (List.mem_of_getElem? (i := 820) rfl)) (fun v M' h => ?_)
        obtain ⟨r, rfl, h⟩ := h
        refine q_goY (Q := fun v _ => v = some (.int 1)) q_ok (fun v M' h => by rw [h]; exact hY M') kaL_law 200 [18] ?_
        exact And.intro h1 (q_C.mono h (fun v' M'' h' => by obtain ⟨rfl, hI'⟩ := h'; exact br_t rfl (nx0 M'' hI')))
      refine And.intro (fun _ => And.intro h1 (And.intro h2 (And.intro h3 (q_C.mono ((hops.2.2.2.2.2.2.2.2.2.2.2.2.2.2.2.2.2.2.2.2.2.2.2.2.2.2.2.2.2.2.2.2.2.2.2.2.2.1 _ _ _) M hI) (fun v M' h => ?_))))) ?_
      · obtain ⟨r, rfl, h⟩ := h
        exact And.intro h1 (And.intro h2 (And.intro h3 (q_C.mono h (fun v' M'' h' => by obtain ⟨rfl, hI'⟩ := h'; exact br_t rfl (nx M'' hI')))))
      refine And.intro (fun _ => And.intro h1 (And.intro h2 (q_C.mono ((hops.2.2.2.2.2.2.2.2.2.2.2.2.2.2.2.2.2.2.2.2.2.2.2.2.2.2.2.2.2.2.2.2.2.2.2.2.2.2.1 _ _) M hI) (fun v M' h => ?_)))) ?_
      · obtain ⟨r, rfl, h⟩ := h
        exact And.intro h1 (And.intro h2 (q_C.mono h (fun v' M'' h' => by obtain ⟨rfl, hI'⟩ := h'; exact br_t rfl (nx M'' hI'))))
      refine And.intro (fun _ => And.intro h1 (And.intro h2 (And.intro h3 (q_C.mono ((hops.2.2.2.2.2.2.2.2.2.2.2.2.2.2.2.2.2.2.2.2.2.2.2.2.2.2.2.2.2.2.2.2.2.2.2.2.2.2.2.1 _ _ _) M hI) (fun v M' h => ?_))))) ?_
      · obtain ⟨r, rfl, h⟩ := h
        exact And.intro h1 (And.intro h2 (And.intro h3 (q_C.mono h (fun v' M'' h' => by obtain ⟨rfl, hI'⟩ := h'; exact br_t rfl (nx M'' hI')))))
      refine And.intro (fun _ => And.intro h1 (And.intro h2 (And.intro h3 (q_C.mono ((hops.2.2.2.2.2.2.2.2.2.2.2.2.2.2.2.2.2.2.2.2.2.2.2.2.2.2.2.2.2.2.2.2.2.2.2.2.2.2.2.2.1 _ _ _) M hI) (fun v M' h => ?_))))) ?_
      · obtain ⟨r, rfl, h⟩ := h
        exact And.intro h1 (And.intro h2 (And.intro h3 (q_C.mono h (fun v' M'' h' => by obtain ⟨rfl, hI'⟩ := h'; exact br_t rfl (nx M'' hI')))))
      refine And.intro (fun _ => And.intro h1 (And.intro h2 (q_C.mono ((hops.2.2.2.2.2.2.2.2.2.2.2.2.2.2.2.2.2.2.2.2.2.2.2.2.2.2.2.2.2.2.2.2.2.2.2.2.2.2.2.2.2.1 _ _) M hI) (fun v M' h => ?_)))) ?_
      · obtain ⟨r, rfl, h⟩ := h
        exact And.intro h1 (And.intro h2 (q_C.mono h (fun v' M'' h' => by obtain ⟨rfl, hI'⟩ := h'; exact br_t rfl (nx M'' hI'))))
      refine And.intro (fun _ => And.intro h1 (And.intro h2 (q_C.mono ((hops.2.2.2.2.2.2.2.2.2.2.2.2.2.2.2.2.2.2.2.2.2.2.2.2.2.2.2.2.2.2.2.2.2.2.2.2.2.2.2.2.2.2.1 _ _) M hI) (fun v M' h => ?_)))) ?_
      · obtain ⟨r, rfl, h⟩ := h
        exact And.intro h1 (And.intro h2 (q_C.mono h (fun v' M'' h' => by obtain ⟨rfl, hI'⟩ := h'; exact br_t rfl (nx M'' hI'))))
      refine And.intro (fun _ => And.intro h1 (And.intro h2 (q_C.mono ((hops.2.2.2.2.2.2.2.2.2.2.2.2.2.2.2.2.2.2.2.2.2.2.2.2.2.2.2.2.2.2.2.2.2.2.2.2.2.2.2.2.2.2.2.1 _ _) M hI) (fun v M' h => ?_)))) ?_
      · obtain ⟨r, rfl, h⟩ := h
        exact And.intro h1 (And.intro h2 (q_C.mono h (fun v' M'' h' => by obtain ⟨rfl, hI'⟩ := h'; exact br_t rfl (nx M'' hI'))))
      refine And.intro (fun _ => And.intro h1 (And.intro h2 (q_C.mono ((hops.2.2.2.2.2.2.2.2.2.2.2.2.2.2.2.2.2.2.2.2.2.2.2.2.2.2.2.2.2.2.2.2.2.2.2.2.2.2.2.2.2.2.2.2.1 _ _) M hI) (fun v M' h => ?_)))) ?_
      · obtain ⟨r, rfl, h⟩ := h
        exact And.intro h1 (And.intro h2 (q_C.mono h (fun v' M'' h' => by obtain ⟨rfl, hI'⟩ := h'; exact br_t rfl (nx M'' hI'))))
      refine And.intro (fun _ => And.intro h1 (And.intro h2 (q_C.mono ((hops.2.2.2.2.2.2.2.2.2.2.2.2.2.2.2.2.2.2.2.2.2.2.2.2.2.2.2.2.2.2.2.2.2.2.2.2.2.2.2.2.2.2.2.2.2.1 _ _) M hI) (fun v M' h => ?_)))) ?_
      · obtain ⟨r, rfl, h⟩ := h
        exact And.intro h1 (And.intro h2 (q_C.mono h (fun v' M'' h' => by obtain ⟨rfl, hI'⟩ := h'; exact br_t rfl (nx M'' hI'))))
      refine And.intro (fun _ => And.intro h1 (q_C.mono ((hops.2.2.2.2.2.2.2.2.2.2.2.2.2.2.2.2.2.2.2.2.2.2.2.2.2.2.2.2.2.2.2.2.2.2.2.2.2.2.2.2.2.2.2.2.2.2.1 _) M hI) (fun v M' h => ?_))) ?_
      · obtain ⟨r, rfl, h⟩ := h
        exact And.intro h1 (q_C.mono h (fun v' M'' h' => by obtain ⟨rfl, hI'⟩ := h'; exact br_t rfl (nx M'' hI')))
      refine And.intro (fun _ => And.intro h1 (q_C.mono ((hops.2.2.2.2.2.2.2.2.2.2.2.2.2.2.2.2.2.2.2.2.2.2.2.2.2.2.2.2.2.2.2.2.2.2.2.2.2.2.2.2.2.2.2.2.2.2.2.1 _) M hI) (fun v M' h => ?_))) ?_
      · obtain ⟨r, rfl, h⟩ := h
        exact And.intro h1 (q_C.mono h (fun v' M'' h' => by obtain ⟨rfl, hI'⟩ := h'; exact br_t rfl (nx M'' hI')))
      refine And.intro (fun _ => And.intro h1 (And.intro h2 (q_C.mono ((hops.2.2.2.2.2.2.2.2.2.2.2.2.2.2.2.2.2.2.2.2.2.2.2.2.2.2.2.2.2.2.2.2.2.2.2.2.2.2.2.2.2.2.2.2.2.2.2.2.1 _ _) M hI) (fun v M' h => ?_)))) ?_
      · obtain ⟨r, rfl, h⟩ := h
        exact And.intro h1 (And.intro h2 (q_C.mono h (fun v' M'' h' => by obtain ⟨rfl, hI'⟩ := h'; exact br_t rfl (nx M'' hI'))))
      refine And.intro (fun _ => And.intro h1 (And.intro h2 (And.intro h3 (q_C.mono ((hops.2.2.2.2.2.2.2.2.2.2.2.2.2.2.2.2.2.2.2.2.2.2.2.2.2.2.2.2.2.2.2.2.2.2.2.2.2.2.2.2.2.2.2.2.2.2.2.2.2.1 _ _ _) M hI) (fun v M' h => ?_))))) ?_
      · obtain ⟨r, rfl, h⟩ := h
        exact And.intro h1 (And.intro h2 (And.intro h3 (q_C.mono h (fun v' M'' h' => by obtain ⟨rfl, hI'⟩ := h'; exact br_t rfl (nx M'' hI')))))
      refine And.intro (fun _ => And.intro h1 (q_C.mono ((hops.2.2.2.2.2.2.2.2.2.2.2.2.2.2.2.2.2.2.2.2.2.2.2.2.2.2.2.2.2.2.2.2.2.2.2.2.2.2.2.2.2.2.2.2.2.2.2.2.2.2.1 _) M hI) (fun v M' h => ?_))) ?_
      · obtain ⟨r, rfl, h⟩ := h
        exact And.intro h1 (q_C.mono h (fun v' M'' h' => by obtain ⟨rfl, hI'⟩ := h'; exact br_t rfl (nx M'' hI')))
      refine And.intro (fun _ => And.intro h1 (q_C.mono ((hops.2.2.2.2.2.2.2.2.2.2.2.2.2.2.2.2.2.2.2.2.2.2.2.2.2.2.2.2.2.2.2.2.2.2.2.2.2.2.2.2.2.2.2.2.2.2.2.2.2.2.2 _) M hI) (fun v M' h => ?_))) ?_
      · obtain ⟨r, rfl, h⟩ := h
        exact And.intro h1 (q_C.mono h (fun v' M'' h' => by obtain ⟨rfl, hI'⟩ := h'; exact br_t rfl (nx M'' hI')))
      exact trivial
end LW
