/-! THE LAW'S LOOP, out of what each call owes (written by wip/whole/gen4.py) -/
/-- a call of both sides, one behind the other: the same answer, and the invariant behind it -/
def q_opOK (Z : q_Z) (E : q_E) (I : q_M → Prop) (mi mj d : Nat) (as : List Value) : Prop := ∀ M, I M → q_C q_mt Z E mi d 0 0 (.ref 2 :: as) M (fun v M' => ∃ r : Int32, v = some (.int r) ∧ q_C q_mt Z E mj d 0 0 (.ref 271 :: as) M' (fun v' M'' => v' = some (.int r) ∧ I M''))
def q_ops (Z : q_Z) (E : q_E) (I : q_M → Prop) (d : Nat) : Prop := (∀ a b c e f : Int32, q_opOK Z E I nX11_feed nX12_feed d [.int a, .int b, .int c, .int e, .int f]) ∧ (∀ a : Int32, q_opOK Z E I nX11_end nX12_end d [.int a]) ∧ (q_opOK Z E I nX11_meet nX12_meet d []) ∧ (q_opOK Z E I nX11_script nX12_script d []) ∧ (∀ a : Int32, q_opOK Z E I nX11_fault nX12_fault d [.int a]) ∧ (q_opOK Z E I nX11_stopped nX12_stopped d []) ∧ (∀ a : Int32, q_opOK Z E I nX11_named nX12_named d [.int a]) ∧ (∀ a : Int32, q_opOK Z E I nX11_look nX12_look d [.int a]) ∧ (∀ a b : Int32, q_opOK Z E I nX11_dive nX12_dive d [.int a, .int b]) ∧ (∀ a b : Int32, q_opOK Z E I nX11_entrant nX12_entrant d [.int a, .int b]) ∧ (∀ a b : Int32, q_opOK Z E I nX11_judge nX12_judge d [.int a, .int b]) ∧ (∀ a b : Int32, q_opOK Z E I nX11_list nX12_list d [.int a, .int b]) ∧ (∀ a b : Int32, q_opOK Z E I nX11_form nX12_form d [.int a, .int b]) ∧ (∀ a b : Int32, q_opOK Z E I nX11_cut nX12_cut d [.int a, .int b]) ∧ (∀ a b c : Int32, q_opOK Z E I nX11_law nX12_law d [.int a, .int b, .int c]) ∧ (∀ a b : Int32, q_opOK Z E I nX11_breaks nX12_breaks d [.int a, .int b]) ∧ (∀ a : Int32, q_opOK Z E I nX11_ways nX12_ways d [.int a]) ∧ (∀ a b c : Int32, q_opOK Z E I nX11_way nX12_way d [.int a, .int b, .int c]) ∧ (∀ a b : Int32, q_opOK Z E I nX11_best nX12_best d [.int a, .int b]) ∧ (∀ a : Int32, q_opOK Z E I nX11_board nX12_board d [.int a]) ∧ (∀ a : Int32, q_opOK Z E I nX11_marked nX12_marked d [.int a]) ∧ (∀ a b : Int32, q_opOK Z E I nX11_mark nX12_mark d [.int a, .int b]) ∧ (q_opOK Z E I nX11_balk nX12_balk d []) ∧ (∀ a : Int32, q_opOK Z E I nX11_cap nX12_cap d [.int a]) ∧ (∀ a : Int32, q_opOK Z E I nX11_half nX12_half d [.int a]) ∧ (q_opOK Z E I nX11_fail nX12_fail d []) ∧ (q_opOK Z E I nX11_give nX12_give d []) ∧ (∀ a : Int32, q_opOK Z E I nX11_out nX12_out d [.int a]) ∧ (∀ a b c : Int32, q_opOK Z E I nX11_change nX12_change d [.int a, .int b, .int c]) ∧ (q_opOK Z E I nX11_undo nX12_undo d []) ∧ (∀ a b : Int32, q_opOK Z E I nX11_points nX12_points d [.int a, .int b]) ∧ (∀ a b c e : Int32, q_opOK Z E I nX11_award nX12_award d [.int a, .int b, .int c, .int e]) ∧ (∀ a b : Int32, q_opOK Z E I nX11_kept nX12_kept d [.int a, .int b]) ∧ (∀ a b : Int32, q_opOK Z E I nX11_total nX12_total d [.int a, .int b]) ∧ (∀ a : Int32, q_opOK Z E I nX11_rank nX12_rank d [.int a]) ∧ (∀ a : Int32, q_opOK Z E I nX11_at nX12_at d [.int a]) ∧ (∀ a : Int32, q_opOK Z E I nX11_sheet nX12_sheet d [.int a]) ∧ (∀ a b c : Int32, q_opOK Z E I nX11_worth nX12_worth d [.int a, .int b, .int c]) ∧ (∀ a b : Int32, q_opOK Z E I nX11_needs nX12_needs d [.int a, .int b]) ∧ (∀ a b c : Int32, q_opOK Z E I nX11_swing nX12_swing d [.int a, .int b, .int c]) ∧ (∀ a b c : Int32, q_opOK Z E I nX11_bribes nX12_bribes d [.int a, .int b, .int c]) ∧ (∀ a b : Int32, q_opOK Z E I nX11_bias nX12_bias d [.int a, .int b]) ∧ (∀ a b : Int32, q_opOK Z E I nX11_alike nX12_alike d [.int a, .int b]) ∧ (∀ a b : Int32, q_opOK Z E I nX11_dropped nX12_dropped d [.int a, .int b]) ∧ (∀ a b : Int32, q_opOK Z E I nX11_without nX12_without d [.int a, .int b]) ∧ (∀ a b : Int32, q_opOK Z E I nX11_asDrop nX12_asDrop d [.int a, .int b]) ∧ (∀ a : Int32, q_opOK Z E I nX11_expected nX12_expected d [.int a]) ∧ (∀ a : Int32, q_opOK Z E I nX11_goes nX12_goes d [.int a]) ∧ (∀ a b : Int32, q_opOK Z E I nX11_order nX12_order d [.int a, .int b]) ∧ (∀ a b c : Int32, q_opOK Z E I nX11_wins nX12_wins d [.int a, .int b, .int c]) ∧ (∀ a : Int32, q_opOK Z E I nX11_keep nX12_keep d [.int a]) ∧ (∀ a : Int32, q_opOK Z E I nX11_back nX12_back d [.int a])
section LW
variable {L : Nat} {xs : Nat → Int32} {E : q_E} {I : q_M → Prop} {d rc rs : Nat} {Y : Array Value → State → Outcome → State → Prop}
theorem law_in {t j : Nat} (hL : L ≤ 3072) (h : 6 * t + 6 ≤ L) (hj : j ≤ 5) : q_in0 (nI (6 * t) + Int32.ofInt (j : Int)) L := by
  have e : Int32.ofInt (j : Int) = nI j := rfl
  rw [e, nI_add]
  exact q_n1 (by omega) (by omega)
set_option maxRecDepth 1000000 in
set_option maxHeartbeats 40000000 in
theorem law_loop (hL : L ≤ 3072) (hY : ∀ M, q_Y (L, xs, q_shp) E Y (some (.int 1)) M) (hops : q_ops (L, xs, q_shp) E I d) : ∀ (n t : Nat) (M : q_M), L ≤ 6 * (t + n) + 5 → 6 * t ≤ L → I M → q_G q_mt (L, xs, q_shp) E nL_law (d + 1) rc rs Y 18 [some (.ref 0), some (.ref 2), some (.ref 271), some (.int (nI (6 * t)))] [] M
  | n, t, M, hn, ht0, hI => by
    refine q_goY (Q := fun v _ => v = some (.int 1)) q_ok (fun v M' h => by rw [h]; exact hY M') kaL_law 200 [18] ?_
    have eL : (Int32.ofNat L - Int32.ofInt 6).toInt = (L : Int) - 6 := by
      have e1 : (Int32.ofNat L).toInt = (L : Int) := nI_toInt (by omega)
      have e2 : (Int32.ofInt 6).toInt = 6 := by decide
      rw [q_sub (by omega) (by omega), e1, e2]
    refine And.intro (fun _ => And.intro (Or.inr rfl) rfl) (fun q => ?_)
    have q : ¬ (Int32.ofNat L - Int32.ofInt 6) < nI (6 * t) := q
    have ht : 6 * t + 6 ≤ L := by
      rw [Int32.lt_iff_toInt_lt, eL, nI_toInt (by omega)] at q
      omega
    match n, hn with
    | 0, hn => omega
    | n + 1, hn =>
      have nx : ∀ M', I M' → q_G q_mt (L, xs, q_shp) E nL_law (d + 1) rc rs Y 18 [some (.ref 0), some (.ref 2), some (.ref 271), some (.int (nI (6 * t) + Int32.ofInt 6))] [] M' := by
        intro M' hI'
        have e : nI (6 * t) + Int32.ofInt 6 = nI (6 * (t + 1)) := nI_add (6 * t) 6
        rw [e]
        exact law_loop hL hY hops n (t + 1) M' (by omega) (by omega) hI'
      have h0 : q_in0 (nI (6 * t)) L := q_n1 (by omega) (by omega)
      have h1 := law_in (j := 1) hL ht (by omega)
      have h2 := law_in (j := 2) hL ht (by omega)
      have h3 := law_in (j := 3) hL ht (by omega)
      have h4 := law_in (j := 4) hL ht (by omega)
      have h5 := law_in (j := 5) hL ht (by omega)
      refine And.intro h0 (And.intro (fun _ => nx M hI) ?_)
      refine And.intro (fun _ => And.intro h1 (And.intro h2 (And.intro h3 (And.intro h4 (And.intro h5 (q_C.mono ((hops.1 _ _ _ _ _) M hI) (fun v M' h => ?_))))))) ?_
      · obtain ⟨r, rfl, h⟩ := h
        exact And.intro h1 (And.intro h2 (And.intro h3 (And.intro h4 (And.intro h5 (q_C.mono h (fun v' M'' h' => by obtain ⟨rfl, hI'⟩ := h'; exact br_t rfl (nx M'' hI')))))))
      refine And.intro (fun _ => And.intro h1 (q_C.mono ((hops.2.1 _) M hI) (fun v M' h => ?_))) ?_
      · obtain ⟨r, rfl, h⟩ := h
        exact And.intro h1 (q_C.mono h (fun v' M'' h' => by obtain ⟨rfl, hI'⟩ := h'; exact br_t rfl (nx M'' hI')))
      refine And.intro (fun _ => q_C.mono (hops.2.2.1 M hI) (fun v M' h => ?_)) ?_
      · obtain ⟨r, rfl, h⟩ := h
        exact q_C.mono h (fun v' M'' h' => by obtain ⟨rfl, hI'⟩ := h'; exact br_t rfl (nx M'' hI'))
      refine And.intro (fun _ => q_C.mono (hops.2.2.2.1 M hI) (fun v M' h => ?_)) ?_
      · obtain ⟨r, rfl, h⟩ := h
        exact q_C.mono h (fun v' M'' h' => by obtain ⟨rfl, hI'⟩ := h'; exact br_t rfl (nx M'' hI'))
      refine And.intro (fun _ => And.intro h1 (q_C.mono ((hops.2.2.2.2.1 _) M hI) (fun v M' h => ?_))) ?_
      · obtain ⟨r, rfl, h⟩ := h
        exact And.intro h1 (q_C.mono h (fun v' M'' h' => by obtain ⟨rfl, hI'⟩ := h'; exact br_t rfl (nx M'' hI')))
      refine And.intro (fun _ => q_C.mono (hops.2.2.2.2.2.1 M hI) (fun v M' h => ?_)) ?_
      · obtain ⟨r, rfl, h⟩ := h
        exact q_C.mono h (fun v' M'' h' => by obtain ⟨rfl, hI'⟩ := h'; exact br_t rfl (nx M'' hI'))
      refine And.intro (fun _ => And.intro h1 (q_C.mono ((hops.2.2.2.2.2.2.1 _) M hI) (fun v M' h => ?_))) ?_
      · obtain ⟨r, rfl, h⟩ := h
        exact And.intro h1 (q_C.mono h (fun v' M'' h' => by obtain ⟨rfl, hI'⟩ := h'; exact br_t rfl (nx M'' hI')))
      refine And.intro (fun _ => And.intro h1 (q_C.mono ((hops.2.2.2.2.2.2.2.1 _) M hI) (fun v M' h => ?_))) ?_
      · obtain ⟨r, rfl, h⟩ := h
        exact And.intro h1 (q_C.mono h (fun v' M'' h' => by obtain ⟨rfl, hI'⟩ := h'; exact br_t rfl (nx M'' hI')))
      refine And.intro (fun _ => And.intro h1 (And.intro h2 (q_C.mono ((hops.2.2.2.2.2.2.2.2.1 _ _) M hI) (fun v M' h => ?_)))) ?_
      · obtain ⟨r, rfl, h⟩ := h
        exact And.intro h1 (And.intro h2 (q_C.mono h (fun v' M'' h' => by obtain ⟨rfl, hI'⟩ := h'; exact br_t rfl (nx M'' hI'))))
      refine And.intro (fun _ => And.intro h1 (And.intro h2 (q_C.mono ((hops.2.2.2.2.2.2.2.2.2.1 _ _) M hI) (fun v M' h => ?_)))) ?_
      · obtain ⟨r, rfl, h⟩ := h
        exact And.intro h1 (And.intro h2 (q_C.mono h (fun v' M'' h' => by obtain ⟨rfl, hI'⟩ := h'; exact br_t rfl (nx M'' hI'))))
      refine And.intro (fun _ => And.intro h1 (And.intro h2 (q_C.mono ((hops.2.2.2.2.2.2.2.2.2.2.1 _ _) M hI) (fun v M' h => ?_)))) ?_
      · obtain ⟨r, rfl, h⟩ := h
        exact And.intro h1 (And.intro h2 (q_C.mono h (fun v' M'' h' => by obtain ⟨rfl, hI'⟩ := h'; exact br_t rfl (nx M'' hI'))))
      refine And.intro (fun _ => And.intro h1 (And.intro h2 (q_C.mono ((hops.2.2.2.2.2.2.2.2.2.2.2.1 _ _) M hI) (fun v M' h => ?_)))) ?_
      · obtain ⟨r, rfl, h⟩ := h
        exact And.intro h1 (And.intro h2 (q_C.mono h (fun v' M'' h' => by obtain ⟨rfl, hI'⟩ := h'; exact br_t rfl (nx M'' hI'))))
      refine And.intro (fun _ => And.intro h1 (And.intro h2 (q_C.mono ((hops.2.2.2.2.2.2.2.2.2.2.2.2.1 _ _) M hI) (fun v M' h => ?_)))) ?_
      · obtain ⟨r, rfl, h⟩ := h
        exact And.intro h1 (And.intro h2 (q_C.mono h (fun v' M'' h' => by obtain ⟨rfl, hI'⟩ := h'; exact br_t rfl (nx M'' hI'))))
      refine And.intro (fun _ => And.intro h1 (And.intro h2 (q_C.mono ((hops.2.2.2.2.2.2.2.2.2.2.2.2.2.1 _ _) M hI) (fun v M' h => ?_)))) ?_
      · obtain ⟨r, rfl, h⟩ := h
        exact And.intro h1 (And.intro h2 (q_C.mono h (fun v' M'' h' => by obtain ⟨rfl, hI'⟩ := h'; exact br_t rfl (nx M'' hI'))))
      refine And.intro (fun _ => And.intro h1 (And.intro h2 (And.intro h3 (q_C.mono ((hops.2.2.2.2.2.2.2.2.2.2.2.2.2.2.1 _ _ _) M hI) (fun v M' h => ?_))))) ?_
      · obtain ⟨r, rfl, h⟩ := h
        exact And.intro h1 (And.intro h2 (And.intro h3 (q_C.mono h (fun v' M'' h' => by obtain ⟨rfl, hI'⟩ := h'; exact br_t rfl (nx M'' hI')))))
      refine And.intro (fun _ => And.intro h1 (And.intro h2 (q_C.mono ((hops.2.2.2.2.2.2.2.2.2.2.2.2.2.2.2.1 _ _) M hI) (fun v M' h => ?_)))) ?_
      · obtain ⟨r, rfl, h⟩ := h
        exact And.intro h1 (And.intro h2 (q_C.mono h (fun v' M'' h' => by obtain ⟨rfl, hI'⟩ := h'; exact br_t rfl (nx M'' hI'))))
      refine And.intro (fun _ => And.intro h1 (q_C.mono ((hops.2.2.2.2.2.2.2.2.2.2.2.2.2.2.2.2.1 _) M hI) (fun v M' h => ?_))) ?_
      · obtain ⟨r, rfl, h⟩ := h
        exact And.intro h1 (q_C.mono h (fun v' M'' h' => by obtain ⟨rfl, hI'⟩ := h'; exact br_t rfl (nx M'' hI')))
      refine And.intro (fun _ => And.intro h1 (And.intro h2 (And.intro h3 (q_C.mono ((hops.2.2.2.2.2.2.2.2.2.2.2.2.2.2.2.2.2.1 _ _ _) M hI) (fun v M' h => ?_))))) ?_
      · obtain ⟨r, rfl, h⟩ := h
        exact And.intro h1 (And.intro h2 (And.intro h3 (q_C.mono h (fun v' M'' h' => by obtain ⟨rfl, hI'⟩ := h'; exact br_t rfl (nx M'' hI')))))
      refine And.intro (fun _ => And.intro h1 (And.intro h2 (q_C.mono ((hops.2.2.2.2.2.2.2.2.2.2.2.2.2.2.2.2.2.2.1 _ _) M hI) (fun v M' h => ?_)))) ?_
      · obtain ⟨r, rfl, h⟩ := h
        exact And.intro h1 (And.intro h2 (q_C.mono h (fun v' M'' h' => by obtain ⟨rfl, hI'⟩ := h'; exact br_t rfl (nx M'' hI'))))
      refine And.intro (fun _ => And.intro h1 (q_C.mono ((hops.2.2.2.2.2.2.2.2.2.2.2.2.2.2.2.2.2.2.2.1 _) M hI) (fun v M' h => ?_))) ?_
      · obtain ⟨r, rfl, h⟩ := h
        exact And.intro h1 (q_C.mono h (fun v' M'' h' => by obtain ⟨rfl, hI'⟩ := h'; exact br_t rfl (nx M'' hI')))
      refine And.intro (fun _ => And.intro h1 (q_C.mono ((hops.2.2.2.2.2.2.2.2.2.2.2.2.2.2.2.2.2.2.2.2.1 _) M hI) (fun v M' h => ?_))) ?_
      · obtain ⟨r, rfl, h⟩ := h
        exact And.intro h1 (q_C.mono h (fun v' M'' h' => by obtain ⟨rfl, hI'⟩ := h'; exact br_t rfl (nx M'' hI')))
      refine And.intro (fun _ => And.intro h1 (And.intro h2 (q_C.mono ((hops.2.2.2.2.2.2.2.2.2.2.2.2.2.2.2.2.2.2.2.2.2.1 _ _) M hI) (fun v M' h => ?_)))) ?_
      · obtain ⟨r, rfl, h⟩ := h
        exact And.intro h1 (And.intro h2 (q_C.mono h (fun v' M'' h' => by obtain ⟨rfl, hI'⟩ := h'; exact br_t rfl (nx M'' hI'))))
      refine And.intro (fun _ => q_C.mono (hops.2.2.2.2.2.2.2.2.2.2.2.2.2.2.2.2.2.2.2.2.2.2.1 M hI) (fun v M' h => ?_)) ?_
      · obtain ⟨r, rfl, h⟩ := h
        exact q_C.mono h (fun v' M'' h' => by obtain ⟨rfl, hI'⟩ := h'; exact br_t rfl (nx M'' hI'))
      refine And.intro (fun _ => And.intro h1 (q_C.mono ((hops.2.2.2.2.2.2.2.2.2.2.2.2.2.2.2.2.2.2.2.2.2.2.2.1 _) M hI) (fun v M' h => ?_))) ?_
      · obtain ⟨r, rfl, h⟩ := h
        exact And.intro h1 (q_C.mono h (fun v' M'' h' => by obtain ⟨rfl, hI'⟩ := h'; exact br_t rfl (nx M'' hI')))
      refine And.intro (fun _ => And.intro h1 (q_C.mono ((hops.2.2.2.2.2.2.2.2.2.2.2.2.2.2.2.2.2.2.2.2.2.2.2.2.1 _) M hI) (fun v M' h => ?_))) ?_
      · obtain ⟨r, rfl, h⟩ := h
        exact And.intro h1 (q_C.mono h (fun v' M'' h' => by obtain ⟨rfl, hI'⟩ := h'; exact br_t rfl (nx M'' hI')))
      refine And.intro (fun _ => q_C.mono (hops.2.2.2.2.2.2.2.2.2.2.2.2.2.2.2.2.2.2.2.2.2.2.2.2.2.1 M hI) (fun v M' h => ?_)) ?_
      · obtain ⟨r, rfl, h⟩ := h
        exact q_C.mono h (fun v' M'' h' => by obtain ⟨rfl, hI'⟩ := h'; exact br_t rfl (nx M'' hI'))
      refine And.intro (fun _ => q_C.mono (hops.2.2.2.2.2.2.2.2.2.2.2.2.2.2.2.2.2.2.2.2.2.2.2.2.2.2.1 M hI) (fun v M' h => ?_)) ?_
      · obtain ⟨r, rfl, h⟩ := h
        exact q_C.mono h (fun v' M'' h' => by obtain ⟨rfl, hI'⟩ := h'; exact br_t rfl (nx M'' hI'))
      refine And.intro (fun _ => And.intro h1 (q_C.mono ((hops.2.2.2.2.2.2.2.2.2.2.2.2.2.2.2.2.2.2.2.2.2.2.2.2.2.2.2.1 _) M hI) (fun v M' h => ?_))) ?_
      · obtain ⟨r, rfl, h⟩ := h
        exact And.intro h1 (q_C.mono h (fun v' M'' h' => by obtain ⟨rfl, hI'⟩ := h'; exact br_t rfl (nx M'' hI')))
      refine And.intro (fun _ => And.intro h1 (And.intro h2 (And.intro h3 (q_C.mono ((hops.2.2.2.2.2.2.2.2.2.2.2.2.2.2.2.2.2.2.2.2.2.2.2.2.2.2.2.2.1 _ _ _) M hI) (fun v M' h => ?_))))) ?_
      · obtain ⟨r, rfl, h⟩ := h
        exact And.intro h1 (And.intro h2 (And.intro h3 (q_C.mono h (fun v' M'' h' => by obtain ⟨rfl, hI'⟩ := h'; exact br_t rfl (nx M'' hI')))))
      refine And.intro (fun _ => q_C.mono (hops.2.2.2.2.2.2.2.2.2.2.2.2.2.2.2.2.2.2.2.2.2.2.2.2.2.2.2.2.2.1 M hI) (fun v M' h => ?_)) ?_
      · obtain ⟨r, rfl, h⟩ := h
        exact q_C.mono h (fun v' M'' h' => by obtain ⟨rfl, hI'⟩ := h'; exact br_t rfl (nx M'' hI'))
      refine And.intro (fun _ => And.intro h1 (And.intro h2 (q_C.mono ((hops.2.2.2.2.2.2.2.2.2.2.2.2.2.2.2.2.2.2.2.2.2.2.2.2.2.2.2.2.2.2.1 _ _) M hI) (fun v M' h => ?_)))) ?_
      · obtain ⟨r, rfl, h⟩ := h
        exact And.intro h1 (And.intro h2 (q_C.mono h (fun v' M'' h' => by obtain ⟨rfl, hI'⟩ := h'; exact br_t rfl (nx M'' hI'))))
      refine And.intro (fun _ => And.intro h1 (And.intro h2 (And.intro h3 (And.intro h4 (q_C.mono ((hops.2.2.2.2.2.2.2.2.2.2.2.2.2.2.2.2.2.2.2.2.2.2.2.2.2.2.2.2.2.2.2.1 _ _ _ _) M hI) (fun v M' h => ?_)))))) ?_
      · obtain ⟨r, rfl, h⟩ := h
        exact And.intro h1 (And.intro h2 (And.intro h3 (And.intro h4 (q_C.mono h (fun v' M'' h' => by obtain ⟨rfl, hI'⟩ := h'; exact br_t rfl (nx M'' hI'))))))
      refine And.intro (fun _ => And.intro h1 (And.intro h2 (q_C.mono ((hops.2.2.2.2.2.2.2.2.2.2.2.2.2.2.2.2.2.2.2.2.2.2.2.2.2.2.2.2.2.2.2.2.1 _ _) M hI) (fun v M' h => ?_)))) ?_
      · obtain ⟨r, rfl, h⟩ := h
        exact And.intro h1 (And.intro h2 (q_C.mono h (fun v' M'' h' => by obtain ⟨rfl, hI'⟩ := h'; exact br_t rfl (nx M'' hI'))))
      refine And.intro (fun _ => And.intro h1 (And.intro h2 (q_C.mono ((hops.2.2.2.2.2.2.2.2.2.2.2.2.2.2.2.2.2.2.2.2.2.2.2.2.2.2.2.2.2.2.2.2.2.1 _ _) M hI) (fun v M' h => ?_)))) ?_
      · obtain ⟨r, rfl, h⟩ := h
        exact And.intro h1 (And.intro h2 (q_C.mono h (fun v' M'' h' => by obtain ⟨rfl, hI'⟩ := h'; exact br_t rfl (nx M'' hI'))))
      refine And.intro (fun _ => And.intro h1 (q_C.mono ((hops.2.2.2.2.2.2.2.2.2.2.2.2.2.2.2.2.2.2.2.2.2.2.2.2.2.2.2.2.2.2.2.2.2.2.1 _) M hI) (fun v M' h => ?_))) ?_
      · obtain ⟨r, rfl, h⟩ := h
        exact And.intro h1 (q_C.mono h (fun v' M'' h' => by obtain ⟨rfl, hI'⟩ := h'; exact br_t rfl (nx M'' hI')))
      refine And.intro (fun _ => And.intro h1 (q_C.mono ((hops.2.2.2.2.2.2.2.2.2.2.2.2.2.2.2.2.2.2.2.2.2.2.2.2.2.2.2.2.2.2.2.2.2.2.2.1 _) M hI) (fun v M' h => ?_))) ?_
      · obtain ⟨r, rfl, h⟩ := h
        exact And.intro h1 (q_C.mono h (fun v' M'' h' => by obtain ⟨rfl, hI'⟩ := h'; exact br_t rfl (nx M'' hI')))
      refine And.intro (fun _ => And.intro h1 (q_C.mono ((hops.2.2.2.2.2.2.2.2.2.2.2.2.2.2.2.2.2.2.2.2.2.2.2.2.2.2.2.2.2.2.2.2.2.2.2.2.1 _) M hI) (fun v M' h => ?_))) ?_
      · obtain ⟨r, rfl, h⟩ := h
        exact And.intro h1 (q_C.mono h (fun v' M'' h' => by obtain ⟨rfl, hI'⟩ := h'; exact br_t rfl (nx M'' hI')))
      refine And.intro (fun _ => And.intro h1 (And.intro h2 (And.intro h3 (q_C.mono ((hops.2.2.2.2.2.2.2.2.2.2.2.2.2.2.2.2.2.2.2.2.2.2.2.2.2.2.2.2.2.2.2.2.2.2.2.2.2.1 _ _ _) M hI) (fun v M' h => ?_))))) ?_
      · obtain ⟨r, rfl, h⟩ := h
        exact And.intro h1 (And.intro h2 (And.intro h3 (q_C.mono h (fun v' M'' h' => by obtain ⟨rfl, hI'⟩ := h'; exact br_t rfl (nx M'' hI')))))
      refine And.intro (fun _ => And.intro h1 (And.intro h2 (q_C.mono ((hops.2.2.2.2.2.2.2.2.2.2.2.2.2.2.2.2.2.2.2.2.2.2.2.2.2.2.2.2.2.2.2.2.2.2.2.2.2.2.1 _ _) M hI) (fun v M' h => ?_)))) ?_
      · obtain ⟨r, rfl, h⟩ := h
        exact And.intro h1 (And.intro h2 (q_C.mono h (fun v' M'' h' => by obtain ⟨rfl, hI'⟩ := h'; exact br_t rfl (nx M'' hI'))))
      refine And.intro (fun _ => And.intro h1 (And.intro h2 (And.intro h3 (q_C.mono ((hops.2.2.2.2.2.2.2.2.2.2.2.2.2.2.2.2.2.2.2.2.2.2.2.2.2.2.2.2.2.2.2.2.2.2.2.2.2.2.2.1 _ _ _) M hI) (fun v M' h => ?_))))) ?_
      · obtain ⟨r, rfl, h⟩ := h
        exact And.intro h1 (And.intro h2 (And.intro h3 (q_C.mono h (fun v' M'' h' => by obtain ⟨rfl, hI'⟩ := h'; exact br_t rfl (nx M'' hI')))))
      refine And.intro (fun _ => And.intro h1 (And.intro h2 (And.intro h3 (q_C.mono ((hops.2.2.2.2.2.2.2.2.2.2.2.2.2.2.2.2.2.2.2.2.2.2.2.2.2.2.2.2.2.2.2.2.2.2.2.2.2.2.2.2.1 _ _ _) M hI) (fun v M' h => ?_))))) ?_
      · obtain ⟨r, rfl, h⟩ := h
        exact And.intro h1 (And.intro h2 (And.intro h3 (q_C.mono h (fun v' M'' h' => by obtain ⟨rfl, hI'⟩ := h'; exact br_t rfl (nx M'' hI')))))
      refine And.intro (fun _ => And.intro h1 (And.intro h2 (q_C.mono ((hops.2.2.2.2.2.2.2.2.2.2.2.2.2.2.2.2.2.2.2.2.2.2.2.2.2.2.2.2.2.2.2.2.2.2.2.2.2.2.2.2.2.1 _ _) M hI) (fun v M' h => ?_)))) ?_
      · obtain ⟨r, rfl, h⟩ := h
        exact And.intro h1 (And.intro h2 (q_C.mono h (fun v' M'' h' => by obtain ⟨rfl, hI'⟩ := h'; exact br_t rfl (nx M'' hI'))))
      refine And.intro (fun _ => And.intro h1 (And.intro h2 (q_C.mono ((hops.2.2.2.2.2.2.2.2.2.2.2.2.2.2.2.2.2.2.2.2.2.2.2.2.2.2.2.2.2.2.2.2.2.2.2.2.2.2.2.2.2.2.1 _ _) M hI) (fun v M' h => ?_)))) ?_
      · obtain ⟨r, rfl, h⟩ := h
        exact And.intro h1 (And.intro h2 (q_C.mono h (fun v' M'' h' => by obtain ⟨rfl, hI'⟩ := h'; exact br_t rfl (nx M'' hI'))))
      refine And.intro (fun _ => And.intro h1 (And.intro h2 (q_C.mono ((hops.2.2.2.2.2.2.2.2.2.2.2.2.2.2.2.2.2.2.2.2.2.2.2.2.2.2.2.2.2.2.2.2.2.2.2.2.2.2.2.2.2.2.2.1 _ _) M hI) (fun v M' h => ?_)))) ?_
      · obtain ⟨r, rfl, h⟩ := h
        exact And.intro h1 (And.intro h2 (q_C.mono h (fun v' M'' h' => by obtain ⟨rfl, hI'⟩ := h'; exact br_t rfl (nx M'' hI'))))
      refine And.intro (fun _ => And.intro h1 (And.intro h2 (q_C.mono ((hops.2.2.2.2.2.2.2.2.2.2.2.2.2.2.2.2.2.2.2.2.2.2.2.2.2.2.2.2.2.2.2.2.2.2.2.2.2.2.2.2.2.2.2.2.1 _ _) M hI) (fun v M' h => ?_)))) ?_
      · obtain ⟨r, rfl, h⟩ := h
        exact And.intro h1 (And.intro h2 (q_C.mono h (fun v' M'' h' => by obtain ⟨rfl, hI'⟩ := h'; exact br_t rfl (nx M'' hI'))))
      refine And.intro (fun _ => And.intro h1 (And.intro h2 (q_C.mono ((hops.2.2.2.2.2.2.2.2.2.2.2.2.2.2.2.2.2.2.2.2.2.2.2.2.2.2.2.2.2.2.2.2.2.2.2.2.2.2.2.2.2.2.2.2.2.1 _ _) M hI) (fun v M' h => ?_)))) ?_
      · obtain ⟨r, rfl, h⟩ := h
        exact And.intro h1 (And.intro h2 (q_C.mono h (fun v' M'' h' => by obtain ⟨rfl, hI'⟩ := h'; exact br_t rfl (nx M'' hI'))))
      refine And.intro (fun _ => And.intro h1 (q_C.mono ((hops.2.2.2.2.2.2.2.2.2.2.2.2.2.2.2.2.2.2.2.2.2.2.2.2.2.2.2.2.2.2.2.2.2.2.2.2.2.2.2.2.2.2.2.2.2.2.1 _) M hI) (fun v M' h => ?_))) ?_
      · obtain ⟨r, rfl, h⟩ := h
        exact And.intro h1 (q_C.mono h (fun v' M'' h' => by obtain ⟨rfl, hI'⟩ := h'; exact br_t rfl (nx M'' hI')))
      refine And.intro (fun _ => And.intro h1 (q_C.mono ((hops.2.2.2.2.2.2.2.2.2.2.2.2.2.2.2.2.2.2.2.2.2.2.2.2.2.2.2.2.2.2.2.2.2.2.2.2.2.2.2.2.2.2.2.2.2.2.2.1 _) M hI) (fun v M' h => ?_))) ?_
      · obtain ⟨r, rfl, h⟩ := h
        exact And.intro h1 (q_C.mono h (fun v' M'' h' => by obtain ⟨rfl, hI'⟩ := h'; exact br_t rfl (nx M'' hI')))
      refine And.intro (fun _ => And.intro h1 (And.intro h2 (q_C.mono ((hops.2.2.2.2.2.2.2.2.2.2.2.2.2.2.2.2.2.2.2.2.2.2.2.2.2.2.2.2.2.2.2.2.2.2.2.2.2.2.2.2.2.2.2.2.2.2.2.2.1 _ _) M hI) (fun v M' h => ?_)))) ?_
      · obtain ⟨r, rfl, h⟩ := h
        exact And.intro h1 (And.intro h2 (q_C.mono h (fun v' M'' h' => by obtain ⟨rfl, hI'⟩ := h'; exact br_t rfl (nx M'' hI'))))
      refine And.intro (fun _ => And.intro h1 (And.intro h2 (And.intro h3 (q_C.mono ((hops.2.2.2.2.2.2.2.2.2.2.2.2.2.2.2.2.2.2.2.2.2.2.2.2.2.2.2.2.2.2.2.2.2.2.2.2.2.2.2.2.2.2.2.2.2.2.2.2.2.1 _ _ _) M hI) (fun v M' h => ?_))))) ?_
      · obtain ⟨r, rfl, h⟩ := h
        exact And.intro h1 (And.intro h2 (And.intro h3 (q_C.mono h (fun v' M'' h' => by obtain ⟨rfl, hI'⟩ := h'; exact br_t rfl (nx M'' hI')))))
      refine And.intro (fun _ => And.intro h1 (q_C.mono ((hops.2.2.2.2.2.2.2.2.2.2.2.2.2.2.2.2.2.2.2.2.2.2.2.2.2.2.2.2.2.2.2.2.2.2.2.2.2.2.2.2.2.2.2.2.2.2.2.2.2.2.1 _) M hI) (fun v M' h => ?_))) ?_
      · obtain ⟨r, rfl, h⟩ := h
        exact And.intro h1 (q_C.mono h (fun v' M'' h' => by obtain ⟨rfl, hI'⟩ := h'; exact br_t rfl (nx M'' hI')))
      refine And.intro (fun _ => And.intro h1 (q_C.mono ((hops.2.2.2.2.2.2.2.2.2.2.2.2.2.2.2.2.2.2.2.2.2.2.2.2.2.2.2.2.2.2.2.2.2.2.2.2.2.2.2.2.2.2.2.2.2.2.2.2.2.2.2 _) M hI) (fun v M' h => ?_))) ?_
      · obtain ⟨r, rfl, h⟩ := h
        exact And.intro h1 (q_C.mono h (fun v' M'' h' => by obtain ⟨rfl, hI'⟩ := h'; exact br_t rfl (nx M'' hI')))
      exact trivial
end LW
