/-! arrays of objects in constructors -/
section QAN
variable {mt : Nat → q_Me} {Z : q_Z} {E : q_E} {mi d rc rs : Nat} {Y : Array Value → State → Outcome → State → Prop} {pc idx : Nat} {lv : q_L} {st : List Value} {M : q_M}
theorem q_anew {nn : Nat} {x : Int32} (h1 : Cond.classLink (mt mi).1 idx "DropTwo$State" ∈ q_wT) (hx : ¬ x < 0) (hn : x.toNatClampNeg = nn) (hb : nn ≤ 60000000) (hf : q_fit Z E lv st M) (hd : decode (mt mi).2.2.1 pc = .ok (.anewarray idx, 3))
    (kk : ∀ E', q_ext (Z.2.2.length + 2) E E' → q_G mt (q_more Z (4, 0, nn, List.replicate nn none)) E' mi d rc rs Y (pc + 3) lv (.ref (Z.2.2.length + 2) :: st) M) : q_G mt Z E mi d (rc + 1) (rs + nn) Y pc lv (.int x :: st) M := by
  intro l p e R s m args below meth c H locs cells slots ls A hl hR hcc hss
  obtain ⟨f1, f2, f3, f4, f5⟩ := hf
  obtain ⟨hK, ⟨sv, X, hP, hD, hSB⟩, hS, hX, hz, hE, hN⟩ := hR
  refine va_newq A.1 A.2.1 A.2.2.2.2.1 (q_word A h1) hN.2 hK hP hD hS (fun q hq => Nat.le_trans hz hq) hx hn (by omega) (by omega) (by omega) hd (fun q cA H1 hK1 hP1 hD1 hS1 => ?_)
  have e3 : cA = E.2.2.1 4 := by
    obtain ⟨kA, comp, -, -, -, b4⟩ := (hK1.2 5 (cA, .object "DropTwo$State") rfl).2
    obtain ⟨kA', comp', -, -, -, c4⟩ := (hK.2 3 (E.2.2.1 4, .object "DropTwo$State") rfl).2
    exact Option.some.inj (b4.symm.trans c4)
  subst e3
  have ee : (fun _ : Nat => (none : Option Nat)) = (fun i => ((List.replicate nn (none : Option Nat)).getD i none).map E.1) := by
    funext i
    rw [q_nones]
    rfl
  rw [ee] at hP1 hD1
  have hR' := q_R.more (g := (4, 0, nn, List.replicate nn none)) hK hX hz hE hN hSB f3 f4 q_wr_nones hP1 hD1 hS1
  have he := q_put.ext (E := E) (n := Z.2.2.length + 2) (q := q)
  have K := kk _ he l p e R s m args below meth c H1 locs (cells + 1) (slots + nn) ls A (q_has.ext he f1 hl) hR' (by omega) (by omega)
  rw [show (cells + 1 + rc) = cells + (rc + 1) by omega, show (slots + nn + rs) = slots + (rs + nn) by omega, List.map_cons, q_os.vm he f2] at K
  have e3 : q_vm (q_put E (Z.2.2.length + 2) q).1 (.ref (Z.2.2.length + 2)) = .ref q := by
    show Value.ref ((q_put E (Z.2.2.length + 2) q).1 (Z.2.2.length + 2)) = _
    rw [q_put.at]
  rw [e3] at K
  exact K
theorem q_aast {r0 v0 nn nv cx : Nat} {refs rv : List (Option Nat)} {i : Int32} (hc : q_cell Z (r0 + 2) = some (4, cx, nn, refs)) (hv : q_cell Z (v0 + 2) = some (0, 9, nv, rv)) (hir : i.toNatClampNeg < refs.length) (hin : q_in0 i nn) (h7 : ¬ E.2.2.2.2.1 = r0 + 2) (hd : decode (mt mi).2.2.1 pc = .ok (.aastore, 1))
    (kk : q_G mt (q_zset Z r0 (4, cx, nn, refs.set i.toNatClampNeg (some (v0 + 2)))) E mi d rc rs Y (pc + 1) lv st M) : q_G mt Z E mi d rc rs Y pc lv (.ref (v0 + 2) :: .int i :: .ref (r0 + 2) :: st) M := by
  intro l p e R s m args below meth c H locs cells slots ls A hl' hR hcc hss
  obtain ⟨hK, ⟨sv, X, hP, hD, hSB⟩, hS, hX, hz, hE, hN⟩ := hR
  have hr0 : r0 < Z.2.2.length := (List.getElem?_eq_some_iff.mp (show Z.2.2[r0]? = some _ from hc)).1
  refine va_astq A.1 A.2.1 hK hP hD hS r0 3 v0 9 (r := (RX8, TX8, 10)) (q_wl_at X hc) rfl (q_wl_at X hv) rfl hin.vp hd (fun H1 locs1 hP1 hD1 hS1 => ?_)
  have ef : va_up (fun j => (refs.getD j none).map E.1) i.toNatClampNeg (some (E.1 (v0 + 2))) = fun j => ((refs.set i.toNatClampNeg (some (v0 + 2))).getD j none).map E.1 := by
    funext j
    show (if j = i.toNatClampNeg then some (E.1 (v0 + 2)) else (refs.getD j none).map E.1) = _
    rw [List.getD_eq_getElem?_getD, List.getD_eq_getElem?_getD]
    by_cases e : j = i.toNatClampNeg
    · subst e
      rw [if_pos rfl, List.getElem?_set_self hir]
      rfl
    · rw [if_neg e, List.getElem?_set_ne (fun q => e q.symm)]
  have e2 : (q_wl Z E M sv ++ X).set r0 (E.1 (r0 + 2), .inl (E.2.2.1 4, nn, .inr (.inr (.inr (.inr (fun j => ((refs.set i.toNatClampNeg (some (v0 + 2))).getD j none).map E.1)))))) = q_wl (q_zset Z r0 (4, cx, nn, refs.set i.toNatClampNeg (some (v0 + 2)))) E M sv ++ X :=
    q_zset_wl (g := (4, cx, nn, refs.set i.toNatClampNeg (some (v0 + 2)))) hr0
  have hP1 : va_P E.2.1 vwCl ((q_wl Z E M sv ++ X).set r0 (E.1 (r0 + 2), .inl (E.2.2.1 4, nn, .inr (.inr (.inr (.inr (va_up (fun j => (refs.getD j none).map E.1) i.toNatClampNeg (some (E.1 (v0 + 2))))))))) ) H1 := hP1
  have hD1 : va_D (q_A E) ((q_wl Z E M sv ++ X).set r0 (E.1 (r0 + 2), .inl (E.2.2.1 4, nn, .inr (.inr (.inr (.inr (va_up (fun j => (refs.getD j none).map E.1) i.toNatClampNeg (some (E.1 (v0 + 2))))))))) ) := hD1
  rw [ef, e2] at hP1 hD1
  refine kk l p e R s m args below meth c H1 locs1 cells slots ls A hl' ⟨hK, ⟨sv, X, hP1, hD1, hSB⟩, hS1, hX, hz, ⟨hE.1, hE.2.1, fun h hh => ?_⟩, hN⟩ hcc hss
  rcases q_zset_cell hh with h1 | h1
  · exact hE.2.2 h h1
  · exact absurd h1.1 h7
end QAN
theorem q_zc.seta {Z0 : q_Z} {r0 k j : Nat} {g g' : q_Sh} {arr : List q_Sh} (hk : k = Z0.2.2.length + j) : q_zset (q_zc Z0 r0 g arr) k g' = q_zc Z0 r0 g (arr.set j g') := by
  show (Z0.1, Z0.2.1, (Z0.2.2.set r0 g ++ arr).set k g') = (Z0.1, Z0.2.1, Z0.2.2.set r0 g ++ arr.set j g')
  rw [List.set_append_right _ _ (by rw [List.length_set]; omega), List.length_set, hk, Nat.add_sub_cancel_left]
theorem q_zc.cella {Z0 : q_Z} {r0 k j : Nat} {g x : q_Sh} {arr : List q_Sh} (hk : k = Z0.2.2.length + j) (h : arr[j]? = some x) : q_cell (q_zc Z0 r0 g arr) (k + 2) = some x := by
  show (Z0.2.2.set r0 g ++ arr)[k]? = some x
  rw [List.getElem?_append_right (by rw [List.length_set]; omega), List.length_set, hk, Nat.add_sub_cancel_left]
  exact h
section KA
variable {Z0 : q_Z} {E : q_E} {mi d rc rs r0 : Nat} {Y : Array Value → State → Outcome → State → Prop} {pc idx : Nat} {lv : q_L} {st : List Value} {M : q_M} {g : q_Sh} {arr : List q_Sh}
theorem k_anew {nn : Nat} {x : Int32} (hmi : mi < 436) (hm : (pc, Instr.anewarray idx, 3, []) ∈ (q_mt mi).2.2.2.2.2) (h1 : Cond.classLink (q_mt mi).1 idx "DropTwo$State" ∈ q_wT) (hx : ¬ x < 0) (hn : x.toNatClampNeg = nn) (hb : nn ≤ 60000000) (hc : q_cok Z0 r0 g arr E M) (hl : q_ol (Z0.2.2.length + arr.length + 2) lv = true) (hs : q_os (Z0.2.2.length + arr.length + 2) st = true) (h7 : Z0.2.2.length + arr.length + 3 ≤ 270 ∨ 271 ≤ r0 + 2)
    (kk : ∀ E', q_ext (Z0.2.2.length + 2) E E' → q_cok Z0 r0 g (arr ++ [(4, 0, nn, List.replicate nn none)]) E' M → q_G q_mt (q_zc Z0 r0 g (arr ++ [(4, 0, nn, List.replicate nn none)])) E' mi d rc rs Y (pc + 3) lv (.ref (Z0.2.2.length + arr.length + 2) :: st) M) : q_G q_mt (q_zc Z0 r0 g arr) E mi d (rc + 1) (rs + nn) Y pc lv (.int x :: st) M := by
  refine q_anew h1 hx hn hb (hc.fit hl hs h7) (q_decI hmi hm) (fun E' he => ?_)
  rw [q_zc.len] at he ⊢
  rw [q_zc.more]
  exact kk E' ⟨fun k hk => he.1 k (by omega), he.2⟩ (hc.more he.2 q_wr_nones h7)
theorem k_aast {a v ja jv nn nv cx : Nat} {refs rv : List (Option Nat)} {i : Int32} (hmi : mi < 436) (hm : (pc, Instr.aastore, 1, []) ∈ (q_mt mi).2.2.2.2.2) (ha : a = Z0.2.2.length + ja) (hv : v = Z0.2.2.length + jv) (hca : arr[ja]? = some (4, cx, nn, refs)) (hcv : arr[jv]? = some (0, 9, nv, rv)) (hir : i.toNatClampNeg < refs.length) (hin : q_in0 i nn) (hc : q_cok Z0 r0 g arr E M) (h7 : Z0.2.2.length + arr.length + 2 ≤ 270 ∨ 271 ≤ r0 + 2)
    (kk : q_cok Z0 r0 g (arr.set ja (4, cx, nn, refs.set i.toNatClampNeg (some (v + 2)))) E M → q_G q_mt (q_zc Z0 r0 g (arr.set ja (4, cx, nn, refs.set i.toNatClampNeg (some (v + 2))))) E mi d rc rs Y (pc + 1) lv st M) : q_G q_mt (q_zc Z0 r0 g arr) E mi d rc rs Y pc lv (.ref (v + 2) :: .int i :: .ref (a + 2) :: st) M := by
  have la : ja < arr.length := (List.getElem?_eq_some_iff.mp hca).1
  have lv' : jv < arr.length := (List.getElem?_eq_some_iff.mp hcv).1
  have hr0 := hc.1
  refine q_aast (q_zc.cella ha hca) (q_zc.cella hv hcv) hir hin (by rw [hc.2.2.2.2.2.1]; omega) (q_decI hmi hm) ?_
  rw [q_zc.seta ha]
  refine kk ⟨hc.1, hc.2.1, by rw [List.length_set]; exact hc.2.2.1, fun b hb => ?_, by rw [List.length_set]; exact hc.2.2.2.2.1, hc.2.2.2.2.2.1, by rw [List.length_set]; exact hc.2.2.2.2.2.2⟩
  rw [List.length_set]
  rcases List.mem_or_eq_of_mem_set hb with h | h
  · exact hc.2.2.2.1 b h
  · rw [h]
    exact q_wr.setr (k := i.toNatClampNeg) (by omega) (hc.2.2.2.1 _ (List.mem_of_getElem? hca)) _
end KA
