/-! a long into a row that was made here -/
theorem q_cok.sl {Z0 : q_Z} {r0 k i : Nat} {x : Int64} {g : q_Sh} {arr : List q_Sh} {E : q_E} {M : q_M} (h : q_cok Z0 r0 g arr E M) (hk : k < Z0.2.2.length + arr.length + 2) : q_cok Z0 r0 g arr E (q_sl M k i x) := by
  refine ⟨h.1, h.2.1, h.2.2.1, h.2.2.2.1, fun r hr j => ?_, h.2.2.2.2.2⟩
  have h1 := h.2.2.2.2.1 r hr j
  rw [q_sl_ne (by omega)]
  exact h1
theorem k_lastA {Z0 : q_Z} {E : q_E} {mi d rc rs r0 : Nat} {Y : Array Value → State → Outcome → State → Prop} {pc : Nat} {lv : q_L} {st : List Value} {M : q_M} {g : q_Sh} {arr : List q_Sh} {a ja nn cx : Nat} {refs : List (Option Nat)} {i : Int32} {x : Int64} {n : Nat} (hmi : mi < 436) (hm : (pc, Instr.lastore, 1, []) ∈ (q_mt mi).2.2.2.2.2) (ha : a = Z0.2.2.length + ja) (hca : arr[ja]? = some (2, cx, nn, refs)) (hin : q_in0 i nn) (hi : i.toNatClampNeg = n) (hc : q_cok Z0 r0 g arr E M)
    (kk : q_cok Z0 r0 g arr E (q_sl M (a + 2) n x) → q_G q_mt (q_zc Z0 r0 g arr) E mi d rc rs Y (pc + 1) lv st (q_sl M (a + 2) n x)) : q_G q_mt (q_zc Z0 r0 g arr) E mi d rc rs Y pc lv (.long x :: .int i :: .ref (a + 2) :: st) M := by
  have la : ja < arr.length := (List.getElem?_eq_some_iff.mp hca).1
  subst hi
  exact q_last (q_zc.cella ha hca) hin (q_decI hmi hm) (kk (hc.sl (by omega)))
