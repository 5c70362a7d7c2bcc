/-! calls -/
theorem q_call {Z : q_Z} {E : q_E} {M : q_M} {Q1 : Option Value → q_M → Prop} {p : Program} {l : Launch} {e : Env} {R : Room} {s : State} {m : MethodId} {args : Array Value} {below : List Frame} {meth : Method} {c : Code} {H : Heap} {locs : List Loc} {cells slots mc ms : Nat} {Q' : State → Prop} {pc : Nat} {ls : Array Slot} {st0 rest : List Value} {a : Array Value}
    (hr : va_Run p l e R s m args below meth c H locs cells slots mc ms (F0 m pc ls st0) rest (q_Q Z E Q1 a) (q_A E)) (hR : q_R Z E M s H locs)
    (kk : ∀ (v : Option Value) (M1 : q_M) (H1 : Heap) (locs1 : List Loc), Q1 v M1 → q_R Z E M1 s H1 locs1 → W p l e R s m args below meth c H1 locs1 (cells + mc) (slots + ms) Q' (F0 m (pc + 3) ls ((v.map (q_vm E.1)).toList ++ rest))) :
    W p l e R s m args below meth c H locs cells slots Q' (F0 m pc ls st0) := by
  intro T hT X
  obtain ⟨v, st₀, t, T', L, h0, X', hL, e1, e2, ⟨⟨w, M1, hv, hq, hK1, hP1, hX1, hn1, hE1, hN1⟩, hz1, hk1⟩, st⟩ := hr T hT X
  cases hv
  obtain ⟨hK, hP, hS, hX, hz, hE, hN⟩ := hR
  rw [h0] at hz1 hk1
  obtain ⟨t2, a1, b1⟩ := kk w M1 T'.heap (locs ++ L) hq ⟨hK, by rw [e1]; exact hP1, ⟨Nat.le_trans hS.1 (by rw [e1]; exact hz1), fun q h1 h2 => by rw [e1, hk1 q (Nat.lt_of_lt_of_le h1 hS.1) h2]; exact hS.2.1 q h1 h2, fun q hq => by
      rcases List.mem_append.mp hq with h | h
      · exact hS.2.2 q h
      · exact hL q h⟩, hX, hz, hE, hN⟩ T' rfl X'
  exact ⟨t2, st t2 a1, b1⟩
theorem q_RS.of {Z : q_Z} {E : q_E} {M : q_M} {s U : State} {H : Heap} {locs : List Loc} (hR : q_R Z E M s H locs) (hU : U.heap = H) (hW : s.WarmedH U.vm) : q_RS Z E M U := by
  obtain ⟨hK, hP, hS, hX, hz, hE, hN⟩ := hR
  refine ⟨va_K.moved hW.alike hK, by rw [hU]; exact hP, ?_, by rw [hU]; exact Nat.le_trans hz hS.1, hE, hN.warm hW⟩
  rw [hU]
  exact q_X.next hX hE.1 hz hS hW
theorem q_blind {Z : q_Z} {E : q_E} {M : q_M} {a0 : Array Value} : FrameBlind (fun a U => a = a0 ∧ q_RS Z E M U) := fun _ _ _ _ h => h
/-- the words of a callee are among the walk's -/
theorem q_goodIn {ws : List Cond} (h : ∀ w ∈ ws, w ∈ q_wT) : GoodIn q_wT ws := fun w hw => q_good w (h w hw)
theorem q_ws_in {me : q_Me} (h : Cond.code me.2.1 me.2.2.1 me.2.2.2.1 me.2.2.2.2.1 ∈ q_wT) : ∀ w ∈ q_ws me, w ∈ q_wT := fun w hw => by
  rcases List.mem_cons.mp hw with e | e
  · rw [e]; exact h
  · exact e
section QC
variable {mt : Nat → q_Me} {Z : q_Z} {E : q_E} {mi mj d rc rs : Nat} {Q1 : Option Value → q_M → Prop} {Y : Array Value → State → Outcome → State → Prop} {pc idx : Nat} {lv : q_L} {as rest : List Value} {M : q_M}
theorem q_inv {r ci nn : Nat} {refs : List (Option Nat)} {C : String} {T : u_T} {N : Nat} (hM : q_C mt Z E mj d 0 0 (.ref r :: as) M Q1) (hc : q_cell Z r = some (0, ci, nn, refs)) (hv : vwCl[ci]? = some (C, T, N)) (hC : (mt mj).2.1.cls = C)
    (h1 : Cond.methodLink (mt mi).1 idx (mt mj).2.1 ∈ q_wT) (h2 : Cond.instanceMethod (mt mj).2.1 ∈ q_wT) (h3 : Cond.selects C (mt mj).2.1 (mt mj).2.1 ∈ q_wT) (h4 : Cond.initialized C ∈ q_wT) (h5 : Cond.code (mt mj).2.1 (mt mj).2.2.1 (mt mj).2.2.2.1 (mt mj).2.2.2.2.1 ∈ q_wT)
    (hy : (mt mj).2.1.cls ≠ "java/lang/invoke/MethodHandle" ∧ (mt mj).2.1.cls ≠ "java/lang/invoke/VarHandle" ∧ (parseMethodDescriptor (mt mj).2.1.desc).map (fun d => d.parameters.length) = some as.length) (hL : (mt mj).2.2.2.1 ≤ 45) (hroom : (rest.map fun v => v.category).sum ≤ 8) (hd : decode (mt mi).2.2.1 pc = .ok (.invokevirtual idx, 3))
    (kk : ∀ (v : Option Value) (M1 : q_M), Q1 v M1 → q_G mt Z E mi (d + 1) rc rs Y (pc + 3) lv (v.toList ++ rest) M1) : q_G mt Z E mi (d + 1) rc rs Y pc lv (as.reverse ++ .ref r :: rest) M := by
  intro l p e R s m args below meth c H locs cells slots ls A hl hR hcc hss
  obtain ⟨r0, rfl⟩ := q_own hc (Nat.le_of_ble_eq_true rfl)
  have hts : ∀ w ∈ q_wT, w.before args s = true := fun w h => q_word A h
  have cw : CallW R s args (mt mi).1 C idx (mt mj).2.1 (mt mj).2.2.1 (mt mj).2.2.2.1 (mt mj).2.2.2.2.1 (q_ws (mt mj)) (q_room d 0 0) 0 0 as.length := cwV (ws' := q_wT) as.length hts (q_goodIn (fun w hw => by
      rcases List.mem_append.mp hw with h | h
      · rcases List.mem_cons.mp h with rfl | h
        · exact h1
        rcases List.mem_cons.mp h with rfl | h
        · exact h2
        rcases List.mem_cons.mp h with rfl | h
        · exact h3
        rcases List.mem_cons.mp h with rfl | h
        · exact h4
        cases h
      · exact q_ws_in h5 w h)) rfl rfl rfl ⟨hC, hy⟩ ⟨A.2.2.2.2.2.2.2.1, by have := A.2.2.2.2.2.2.2.2; show 8 + ((mt mj).2.2.2.1 + 11) + 64 * d ≤ R.locals; omega⟩
  have hRk := hR
  obtain ⟨hK, ⟨sv, X, hP, hD, -⟩, -⟩ := hR
  have hcat : ((rest.map (q_vm E.1)).map fun v => v.category).sum ≤ 8 := by
    rw [List.map_map, show ((fun v => Value.category v) ∘ q_vm E.1) = (fun v => v.category) from funext (fun v => q_vm_cat E.1 v)]
    exact hroom
  have hr := va_runV (e := e) (below := below) (meth := meth) (locs := locs) (cells := cells) (slots := slots) (b := E.1 (r0 + 2)) (As := as.map (q_vm E.1)) (rest := rest.map (q_vm E.1)) (g := F0 m pc ls ((as.reverse ++ .ref (r0 + 2) :: rest).map (q_vm E.1)))
    (⟨A.1, A.2.1, A.2.2.2.1, A.2.2.2.2.1, hts⟩ : CallFix p m c (mt mi).2.2.1 (mt mi).2.2.2.1 s args q_wT (mt mi).1) (hM l) cw ⟨q_blind, va_recv hK hP hv (q_wl_at X hc), fun U hU hW => ⟨rfl, q_RS.of hRk hU hW⟩⟩ rfl (List.length_map _) hl.1
    (by show (as.reverse ++ .ref (r0 + 2) :: rest).map (q_vm E.1) = _; rw [List.map_append, List.map_reverse]; rfl) (lv_room hcat) hd ⟨by omega, by omega⟩
  refine q_call hr hRk (fun v M1 H1 locs1 hq hR1 => ?_)
  have K := kk v M1 hq l p e R s m args below meth c H1 locs1 cells slots ls A hl hR1 hcc hss
  rw [List.map_append] at K
  cases v <;> exact K
theorem q_ins (hM : q_C mt Z E mj d 0 0 as M Q1)
    (h1 : Cond.methodLink (mt mi).1 idx (mt mj).2.1 ∈ q_wT) (h2 : Cond.static (mt mj).2.1 ∈ q_wT) (h4 : Cond.initialized (mt mj).2.1.cls ∈ q_wT) (h5 : Cond.code (mt mj).2.1 (mt mj).2.2.1 (mt mj).2.2.2.1 (mt mj).2.2.2.2.1 ∈ q_wT)
    (hy : (mt mj).2.1.cls ≠ "java/lang/invoke/MethodHandle" ∧ (mt mj).2.1.cls ≠ "java/lang/invoke/VarHandle" ∧ (parseMethodDescriptor (mt mj).2.1.desc).map (fun d => d.parameters.length) = some as.length) (hL : (mt mj).2.2.2.1 ≤ 45) (hroom : (rest.map fun v => v.category).sum ≤ 8) (hd : decode (mt mi).2.2.1 pc = .ok (.invokestatic idx, 3))
    (kk : ∀ (v : Option Value) (M1 : q_M), Q1 v M1 → q_G mt Z E mi (d + 1) rc rs Y (pc + 3) lv (v.toList ++ rest) M1) : q_G mt Z E mi (d + 1) rc rs Y pc lv (as.reverse ++ rest) M := by
  intro l p e R s m args below meth c H locs cells slots ls A hl hR hcc hss
  have hts : ∀ w ∈ q_wT, w.before args s = true := fun w h => q_word A h
  have cw := va_cwS (R := R) (own := (mt mi).1) (index := idx) (y := (mt mj).2.1) (bytes := (mt mj).2.2.1) (maxL := (mt mj).2.2.2.1) (ret := (mt mj).2.2.2.2.1) (ws := q_ws (mt mj)) (rm := q_room d 0 0) (mc := 0) (ms := 0) (ws' := q_wT) as.length hts (q_goodIn (fun w hw => by
      rcases List.mem_append.mp hw with h | h
      · rcases List.mem_cons.mp h with rfl | h
        · exact h1
        rcases List.mem_cons.mp h with rfl | h
        · exact h2
        rcases List.mem_cons.mp h with rfl | h
        · exact h4
        cases h
      · exact q_ws_in h5 w h)) rfl rfl rfl hy ⟨A.2.2.2.2.2.2.2.1, by have := A.2.2.2.2.2.2.2.2; show 8 + ((mt mj).2.2.2.1 + 11) + 64 * d ≤ R.locals; omega⟩
  have hcat : ((rest.map (q_vm E.1)).map fun v => v.category).sum ≤ 8 := by
    rw [List.map_map, show ((fun v => Value.category v) ∘ q_vm E.1) = (fun v => v.category) from funext (fun v => q_vm_cat E.1 v)]
    exact hroom
  have hr := va_runS (e := e) (below := below) (meth := meth) (locs := locs) (cells := cells) (slots := slots) (H := H) (As := as.map (q_vm E.1)) (rest := rest.map (q_vm E.1)) (g := F0 m pc ls ((as.reverse ++ rest).map (q_vm E.1)))
    (⟨A.1, A.2.1, A.2.2.2.1, A.2.2.2.2.1, hts⟩ : CallFix p m c (mt mi).2.2.1 (mt mi).2.2.2.1 s args q_wT (mt mi).1) (hM l) cw ⟨q_blind, fun U hU hW => ⟨rfl, q_RS.of hR hU hW⟩⟩ rfl (List.length_map _) hl.1
    (by show (as.reverse ++ rest).map (q_vm E.1) = _; rw [List.map_append, List.map_reverse]) (lv_room hcat) hd ⟨by omega, by omega⟩
  refine q_call hr hR (fun v M1 H1 locs1 hq hR1 => ?_)
  have K := kk v M1 hq l p e R s m args below meth c H1 locs1 cells slots ls A hl hR1 hcc hss
  rw [List.map_append] at K
  cases v <;> exact K
theorem q_insN {host : String} (hM : q_C mt Z E mj d 0 0 as M Q1)
    (h1 : ((mt mi).1, idx, (mt mj).2.1, host) ∈ q_nl) (h2 : Cond.static (mt mj).2.1 ∈ q_wT) (h4 : Cond.initialized (mt mj).2.1.cls ∈ q_wT) (h5 : Cond.code (mt mj).2.1 (mt mj).2.2.1 (mt mj).2.2.2.1 (mt mj).2.2.2.2.1 ∈ q_wT)
    (hy : (mt mj).2.1.cls ≠ "java/lang/invoke/MethodHandle" ∧ (mt mj).2.1.cls ≠ "java/lang/invoke/VarHandle" ∧ (parseMethodDescriptor (mt mj).2.1.desc).map (fun d => d.parameters.length) = some as.length) (hL : (mt mj).2.2.2.1 ≤ 45) (hroom : (rest.map fun v => v.category).sum ≤ 8) (hd : decode (mt mi).2.2.1 pc = .ok (.invokestatic idx, 3))
    (kk : ∀ (v : Option Value) (M1 : q_M), Q1 v M1 → q_G mt Z E mi (d + 1) rc rs Y (pc + 3) lv (v.toList ++ rest) M1) : q_G mt Z E mi (d + 1) rc rs Y pc lv (as.reverse ++ rest) M := by
  intro l p e R s m args below meth c H locs cells slots ls A hl hR hcc hss
  have hts : ∀ w ∈ q_wT, w.before args s = true := fun w h => q_word A h
  have cw := va_cnB (R := R) (own := (mt mi).1) (host := host) (index := idx) (y := (mt mj).2.1) (bytes := (mt mj).2.2.1) (maxL := (mt mj).2.2.2.1) (ret := (mt mj).2.2.2.2.1) (ws := q_ws (mt mj)) (rm := q_room d 0 0) (mc := 0) (ms := 0) (ws' := q_wT) as.length hts (q_goodIn (q_ws_in h5)) rfl rfl rfl (hR.2.2.2.2.2.2.1 _ h1) (hts _ h4) hy ⟨A.2.2.2.2.2.2.2.1, by have := A.2.2.2.2.2.2.2.2; show 8 + ((mt mj).2.2.2.1 + 11) + 64 * d ≤ R.locals; omega⟩
  have hcat : ((rest.map (q_vm E.1)).map fun v => v.category).sum ≤ 8 := by
    rw [List.map_map, show ((fun v => Value.category v) ∘ q_vm E.1) = (fun v => v.category) from funext (fun v => q_vm_cat E.1 v)]
    exact hroom
  have hr := va_runSN (e := e) (below := below) (meth := meth) (locs := locs) (cells := cells) (slots := slots) (H := H) (As := as.map (q_vm E.1)) (rest := rest.map (q_vm E.1)) (g := F0 m pc ls ((as.reverse ++ rest).map (q_vm E.1)))
    (⟨A.1, A.2.1, A.2.2.2.1, A.2.2.2.2.1, hts⟩ : CallFix p m c (mt mi).2.2.1 (mt mi).2.2.2.1 s args q_wT (mt mi).1) (hM l) ⟨cw, hts _ h2, trivial⟩ ⟨q_blind, fun U hU hW => ⟨rfl, q_RS.of hR hU hW⟩⟩ rfl (List.length_map _) hl.1
    (by show (as.reverse ++ rest).map (q_vm E.1) = _; rw [List.map_append, List.map_reverse]) (lv_room hcat) hd ⟨by omega, by omega⟩
  refine q_call hr hR (fun v M1 H1 locs1 hq hR1 => ?_)
  have K := kk v M1 hq l p e R s m args below meth c H1 locs1 cells slots ls A hl hR1 hcc hss
  rw [List.map_append] at K
  cases v <;> exact K
theorem q_invN {host : String} {r ci nn : Nat} {refs : List (Option Nat)} {C : String} {T : u_T} {N : Nat} (hM : q_C mt Z E mj d 0 0 (.ref r :: as) M Q1) (hc : q_cell Z r = some (0, ci, nn, refs)) (hv : vwCl[ci]? = some (C, T, N)) (hC : (mt mj).2.1.cls = C)
    (h1 : ((mt mi).1, idx, (mt mj).2.1, host) ∈ q_nl) (h2 : Cond.instanceMethod (mt mj).2.1 ∈ q_wT) (h3 : Cond.selects C (mt mj).2.1 (mt mj).2.1 ∈ q_wT) (h4 : Cond.initialized C ∈ q_wT) (h5 : Cond.code (mt mj).2.1 (mt mj).2.2.1 (mt mj).2.2.2.1 (mt mj).2.2.2.2.1 ∈ q_wT)
    (hy : (mt mj).2.1.cls ≠ "java/lang/invoke/MethodHandle" ∧ (mt mj).2.1.cls ≠ "java/lang/invoke/VarHandle" ∧ (parseMethodDescriptor (mt mj).2.1.desc).map (fun d => d.parameters.length) = some as.length) (hL : (mt mj).2.2.2.1 ≤ 45) (hroom : (rest.map fun v => v.category).sum ≤ 8) (hd : decode (mt mi).2.2.1 pc = .ok (.invokevirtual idx, 3))
    (kk : ∀ (v : Option Value) (M1 : q_M), Q1 v M1 → q_G mt Z E mi (d + 1) rc rs Y (pc + 3) lv (v.toList ++ rest) M1) : q_G mt Z E mi (d + 1) rc rs Y pc lv (as.reverse ++ .ref r :: rest) M := by
  intro l p e R s m args below meth c H locs cells slots ls A hl hR hcc hss
  obtain ⟨r0, rfl⟩ := q_own hc (Nat.le_of_ble_eq_true rfl)
  have hts : ∀ w ∈ q_wT, w.before args s = true := fun w h => q_word A h
  have cw := va_cnB (R := R) (own := (mt mi).1) (host := host) (index := idx) (y := (mt mj).2.1) (bytes := (mt mj).2.2.1) (maxL := (mt mj).2.2.2.1) (ret := (mt mj).2.2.2.2.1) (ws := q_ws (mt mj)) (rm := q_room d 0 0) (mc := 0) (ms := 0) (ws' := q_wT) as.length hts (q_goodIn (q_ws_in h5)) rfl rfl rfl (hR.2.2.2.2.2.2.1 _ h1) (by rw [hC]; exact hts _ h4) hy ⟨A.2.2.2.2.2.2.2.1, by have := A.2.2.2.2.2.2.2.2; show 8 + ((mt mj).2.2.2.1 + 11) + 64 * d ≤ R.locals; omega⟩
  have hRk := hR
  obtain ⟨hK, ⟨sv, X, hP, hD, -⟩, -⟩ := hR
  have hcat : ((rest.map (q_vm E.1)).map fun v => v.category).sum ≤ 8 := by
    rw [List.map_map, show ((fun v => Value.category v) ∘ q_vm E.1) = (fun v => v.category) from funext (fun v => q_vm_cat E.1 v)]
    exact hroom
  have hr := va_runVN (e := e) (below := below) (meth := meth) (locs := locs) (cells := cells) (slots := slots) (C := C) (b := E.1 (r0 + 2)) (As := as.map (q_vm E.1)) (rest := rest.map (q_vm E.1)) (g := F0 m pc ls ((as.reverse ++ .ref (r0 + 2) :: rest).map (q_vm E.1)))
    (⟨A.1, A.2.1, A.2.2.2.1, A.2.2.2.2.1, hts⟩ : CallFix p m c (mt mi).2.2.1 (mt mi).2.2.2.1 s args q_wT (mt mi).1) (hM l) ⟨cw, hts _ h2, hts _ h3⟩ ⟨q_blind, va_recv hK hP hv (q_wl_at X hc), fun U hU hW => ⟨rfl, q_RS.of hRk hU hW⟩⟩ rfl (List.length_map _) hl.1
    (by show (as.reverse ++ .ref (r0 + 2) :: rest).map (q_vm E.1) = _; rw [List.map_append, List.map_reverse]; rfl) (lv_room hcat) hd ⟨by omega, by omega⟩
  refine q_call hr hRk (fun v M1 H1 locs1 hq hR1 => ?_)
  have K := kk v M1 hq l p e R s m args below meth c H1 locs1 cells slots ls A hl hR1 hcc hss
  rw [List.map_append] at K
  cases v <;> exact K
end QC
