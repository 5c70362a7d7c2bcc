/-! THE START: the places, out of what holds at the law's entry; the end -/
theorem w_inst {i : Nat} {C : String} {T : u_T} {n : Nat} (h : vwCl[i]? = some (C, T, n)) : Cond.instantiable C n ∈ q_wT := by
  match i, h with
  | 0, h => cases h; exact q_in_mem (j := 790) (by decide +kernel)
  | 1, h => cases h; exact q_in_mem (j := 587) (by decide +kernel)
  | 2, h => cases h; exact q_in_mem (j := 352) (by decide +kernel)
  | 3, h => cases h; exact q_in_mem (j := 346) (by decide +kernel)
  | 4, h => cases h; exact q_in_mem (j := 507) (by decide +kernel)
  | 5, h => cases h; exact q_in_mem (j := 749) (by decide +kernel)
  | 6, h => cases h; exact q_in_mem (j := 606) (by decide +kernel)
  | 7, h => cases h; exact q_in_mem (j := 661) (by decide +kernel)
  | 8, h => cases h; exact q_in_mem (j := 714) (by decide +kernel)
  | 9, h => cases h; exact q_in_mem (j := 520) (by decide +kernel)
  | 10, h => cases h; exact q_in_mem (j := 240) (by decide +kernel)
  | 11, h => cases h; exact q_in_mem (j := 680) (by decide +kernel)
  | 12, h => cases h; exact q_in_mem (j := 232) (by decide +kernel)
  | 13, h => cases h; exact q_in_mem (j := 1963) (by decide +kernel)
  | k + 14, h => simp [vwCl] at h
theorem w_wT {s : State} {a : Array Value} (hts : ∀ w ∈ lw_tbl, w.before a s = true) : ∀ w ∈ q_wT, w.before a s = true := fun w h => hts w (List.mem_filter.mp h).1
theorem w_arr {s : State} {a : Array Value} {ty : FieldType} (h : (Cond.arrayClass ty).before a s = true) : ∃ cA, s.vm.findClass ("[" ++ ty.toString) = some cA ∧ ArrOfT s cA ty := by
  obtain ⟨c, k, comp, h1, h2, h3⟩ := Cond.arrayClass_spec h
  exact ⟨c, h1, fun n z => ⟨fun k h => (by cases h), k, h2, comp, h3⟩⟩
theorem w_nl : ∀ q ∈ q_nl, Cond.methodLinkNest q.1 q.2.1 q.2.2.1 q.2.2.2 ∈ lw_tbl := List.forall_mem_cons.mpr ⟨List.mem_of_getElem? (i := 1000) (by decide +kernel), List.forall_mem_cons.mpr ⟨List.mem_of_getElem? (i := 1257) (by decide +kernel), List.forall_mem_cons.mpr ⟨List.mem_of_getElem? (i := 1387) (by decide +kernel), List.forall_mem_cons.mpr ⟨List.mem_of_getElem? (i := 1554) (by decide +kernel), List.forall_mem_cons.mpr ⟨List.mem_of_getElem? (i := 1797) (by decide +kernel), fun _ h => absurd h List.not_mem_nil⟩⟩⟩⟩⟩

theorem w_env {s : State} {a v b L : Nat} {xs : Nat → Int32} (hJ : q_J (fun q => s.heap.size ≤ q) a v s s.heap) (hts : ∀ w ∈ lw_tbl, w.before #[Value.ref b] s = true) (hX : va_X b L xs s s.heap) (hb : b < s.heap.size) :
    ∃ E : q_E, E.1 0 = b ∧ E.2.2.2.1 = s.heap.size ∧ zb_E E ∧ q_R (L, xs, []) E d_M0 s s.heap [] := by
  have hw := w_wT hts
  have hcl : ∀ c : Nat, ∃ x : ClassId × (Nat → Nat), ∀ q, vwCl[c]? = some q → u_Kn s q.1 q.2.1 q.2.2 x.1 x.2 := by
    intro c
    cases hc : vwCl[c]? with
    | none => exact ⟨(0, fun _ => 0), fun q h => by cases h⟩
    | some q =>
      obtain ⟨C, T, n⟩ := q
      obtain ⟨ty0, hws, -, -⟩ := q_cls hc
      obtain ⟨cC, iS, hk⟩ := u_known (ws := q_wT) (T := T) (N := n) hw hws (hw _ (w_inst hc))
      exact ⟨(cC, iS), fun q h => by cases h; exact hk⟩
  obtain ⟨cI, i1, i2⟩ := w_arr (hw _ q_ka_int)
  obtain ⟨cJ, j1, j2⟩ := w_arr (hw _ q_ka_long)
  obtain ⟨cZ, z1, z2⟩ := w_arr (hw _ q_ka_boolean)
  obtain ⟨cB, b1, b2⟩ := w_arr (hw _ q_ka_byte)
  have hao : va_AO "DropTwo$State" s := va_AO.of (hts (.arrayOver (.object "DropTwo$State")) (List.mem_of_getElem? (i := 585) (by decide +kernel)))
  obtain ⟨comp, cS, kS, s1, s2, s3, s4, s5⟩ := Cond.arrayOver_spec hao
  let D : va_G := (fun c => (Classical.choose (hcl c)).1, fun c => (Classical.choose (hcl c)).2)
  let cA : Nat → ClassId := fun k => match k with
    | 1 => cI
    | 2 => cJ
    | 3 => cZ
    | 4 => cS
    | 9 => v
    | _ => cB
  refine ⟨(fun k => bif Nat.beq k 1 then a else b, D, cA, s.heap.size, 270, zb_P cB), rfl, rfl, rfl, ⟨⟨fun c q hq => ?_, fun k q hk => ?_⟩, ⟨[], [], ?_, ?_, ⟨fun h => absurd h (by decide), fun h => absurd h (by decide), fun _ => ⟨rfl, rfl⟩⟩⟩, va_S.rf, ⟨hX, hJ⟩, Nat.le_refl _, ⟨hb, fun M M' sv X h p => zb_P.eq h p, fun h hh => ?_⟩, ⟨fun q hq => va_Nw.of rfl (hts _ (w_nl q hq)), hao⟩⟩⟩
  · exact Classical.choose_spec (hcl c) q hq
  · match k, hk with
    | 0, hk => cases hk; exact ⟨i2, i1⟩
    | 1, hk => cases hk; exact ⟨j2, j1⟩
    | 2, hk => cases hk; exact ⟨z2, z1⟩
    | 3, hk => cases hk; exact ⟨fun n z => ⟨fun k h => (by cases h), kS, s3, comp, s4⟩, kS, comp, s3, s4, s1, s5⟩
    | 4, hk => cases hk; exact ⟨b2, b1⟩
    | k + 5, hk => cases hk
  · intro k q hk; cases hk
  · exact ⟨fun i j p q hi => (by cases hi), fun k q hk => (by cases hk)⟩
  · cases hh
/-- the law's end, out of the engine's -/
theorem w_mq {s t : State} {below : List Frame} {b C S : Nat} {E : q_E} (hn : E.2.2.2.1 = s.heap.size) (hC : C ≤ 600000) (hS : S ≤ 7302250) (h : MQ below (fun _ _ o _ => o = .returned (some (.int 1))) #[Value.ref b] s C S (q_A E) t) : lw_Z below #[Value.ref b] s t := by
  obtain ⟨o, h1, h2, h3, L, ⟨h4, h5, h6⟩, h7⟩ := h
  refine ⟨o, h1, h2, h3, h4, h5, h6.weaken (fun y hy hlt => ?_) hC hS⟩
  have := h7 y hy
  unfold q_A at this
  rw [hn] at this
  exact absurd hlt (Nat.not_lt.mpr this)
theorem w_mono {p : Program} {l : Launch} {e : Env} {R : Room} {s : State} {m : MethodId} {args : Array Value} {below : List Frame} {meth : Method} {c : Code} {H : Heap} {locs : List Loc} {cells slots : Nat} {Q Q' : State → Prop} {g : JFrame} (h : ∀ t, Q t → Q' t) (w : W p l e R s m args below meth c H locs cells slots Q g) : W p l e R s m args below meth c H locs cells slots Q' g := fun T hT X => by
  obtain ⟨t, a, b⟩ := w T hT X
  exact ⟨t, a, h t b⟩
