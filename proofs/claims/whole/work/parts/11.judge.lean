/-! THE PURE JUDGEMENTS, and a row an instruction -/
def q_Q (Z : q_Z) (E : q_E) (Q : Option Value → q_M → Prop) : Array Value → State → Outcome → State → Prop := fun _ st o t => (∃ (v : Option Value) (M' : q_M), o = .returned (v.map (q_vm E.1)) ∧ Q v M' ∧ q_RS Z E M' t) ∧ va_F (q_A E) st t
def q_room (d rc rs : Nat) : Room := { frames := d, cells := rc, slots := rs, locals := 64 * d }
def q_ws (me : q_Me) : List Cond := Cond.code me.2.1 me.2.2.1 me.2.2.2.1 me.2.2.2.2.1 :: q_wT
def q_Act (me : q_Me) (d : Nat) (R : Room) (p : Program) (s : State) (m : MethodId) (args : Array Value) (meth : Method) (c : Code) : Prop :=
  p.tables.exec = Jvm.exec ∧ c.code = me.2.2.1 ∧ meth.sig.returnType = me.2.2.2.2.1 ∧ c.maxLocals = me.2.2.2.1 ∧ s.vm.findClass me.1 = some m.cls ∧ (∀ w ∈ q_wT, w.before args s = true) ∧ (meth.locks = false ∧ (me.2.1.name = "<init>" → meth.name = "<init>")) ∧ d ≤ R.frames ∧ 64 * d ≤ R.locals
/-- from method mi at pc, with these locals, stack and memory, at most d calls deep, it comes to its return with Q -/
def q_G (mt : Nat → q_Me) (Z : q_Z) (E : q_E) (mi d rc rs : Nat) (Y : Array Value → State → Outcome → State → Prop) (pc : Nat) (lv : q_L) (st : List Value) (M : q_M) : Prop :=
  ∀ (l : Launch) (p : Program) (e : Env) (R : Room) (s : State) (m : MethodId) (args : Array Value) (below : List Frame) (meth : Method) (c : Code) (H : Heap) (locs : List Loc) (cells slots : Nat) (ls : Array Slot),
    q_Act (mt mi) d R p s m args meth c → q_has E.1 ls (mt mi).2.2.2.1 lv → q_R Z E M s H locs → cells + rc ≤ R.cells → slots + rs ≤ R.slots →
    W p l e R s m args below meth c H locs cells slots (MQ below Y args s (cells + rc) (slots + rs) (q_A E)) (F0 m pc ls (st.map (q_vm E.1)))
/-- what a return gives -/
def q_Y (Z : q_Z) (E : q_E) (Y : Array Value → State → Outcome → State → Prop) (v : Option Value) (M : q_M) : Prop := ∀ (a : Array Value) (st t : State), q_RS Z E M t → va_F (q_A E) st t → Y a st (.returned (v.map (q_vm E.1))) t
theorem q_Y_Q {Z : q_Z} {E : q_E} {Q : Option Value → q_M → Prop} {v : Option Value} {M : q_M} (h : Q v M) : q_Y Z E (q_Q Z E Q) v M := fun _ _ _ h1 h2 => ⟨⟨v, M, rfl, h, h1⟩, h2⟩
/-- a call of method mi: what its contract is -/
def q_C (mt : Nat → q_Me) (Z : q_Z) (E : q_E) (mi d rc rs : Nat) (as : List Value) (M : q_M) (Q : Option Value → q_M → Prop) : Prop :=
  ∀ l : Launch, Met l (mt mi).2.1 (q_ws (mt mi)) (q_room d rc rs) (fun a U => a = (as.map (q_vm E.1)).toArray ∧ q_RS Z E M U) (q_Q Z E Q) rc rs (q_A E)
section QR
variable {mt : Nat → q_Me} {Z : q_Z} {E : q_E} {mi d rc rs : Nat} {Q : Option Value → q_M → Prop} {Y : Array Value → State → Outcome → State → Prop} {pc : Nat} {lv : q_L} {st : List Value} {M : q_M}
theorem q_C.of {as : List Value} (hy : plainName (mt mi).2.1.cls = true) (hown : (mt mi).2.1.cls = (mt mi).1) (hlen : (q_sls as).length ≤ (mt mi).2.2.2.1)
    (h : q_G mt Z E mi d rc rs (q_Q Z E Q) 0 (q_lv0 (mt mi).2.2.2.1 as) [] M) : q_C mt Z E mi d rc rs as M Q := by
  intro l
  refine Met.ofW (cc := (mt mi).2.2.1) (maxL := (mt mi).2.2.2.1) (ret := (mt mi).2.2.2.2.1) hy rfl ?_
  intro p e s m args below meth c s₁ B hml hv
  obtain ⟨rfl, hK, hP, hX, hn, hE, hN⟩ := hv
  have hts := atoms_spec (ws := q_ws (mt mi)) B.pre
  have hown' : s.vm.findClass (mt mi).1 = some m.cls := by rw [← hown]; exact findClass_of_methodNamed B.named
  have hl := lv_entry (as.map (q_vm E.1)) (n := (mt mi).2.2.2.1) (by rw [q_sls_len]; exact hlen)
  rw [lg_entry_eq]
  have h2 := h l p e (q_room d rc rs) s m (as.map (q_vm E.1)).toArray below meth c s.heap [] 0 0 _ ⟨B.exec, B.bytes, B.returns, hml, hown', (fun w h => hts w (List.mem_cons_of_mem _ h)), ⟨B.notSynchronized, fun h => by rw [(name_of_methodNamed B.named B.method).1]; exact h⟩, Nat.le_refl _, Nat.le_refl _⟩ (q_has0 hl) ⟨hK, hP, va_S.rf, hX, hn, hE, hN⟩ (by simp [q_room]) (by simp [q_room])
  rw [Nat.zero_add, Nat.zero_add] at h2
  exact h2
/-- a step that changes pc and stack alone -/
theorem q_step {pc' : Nat} {st' : List Value}
    (h : ∀ {l : Launch} {p : Program} {e : Env} {R : Room} {s : State} {m : MethodId} {args : Array Value} {below : List Frame} {meth : Method} {c : Code} {H : Heap} {locs : List Loc} {cells slots : Nat} {Q' : State → Prop} {ls : Array Slot}, q_Act (mt mi) d R p s m args meth c → q_has E.1 ls (mt mi).2.2.2.1 lv →
      W p l e R s m args below meth c H locs cells slots Q' (F0 m pc' ls (st'.map (q_vm E.1))) → W p l e R s m args below meth c H locs cells slots Q' (F0 m pc ls (st.map (q_vm E.1))))
    (k : q_G mt Z E mi d rc rs Y pc' lv st' M) : q_G mt Z E mi d rc rs Y pc lv st M :=
  fun l p e R s m args below meth c H locs cells slots ls A hl hR hc hs => h A hl (k l p e R s m args below meth c H locs cells slots ls A hl hR hc hs)
/-- a branch -/
theorem q_br {P : Prop} {pc1 pc2 : Nat} {st' : List Value}
    (h : ∀ {l : Launch} {p : Program} {e : Env} {R : Room} {s : State} {m : MethodId} {args : Array Value} {below : List Frame} {meth : Method} {c : Code} {H : Heap} {locs : List Loc} {cells slots : Nat} {Q' : State → Prop} {ls : Array Slot}, q_Act (mt mi) d R p s m args meth c →
      (P → W p l e R s m args below meth c H locs cells slots Q' (F0 m pc1 ls (st'.map (q_vm E.1)))) → (¬ P → W p l e R s m args below meth c H locs cells slots Q' (F0 m pc2 ls (st'.map (q_vm E.1)))) → W p l e R s m args below meth c H locs cells slots Q' (F0 m pc ls (st.map (q_vm E.1))))
    (k1 : P → q_G mt Z E mi d rc rs Y pc1 lv st' M) (k2 : ¬ P → q_G mt Z E mi d rc rs Y pc2 lv st' M) : q_G mt Z E mi d rc rs Y pc lv st M :=
  fun l p e R s m args below meth c H locs cells slots ls A hl hR hc hs => h A (fun q => k1 q l p e R s m args below meth c H locs cells slots ls A hl hR hc hs) (fun q => k2 q l p e R s m args below meth c H locs cells slots ls A hl hR hc hs)
/-- a step that changes a local -/
theorem q_loc {pc' : Nat} {lv' : q_L} {st' : List Value}
    (h : ∀ {l : Launch} {p : Program} {e : Env} {R : Room} {s : State} {m : MethodId} {args : Array Value} {below : List Frame} {meth : Method} {c : Code} {H : Heap} {locs : List Loc} {cells slots : Nat} {Q' : State → Prop} {ls : Array Slot}, q_Act (mt mi) d R p s m args meth c → q_has E.1 ls (mt mi).2.2.2.1 lv →
      (∀ ls' : Array Slot, q_has E.1 ls' (mt mi).2.2.2.1 lv' → W p l e R s m args below meth c H locs cells slots Q' (F0 m pc' ls' (st'.map (q_vm E.1)))) → W p l e R s m args below meth c H locs cells slots Q' (F0 m pc ls (st.map (q_vm E.1))))
    (k : q_G mt Z E mi d rc rs Y pc' lv' st' M) : q_G mt Z E mi d rc rs Y pc lv st M :=
  fun l p e R s m args below meth c H locs cells slots ls A hl hR hc hs => h A hl (fun ls' hl' => k l p e R s m args below meth c H locs cells slots ls' A hl' hR hc hs)
/-! answers -/
theorem q_iret {x : Int32} (hd : decode (mt mi).2.2.1 pc = .ok (.ireturn, 1)) {ty : FieldType} (ht : (mt mi).2.2.2.2.1 = some ty) (hn : narrow ty (.int x) = .int x) (h : q_Y Z E Y (some (.int x)) M) : q_G mt Z E mi d rc rs Y pc lv [.int x] M := by
  intro l p e R s m args below meth c H locs cells slots ls A hl hR hc hs
  refine W.widen (Nat.le_add_right cells rc) (Nat.le_add_right slots rs) ?_
  obtain ⟨hx, hb, hr, -, -, -, hlocks, -⟩ := A
  obtain ⟨hK, hP, hS, hX, hz, hE, hN⟩ := hR
  exact W.zret (v := x) hx hb (hr.trans ht) hn (fun t ht hW => h _ _ _ ⟨va_K.moved hW.alike hK, by rw [ht]; exact hP, (by rw [ht]; exact q_X.next hX hE.1 hz hS hW), by rw [ht]; exact Nat.le_trans hz hS.1, hE, hN.warm hW⟩ (hS.F ht)) hS.2.2 hd hlocks.1
theorem q_lret {x : Int64} (hd : decode (mt mi).2.2.1 pc = .ok (.lreturn, 1)) (ht : (mt mi).2.2.2.2.1 = some .long) (h : q_Y Z E Y (some (.long x)) M) : q_G mt Z E mi d rc rs Y pc lv [.long x] M := by
  intro l p e R s m args below meth c H locs cells slots ls A hl hR hc hs
  refine W.widen (Nat.le_add_right cells rc) (Nat.le_add_right slots rs) ?_
  obtain ⟨hx, hb, hr, -, -, -, hlocks, -⟩ := A
  obtain ⟨hK, hP, hS, hX, hz, hE, hN⟩ := hR
  exact W.lret (v := x) hx hb (hr.trans ht) (fun t ht hW => h _ _ _ ⟨va_K.moved hW.alike hK, by rw [ht]; exact hP, (by rw [ht]; exact q_X.next hX hE.1 hz hS hW), by rw [ht]; exact Nat.le_trans hz hS.1, hE, hN.warm hW⟩ (hS.F ht)) hS.2.2 hd hlocks.1
theorem q_vret (hd : decode (mt mi).2.2.1 pc = .ok (.return_, 1)) (ht : (mt mi).2.2.2.2.1 = none) (h : q_Y Z E Y none M) : q_G mt Z E mi d rc rs Y pc lv [] M := by
  intro l p e R s m args below meth c H locs cells slots ls A hl hR hc hs
  refine W.widen (Nat.le_add_right cells rc) (Nat.le_add_right slots rs) ?_
  obtain ⟨hx, hb, hr, -, -, -, hlocks, -⟩ := A
  obtain ⟨hK, hP, hS, hX, hz, hE, hN⟩ := hR
  exact W.vret hx hb (hr.trans ht) (fun t ht hW => h _ _ _ ⟨va_K.moved hW.alike hK, by rw [ht]; exact hP, (by rw [ht]; exact q_X.next hX hE.1 hz hS hW), by rw [ht]; exact Nat.le_trans hz hS.1, hE, hN.warm hW⟩ (hS.F ht)) hS.2.2 hd hlocks.1
end QR
