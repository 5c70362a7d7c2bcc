/-! constructors in closed form: object r0 being made over the cells Z0, 'arr' behind them -/
theorem q_dec {mt : Nat → q_Me} {me : q_Me} (hrw : me.2.2.2.2.2.all (q_rck mt 438 me) = true) {r : q_I} (h : r ∈ me.2.2.2.2.2) : decode me.2.2.1 r.1 = .ok (r.2.1, r.2.2.1) := by
  have hr := List.all_eq_true.mp hrw r h
  unfold q_rck at hr
  rw [Bool.and_eq_true, Bool.and_eq_true] at hr
  exact of_decide_eq_true hr.1.1
def q_zc (Z0 : q_Z) (r0 : Nat) (g : q_Sh) (arr : List q_Sh) : q_Z := (Z0.1, Z0.2.1, Z0.2.2.set r0 g ++ arr)
theorem q_zc.len {Z0 : q_Z} {r0 : Nat} {g : q_Sh} {arr : List q_Sh} : (q_zc Z0 r0 g arr).2.2.length = Z0.2.2.length + arr.length := by
  show (Z0.2.2.set r0 g ++ arr).length = _
  rw [List.length_append, List.length_set]
theorem q_zc.more {Z0 : q_Z} {r0 : Nat} {g a : q_Sh} {arr : List q_Sh} : q_more (q_zc Z0 r0 g arr) a = q_zc Z0 r0 g (arr ++ [a]) := by
  show (Z0.1, Z0.2.1, (Z0.2.2.set r0 g ++ arr) ++ [a]) = (Z0.1, Z0.2.1, Z0.2.2.set r0 g ++ (arr ++ [a]))
  rw [List.append_assoc]
theorem q_zc.set {Z0 : q_Z} {r0 : Nat} {g g' : q_Sh} {arr : List q_Sh} (h : r0 < Z0.2.2.length) : q_zset (q_zc Z0 r0 g arr) r0 g' = q_zc Z0 r0 g' arr := by
  show (Z0.1, Z0.2.1, (Z0.2.2.set r0 g ++ arr).set r0 g') = (Z0.1, Z0.2.1, Z0.2.2.set r0 g' ++ arr)
  rw [List.set_append_left _ _ (by rw [List.length_set]; exact h), List.set_set]
theorem q_zc.cell {Z0 : q_Z} {r0 : Nat} {g : q_Sh} {arr : List q_Sh} (h : r0 < Z0.2.2.length) : q_cell (q_zc Z0 r0 g arr) (r0 + 2) = some g := by
  show (Z0.2.2.set r0 g ++ arr)[r0]? = some g
  rw [List.getElem?_append_left (by rw [List.length_set]; exact h), List.getElem?_set_self h]
theorem q_zc.start {Z0 : q_Z} {r0 : Nat} {g : q_Sh} (h : Z0.2.2[r0]? = some g) : Z0 = q_zc Z0 r0 g [] := by
  have e : Z0.2.2.set r0 g = Z0.2.2 := by
    apply List.ext_getElem?
    intro j
    by_cases ej : r0 = j
    · subst ej
      rw [List.getElem?_set_self (List.getElem?_eq_some_iff.mp h).1, h]
    · rw [List.getElem?_set_ne ej]
  show Z0 = (Z0.1, Z0.2.1, Z0.2.2.set r0 g ++ [])
  rw [e, List.append_nil]
/-- an object made within another's constructor -/
theorem q_zc.nest {Z0 : q_Z} {r0 k : Nat} {g x g1 : q_Sh} {arr arr1 : List q_Sh} (hk : k = Z0.2.2.length + arr.length) : q_zc (q_zc Z0 r0 g (arr ++ [x])) k g1 arr1 = q_zc Z0 r0 g (arr ++ g1 :: arr1) := by
  show (Z0.1, Z0.2.1, (Z0.2.2.set r0 g ++ (arr ++ [x])).set k g1 ++ arr1) = (Z0.1, Z0.2.1, Z0.2.2.set r0 g ++ (arr ++ g1 :: arr1))
  have e : (Z0.2.2.set r0 g ++ (arr ++ [x])).set k g1 = Z0.2.2.set r0 g ++ (arr ++ [g1]) := by
    rw [← List.append_assoc, List.set_append_right _ _ (by rw [List.length_append, List.length_set]; omega), List.length_append, List.length_set, hk, Nat.sub_self, ← List.append_assoc]
    rfl
  rw [e, List.append_assoc, List.append_assoc]
  rfl
theorem q_wr.mono {n m : Nat} (h : n ≤ m) : ∀ {l : List (Option Nat)}, q_wr n l = true → q_wr m l = true
  | [], _ => rfl
  | some k :: l, hl => by
    unfold q_wr at hl ⊢
    rw [Bool.and_eq_true] at hl ⊢
    exact ⟨Nat.ble_eq_true_of_le (Nat.le_trans (Nat.le_of_ble_eq_true hl.1) h), q_wr.mono h hl.2⟩
  | none :: l, hl => by
    unfold q_wr at hl ⊢
    exact q_wr.mono h hl
theorem q_wr.setr {n k v : Nat} (hv : v < n) : ∀ {l : List (Option Nat)}, q_wr n l = true → ∀ k, q_wr n (l.set k (some v)) = true
  | [], _, _ => rfl
  | some w :: l, hl, 0 => by
    unfold q_wr at hl
    rw [Bool.and_eq_true] at hl
    show (Nat.blt v n && q_wr n l) = true
    rw [Bool.and_eq_true]
    exact ⟨Nat.ble_eq_true_of_le hv, hl.2⟩
  | none :: l, hl, 0 => by
    unfold q_wr at hl
    show (Nat.blt v n && q_wr n l) = true
    rw [Bool.and_eq_true]
    exact ⟨Nat.ble_eq_true_of_le hv, hl⟩
  | some w :: l, hl, k + 1 => by
    unfold q_wr at hl
    rw [Bool.and_eq_true] at hl
    show (Nat.blt w n && q_wr n (l.set k (some v))) = true
    rw [Bool.and_eq_true]
    exact ⟨hl.1, q_wr.setr (k := k) hv hl.2 k⟩
  | none :: l, hl, k + 1 => by
    unfold q_wr at hl
    exact q_wr.setr (k := k) hv hl k
/-- what is carried through a constructor: the shapes are sound, what comes is blank, the StringBuilder's cell lies behind -/
def q_cok (Z0 : q_Z) (r0 : Nat) (g : q_Sh) (arr : List q_Sh) (E : q_E) (M : q_M) : Prop := r0 < Z0.2.2.length ∧ q_wf Z0.2.2 (Z0.2.2.length + 2) ∧ q_wr (Z0.2.2.length + arr.length + 2) g.2.2.2 = true ∧ (∀ a ∈ arr, q_wr (Z0.2.2.length + arr.length + 2) a.2.2.2 = true) ∧ q_zero M (Z0.2.2.length + arr.length + 2) ∧ E.2.2.2.2.1 = 270 ∧ (Z0.2.2.length + arr.length + 2 ≤ 270 ∨ 271 ≤ r0 + 2)
theorem q_cok.wf {Z0 : q_Z} {r0 : Nat} {g : q_Sh} {arr : List q_Sh} {E : q_E} {M : q_M} (h : q_cok Z0 r0 g arr E M) : q_wf (q_zc Z0 r0 g arr).2.2 ((q_zc Z0 r0 g arr).2.2.length + 2) := by
  intro a ha
  rw [q_zc.len]
  rcases List.mem_append.mp ha with h1 | h1
  · rcases List.mem_or_eq_of_mem_set h1 with h2 | h2
    · exact q_wr.mono (by omega) (h.2.1 a h2)
    · rw [h2]; exact h.2.2.1
  · exact h.2.2.2.1 a h1
theorem q_cok.fit {Z0 : q_Z} {r0 : Nat} {g : q_Sh} {arr : List q_Sh} {E : q_E} {M : q_M} {lv : q_L} {st : List Value} (h : q_cok Z0 r0 g arr E M) (hl : q_ol (Z0.2.2.length + arr.length + 2) lv = true) (hs : q_os (Z0.2.2.length + arr.length + 2) st = true) (h7 : Z0.2.2.length + arr.length + 3 ≤ 270 ∨ 271 ≤ r0 + 2) : q_fit (q_zc Z0 r0 g arr) E lv st M := by
  refine ⟨by rw [q_zc.len]; exact hl, by rw [q_zc.len]; exact hs, h.wf, ?_, fun r hr => h.2.2.2.2.1 r (by rw [q_zc.len] at hr; omega)⟩
  rw [q_zc.len, h.2.2.2.2.2.1]
  have := h.1
  rcases h7 with h7 | h7 <;> omega
theorem q_cok.more {Z0 : q_Z} {r0 : Nat} {g a : q_Sh} {arr : List q_Sh} {E E' : q_E} {M : q_M} (h : q_cok Z0 r0 g arr E M) (he : E'.2 = E.2) (ha : q_wr (Z0.2.2.length + arr.length + 3) a.2.2.2 = true) (h7 : Z0.2.2.length + arr.length + 3 ≤ 270 ∨ 271 ≤ r0 + 2) : q_cok Z0 r0 g (arr ++ [a]) E' M := by
  refine ⟨h.1, h.2.1, ?_, ?_, fun r hr => h.2.2.2.2.1 r (by simp only [List.length_append, List.length_cons, List.length_nil] at hr; omega), by rw [he]; exact h.2.2.2.2.2.1, ?_⟩
  · exact q_wr.mono (by simp only [List.length_append, List.length_cons, List.length_nil]; omega) h.2.2.1
  · intro b hb
    rcases List.mem_append.mp hb with h1 | h1
    · exact q_wr.mono (by simp only [List.length_append, List.length_cons, List.length_nil]; omega) (h.2.2.2.1 b h1)
    · rw [List.mem_singleton.mp h1]
      exact q_wr.mono (by simp only [List.length_append, List.length_cons, List.length_nil]; omega) ha
  · rw [List.length_append]
    simp
    omega
theorem q_cok.ref {Z0 : q_Z} {r0 t c n k v : Nat} {refs : List (Option Nat)} {arr : List q_Sh} {E : q_E} {M : q_M} (h : q_cok Z0 r0 (t, c, n, refs) arr E M) (hv : v < Z0.2.2.length + arr.length + 2) : q_cok Z0 r0 (t, c, n, refs.set k (some v)) arr E M :=
  ⟨h.1, h.2.1, q_wr.setr (k := k) hv h.2.2.1 k, h.2.2.2⟩
theorem q_cok.si {Z0 : q_Z} {r0 i : Nat} {x : Int32} {g : q_Sh} {arr : List q_Sh} {E : q_E} {M : q_M} (h : q_cok Z0 r0 g arr E M) : q_cok Z0 r0 g arr E (q_si M (r0 + 2) i x) := by
  refine ⟨h.1, h.2.1, h.2.2.1, h.2.2.2.1, fun r hr j => ?_, h.2.2.2.2.2⟩
  have := h.1
  rw [q_si_ne (by omega)]
  exact h.2.2.2.2.1 r hr j
theorem q_zc.last {Z0 : q_Z} {r0 k : Nat} {g x : q_Sh} {arr : List q_Sh} (hk : k = Z0.2.2.length + arr.length) : (q_zc Z0 r0 g (arr ++ [x])).2.2[k]? = some x := by
  show (Z0.2.2.set r0 g ++ (arr ++ [x]))[k]? = some x
  rw [← List.append_assoc, List.getElem?_append_right (by rw [List.length_append, List.length_set]; omega), List.length_append, List.length_set, hk, Nat.sub_self]
  rfl
theorem q_cok.zero {Z0 : q_Z} {r0 : Nat} {g : q_Sh} {arr : List q_Sh} {E : q_E} {M : q_M} (h : q_cok Z0 r0 g arr E M) : q_zero M ((q_zc Z0 r0 g arr).2.2.length + 2) := by
  rw [q_zc.len]
  exact h.2.2.2.2.1
theorem q_decI {mi : Nat} (hmi : mi < 436) {pc len : Nat} {i : Instr} {site : List Nat} (h : (pc, i, len, site) ∈ (q_mt mi).2.2.2.2.2) : decode (q_mt mi).2.2.1 pc = .ok (i, len) := by
  have hk := (q_ok.1 mi hmi).2.2.2.2
  generalize q_mt mi = me at hk h ⊢
  exact q_dec (mt := q_mt) (me := me) hk (r := (pc, i, len, site)) h
section KK
variable {Z0 : q_Z} {E : q_E} {mi d rc rs r0 : Nat} {Y : Array Value → State → Outcome → State → Prop} {pc idx : Nat} {lv : q_L} {st : List Value} {M : q_M} {g : q_Sh} {arr : List q_Sh}
theorem k_newa {at_ : ArrayType} {kd nn : Nat} {x : Int32} (hmi : mi < 436) (hm : (pc, Instr.newarray at_, 2, []) ∈ (q_mt mi).2.2.2.2.2) (hk : (at_ = .int ∧ kd = 1) ∨ (at_ = .long ∧ kd = 2) ∨ (at_ = .boolean ∧ kd = 3)) (h1 : Cond.arrayClass (newarray.typeOf at_) ∈ q_wT) (hx : ¬ x < 0) (hn : x.toNatClampNeg = nn) (hb : nn ≤ 60000000) (hc : q_cok Z0 r0 g arr E M) (hl : q_ol (Z0.2.2.length + arr.length + 2) lv = true) (hs : q_os (Z0.2.2.length + arr.length + 2) st = true) (h7 : Z0.2.2.length + arr.length + 3 ≤ 270 ∨ 271 ≤ r0 + 2)
    (kk : ∀ E', q_ext (Z0.2.2.length + 2) E E' → q_cok Z0 r0 g (arr ++ [(kd, 0, nn, [])]) E' M → q_G q_mt (q_zc Z0 r0 g (arr ++ [(kd, 0, nn, [])])) E' mi d rc rs Y (pc + 2) lv (.ref (Z0.2.2.length + arr.length + 2) :: st) M) : q_G q_mt (q_zc Z0 r0 g arr) E mi d (rc + 1) (rs + nn) Y pc lv (.int x :: st) M := by
  refine q_newa hk h1 hx hn hb (hc.fit hl hs h7) (q_decI hmi hm) (fun E' he => ?_)
  rw [q_zc.len] at he ⊢
  rw [q_zc.more]
  exact kk E' ⟨fun k hk => he.1 k (by omega), he.2⟩ (hc.more he.2 rfl h7)
theorem k_new {ci : Nat} {C : String} {T : u_T} {N : Nat} (hmi : mi < 436) (hm : (pc, Instr.new idx, 3, []) ∈ (q_mt mi).2.2.2.2.2) (hv : vwCl[ci]? = some (C, T, N)) (h1 : Cond.classLink (q_mt mi).1 idx C ∈ q_wT) (h2 : Cond.instantiable C N ∈ q_wT) (h3 : Cond.initialized C ∈ q_wT) (hc : q_cok Z0 r0 g arr E M) (hl : q_ol (Z0.2.2.length + arr.length + 2) lv = true) (hs : q_os (Z0.2.2.length + arr.length + 2) st = true) (h7 : Z0.2.2.length + arr.length + 3 ≤ 270 ∨ 271 ≤ r0 + 2)
    (kk : ∀ E', q_ext (Z0.2.2.length + 2) E E' → q_cok Z0 r0 g (arr ++ [(0, ci, N, List.replicate N none)]) E' M → q_G q_mt (q_zc Z0 r0 g (arr ++ [(0, ci, N, List.replicate N none)])) E' mi d rc rs Y (pc + 3) lv (.ref (Z0.2.2.length + arr.length + 2) :: st) M) : q_G q_mt (q_zc Z0 r0 g arr) E mi d (rc + 1) (rs + N) Y pc lv st M := by
  refine q_new hv h1 h2 h3 (hc.fit hl hs h7) (q_decI hmi hm) (fun E' he => ?_)
  rw [q_zc.len] at he ⊢
  rw [q_zc.more]
  exact kk E' ⟨fun k hk => he.1 k (by omega), he.2⟩ (hc.more he.2 q_wr_nones h7)
theorem k_putr {ci k n v : Nat} {refs : List (Option Nat)} {C : String} {T : u_T} {N : Nat} {ty : FieldType} (hmi : mi < 436) (hm : (pc, Instr.putfield idx, 3, []) ∈ (q_mt mi).2.2.2.2.2) (hv : vwCl[ci]? = some (C, T, N)) (hk : k < N ∧ k < n ∧ k < refs.length) (hl : Cond.fieldLink (q_mt mi).1 idx C (T k).2.1 (T k).2.2.1 ∈ q_wT) (hT : (T k).1 = C ∧ (q_mt mi).1 = C ∧ (q_mt mi).2.1.name = "<init>") (hty : parseFieldDescriptor (T k).2.2.1 = some ty) (hrt : (∃ x, ty = .object x) ∨ ∃ x, ty = .array x) (hfk : q_fk ci k = 2) (hc : q_cok Z0 r0 (0, ci, n, refs) arr E M) (hvv : v < Z0.2.2.length + arr.length + 2) (h7 : r0 + 2 < 270 ∨ 271 ≤ r0 + 2)
    (kk : q_cok Z0 r0 (0, ci, n, refs.set k (some v)) arr E M → q_G q_mt (q_zc Z0 r0 (0, ci, n, refs.set k (some v)) arr) E mi d rc rs Y (pc + 3) lv st M) : q_G q_mt (q_zc Z0 r0 (0, ci, n, refs) arr) E mi d rc rs Y pc lv (.ref v :: .ref (r0 + 2) :: st) M := by
  refine q_putr (q_zc.cell hc.1) hv hk.1 hk.2.1 hk.2.2 hl hT.1 hT.2.1 hT.2.2 hty hrt hfk (by rw [hc.2.2.2.2.2.1]; omega) (q_decI hmi hm) ?_
  rw [q_zc.set hc.1]
  exact kk (hc.ref hvv)
theorem k_obj {r : Nat} (hmi : mi < 436) (hm : (pc, Instr.invokespecial idx, 3, []) ∈ (q_mt mi).2.2.2.2.2) (h1 : Cond.methodLink (q_mt mi).1 idx Lib.objectInit ∈ q_wT) (h2 : Cond.instanceMethod Lib.objectInit ∈ q_wT) (h3 : Cond.code Lib.objectInit ⟨#[0xb1]⟩ 1 none ∈ q_wT)
    (kk : q_G q_mt (q_zc Z0 r0 g arr) E mi (d + 1) rc rs Y (pc + 3) lv [] M) : q_G q_mt (q_zc Z0 r0 g arr) E mi (d + 1) rc rs Y pc lv [.ref r] M :=
  q_obj h1 h2 h3 (by decide) (q_decI hmi hm) kk
/-- an int field of the object, in its constructor -/
theorem k_puti {ci k n : Nat} {refs : List (Option Nat)} {C : String} {T : u_T} {N : Nat} {x : Int32} (hmi : mi < 436) (hm : (pc, Instr.putfield idx, 3, []) ∈ (q_mt mi).2.2.2.2.2) (hv : vwCl[ci]? = some (C, T, N)) (hk : k < N ∧ k < n) (hl : Cond.fieldLink (q_mt mi).1 idx C (T k).2.1 (T k).2.2.1 ∈ q_wT) (hT : (T k).1 = C) (hfin : (T k).2.2.2 = false) (hty : parseFieldDescriptor (T k).2.2.1 = some .int) (hfk : q_fk ci k = 0) (hc : q_cok Z0 r0 (0, ci, n, refs) arr E M)
    (kk : q_cok Z0 r0 (0, ci, n, refs) arr E (q_si M (r0 + 2) k x) → q_G q_mt (q_zc Z0 r0 (0, ci, n, refs) arr) E mi d rc rs Y (pc + 3) lv st (q_si M (r0 + 2) k x)) : q_G q_mt (q_zc Z0 r0 (0, ci, n, refs) arr) E mi d rc rs Y pc lv (.int x :: .ref (r0 + 2) :: st) M :=
  q_puti (q_zc.cell hc.1) hv hk.1 hk.2 hl hT hfin hty rfl rfl (Or.inl hfk) (q_decI hmi hm) (kk hc.si)
/-- a reference field is read -/
theorem k_get {ci k n v : Nat} {refs : List (Option Nat)} {C : String} {T : u_T} {N : Nat} {site : List Nat} (hmi : mi < 436) (hm : (pc, Instr.getfield idx, 3, site) ∈ (q_mt mi).2.2.2.2.2) (hv : vwCl[ci]? = some (C, T, N)) (hk : k < N ∧ k < n) (hl : Cond.fieldLink (q_mt mi).1 idx C (T k).2.1 (T k).2.2.1 ∈ q_wT) (hT : (T k).1 = C) (hfk : q_fk ci k = 2) (hrf : refs.getD k none = some v) (hc : q_cok Z0 r0 (0, ci, n, refs) arr E M)
    (kk : q_G q_mt (q_zc Z0 r0 (0, ci, n, refs) arr) E mi d rc rs Y (pc + 3) lv (.ref v :: st) M) : q_G q_mt (q_zc Z0 r0 (0, ci, n, refs) arr) E mi d rc rs Y pc lv (.ref (r0 + 2) :: st) M := by
  refine q_get (q_zc.cell hc.1) hv hk.1 hk.2 hl hT (q_decI hmi hm) ?_
  rw [hfk, hrf]
  exact kk
/-- an object's constructor within another's -/
theorem k_ini {mj c1 s1 k : Nat} {as : List Value} {x g1 : q_Sh} {arr1 : List q_Sh} {M1 : q_M} (hk : k = Z0.2.2.length + arr.length) (hmi : mi < 436) (hmj : mj < 436) (hm : (pc, Instr.invokespecial idx, 3, []) ∈ (q_mt mi).2.2.2.2.2)
    (hM : q_CK q_mt (q_zc Z0 r0 g (arr ++ [x])) E mj d c1 s1 (.ref (k + 2) :: as) M (fun Z' E' M' => Z' = q_zc (q_zc Z0 r0 g (arr ++ [x])) k g1 arr1 ∧ M' = M1 ∧ E'.2 = E.2))
    (hn1 : (q_mt mj).2.1.name = "<init>") (hrn : (q_mt mj).2.2.2.2.1 = none) (h1 : Cond.methodLink (q_mt mi).1 idx (q_mt mj).2.1 ∈ q_wT) (h2 : Cond.instanceMethod (q_mt mj).2.1 ∈ q_wT) (h4 : Cond.initialized (q_mt mj).2.1.cls ∈ q_wT) (hy : q_yok (q_mt mj) as.length = true) (hroom : (st.map fun v => v.category).sum ≤ 8)
    (hc : q_cok Z0 r0 g (arr ++ [x]) E M) (ho : q_ol (Z0.2.2.length + arr.length + 3) lv = true) (hos : q_os (Z0.2.2.length + arr.length + 3) st = true) (hg1 : q_wr (Z0.2.2.length + arr.length + arr1.length + 3) g1.2.2.2 = true) (ha1 : ∀ a ∈ arr1, q_wr (Z0.2.2.length + arr.length + arr1.length + 3) a.2.2.2 = true) (hz1 : q_zero M1 (Z0.2.2.length + arr.length + arr1.length + 3)) (h7 : Z0.2.2.length + arr.length + arr1.length + 3 ≤ 270 ∨ 271 ≤ r0 + 2)
    (kk : ∀ E', q_ext (Z0.2.2.length + 2) E E' → q_cok Z0 r0 g (arr ++ g1 :: arr1) E' M1 → q_G q_mt (q_zc Z0 r0 g (arr ++ g1 :: arr1)) E' mi (d + 1) rc rs Y (pc + 3) lv st M1) : q_G q_mt (q_zc Z0 r0 g (arr ++ [x])) E mi (d + 1) (rc + c1) (rs + s1) Y pc lv (as.reverse ++ .ref (k + 2) :: st) M := by
  have hl1 : (q_zc Z0 r0 g (arr ++ [x])).2.2.length + 2 = Z0.2.2.length + arr.length + 3 := by
    rw [q_zc.len]
    simp only [List.length_append, List.length_cons, List.length_nil]
    omega
  refine q_ini hM hn1 hrn h1 h2 h4 (q_ok.1 mj hmj).2.2.1 (q_yok.el hy) (q_ok.1 mj hmj).2.2.2.1 hroom (by rw [hl1]; exact ho) (by rw [hl1]; exact hos) (q_decI hmi hm) (fun Z' E' M' he hq => ?_)
  obtain ⟨e1, e2, e3⟩ := hq
  subst e1
  subst e2
  rw [q_zc.nest hk]
  rw [hl1] at he
  refine kk E' ⟨fun j hj => he.1 j (by omega), he.2⟩ ⟨hc.1, hc.2.1, ?_, ?_, ?_, by rw [e3]; exact hc.2.2.2.2.2.1, ?_⟩
  · exact q_wr.mono (by simp only [List.length_append, List.length_cons, List.length_nil]; omega) hc.2.2.1
  · intro b hb
    rcases List.mem_append.mp hb with h | h
    · exact q_wr.mono (by simp only [List.length_append, List.length_cons, List.length_nil]; omega) (hc.2.2.2.1 b (List.mem_append_left _ h))
    · rcases List.mem_cons.mp h with h | h
      · rw [h]; exact q_wr.mono (by simp only [List.length_append, List.length_cons]; omega) hg1
      · exact q_wr.mono (by simp only [List.length_append, List.length_cons]; omega) (ha1 b h)
  · intro r hr
    exact hz1 r (by simp only [List.length_append, List.length_cons] at hr; omega)
  · simp only [List.length_append, List.length_cons]
    omega
/-- straight rows up to a place -/
theorem k_go {Z : q_Z} (hmi : mi < 436) (n : Nat) (c : Nat) (h : q_wp q_mt Z E mi d rc rs Y (fun _ _ => False) [c] n (q_seek pc (q_mt mi).2.2.2.2.2) lv st M) : q_G q_mt Z E mi d rc rs Y pc lv st M :=
  q_goY q_ok (fun _ _ h => h.elim) (q_ok.1 mi hmi).2.2.2.2 n [c] h
/-- the end of a constructor -/
theorem k_ret {Z Z1 : q_Z} {E0 : q_E} {Q : q_Z → q_E → q_M → Prop} (hmi : mi < 436) (hm : (pc, Instr.return_, 1, []) ∈ (q_mt mi).2.2.2.2.2) (hr : (q_mt mi).2.2.2.2.1 = none) (he : q_ext (Z1.2.2.length + 2) E0 E) (hz : Z.1 = Z1.1 ∧ Z.2.1 = Z1.2.1) (h : Q Z E M) : q_G q_mt Z E mi d rc rs (q_YK Z1 E0 Q) pc lv [] M :=
  q_vret (q_decI hmi hm) hr (q_Y_K he hz h)
/-- the start of one -/
theorem k_en {Z : q_Z} {Q : q_Z → q_E → q_M → Prop} {as : List Value} (hmi : mi < 436) (hlen : Nat.ble (q_sls as).length (q_mt mi).2.2.2.1 = true) (h : q_G q_mt Z E mi d rc rs (q_YK Z E Q) 0 (q_lv0 (q_mt mi).2.2.2.1 as) [] M) : q_CK q_mt Z E mi d rc rs as M Q :=
  q_CK.of (q_ok.1 mi hmi).1 (q_ok.1 mi hmi).2.1 (Nat.le_of_ble_eq_true hlen) h
end KK
