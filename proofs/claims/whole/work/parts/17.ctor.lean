/-! CONSTRUCTORS: cells come; the map of the cells grows -/
theorem va_P.perm {D : va_G} {cl : List vw_C} {w w' : va_W} {H : Heap} (h : va_P D cl w H) (hm : ∀ q ∈ w', q ∈ w) : va_P D cl w' H := fun _ q hk => by
  obtain ⟨i, hi⟩ := List.getElem?_of_mem (hm q (List.mem_of_getElem? hk))
  exact h i q hi
theorem va_D.pw {A : Nat → Prop} {w : va_W} : va_D A w ↔ w.Pairwise (fun p q => p.1 ≠ q.1) ∧ ∀ q ∈ w, A q.1 := by
  constructor
  · intro h
    refine ⟨List.pairwise_iff_getElem.mpr fun i j hi hj hij e => ?_, fun q hq => ?_⟩
    · have := h.1 i j _ _ (List.getElem?_eq_getElem hi) (List.getElem?_eq_getElem hj) e
      omega
    · obtain ⟨i, hi⟩ := List.getElem?_of_mem hq
      exact h.2 i q hi
  · intro ⟨h1, h2⟩
    have h3 := List.pairwise_iff_getElem.mp h1
    refine ⟨fun i j p q hi hj e => ?_, fun k q hk => h2 q (List.mem_of_getElem? hk)⟩
    obtain ⟨li, ei⟩ := List.getElem?_eq_some_iff.mp hi
    obtain ⟨lj, ej⟩ := List.getElem?_eq_some_iff.mp hj
    rcases Nat.lt_trichotomy i j with h | h | h
    · exact absurd (by rw [ei, ej]; exact e) (h3 i j li lj h)
    · exact h
    · exact absurd (by rw [ei, ej]; exact e.symm) (h3 j i lj li h)
theorem va_D.perm {A : Nat → Prop} {w w' : va_W} (h : va_D A w) (hp : w.Perm w') : va_D A w' := by
  rw [va_D.pw] at h ⊢
  exact ⟨(hp.pairwise_iff (fun h e => h e.symm)).mp h.1, fun q hq => h.2 q (hp.mem_iff.mpr hq)⟩
/-- the same places up to cell n -/
def q_ext (n : Nat) (E E' : q_E) : Prop := (∀ k, k < n → E'.1 k = E.1 k) ∧ E'.2 = E.2
theorem q_ext.rf {n : Nat} {E : q_E} : q_ext n E E := ⟨fun _ _ => rfl, rfl⟩
theorem q_ext.tr {n n' : Nat} {E E' E'' : q_E} (hn : n ≤ n') (h : q_ext n E E') (h' : q_ext n' E' E'') : q_ext n E E'' := ⟨fun k hk => (h'.1 k (by omega)).trans (h.1 k hk), h'.2.trans h.2⟩
def q_ov (n : Nat) : Value → Bool
  | .ref k => Nat.blt k n
  | _ => true
def q_ol (n : Nat) : q_L → Bool
  | [] => true
  | some v :: l => q_ov n v && q_ol n l
  | none :: l => q_ol n l
def q_os (n : Nat) : List Value → Bool
  | [] => true
  | v :: l => q_ov n v && q_os n l
theorem q_ov.vm {n : Nat} {E E' : q_E} (h : q_ext n E E') {v : Value} (hv : q_ov n v = true) : q_vm E'.1 v = q_vm E.1 v := by
  cases v with
  | ref k =>
    show Value.ref (E'.1 k) = Value.ref (E.1 k)
    rw [h.1 k (Nat.le_of_ble_eq_true hv)]
  | _ => rfl
theorem q_os.vm {n : Nat} {E E' : q_E} (h : q_ext n E E') : ∀ {st : List Value}, q_os n st = true → st.map (q_vm E'.1) = st.map (q_vm E.1)
  | [], _ => rfl
  | v :: l, hs => by
    unfold q_os at hs
    rw [Bool.and_eq_true] at hs
    rw [List.map_cons, List.map_cons, q_ov.vm h hs.1, q_os.vm h hs.2]
theorem q_ol.at {n : Nat} : ∀ {lv : q_L} {i : Nat} {v : Value}, q_ol n lv = true → lv[i]? = some (some v) → q_ov n v = true
  | [], i, v, _, h => by simp at h
  | some w :: l, 0, v, ho, h => by
    unfold q_ol at ho
    rw [Bool.and_eq_true] at ho
    simp at h
    subst h
    exact ho.1
  | some w :: l, i + 1, v, ho, h => by
    unfold q_ol at ho
    rw [Bool.and_eq_true] at ho
    exact q_ol.at ho.2 (by simpa using h)
  | none :: l, 0, v, ho, h => by simp at h
  | none :: l, i + 1, v, ho, h => by
    unfold q_ol at ho
    exact q_ol.at ho (by simpa using h)
theorem q_has.ext {n m : Nat} {E E' : q_E} {ls : Array Slot} {lv : q_L} (h : q_ext n E E') (ho : q_ol n lv = true) (hl : q_has E.1 ls m lv) : q_has E'.1 ls m lv := ⟨hl.1, hl.2.1, fun i v hv => by rw [q_ov.vm h (q_ol.at ho hv)]; exact hl.2.2 i v hv⟩
/-- the references of a shape point to cells below n -/
def q_wr (n : Nat) : List (Option Nat) → Bool
  | [] => true
  | some k :: l => Nat.blt k n && q_wr n l
  | none :: l => q_wr n l
theorem q_wr.at {n : Nat} : ∀ {l : List (Option Nat)} {i k : Nat}, q_wr n l = true → l.getD i none = some k → k < n
  | [], i, k, _, h => by simp at h
  | some w :: l, 0, k, ho, h => by
    unfold q_wr at ho
    rw [Bool.and_eq_true] at ho
    simp at h
    subst h
    exact Nat.le_of_ble_eq_true ho.1
  | some w :: l, i + 1, k, ho, h => by
    unfold q_wr at ho
    rw [Bool.and_eq_true] at ho
    exact q_wr.at ho.2 (by simpa using h)
  | none :: l, 0, k, ho, h => by simp at h
  | none :: l, i + 1, k, ho, h => by
    unfold q_wr at ho
    exact q_wr.at ho (by simpa using h)
def q_wf (S : List q_Sh) (n : Nat) : Prop := ∀ h ∈ S, q_wr n h.2.2.2 = true
theorem q_ent.ext {n : Nat} {E E' : q_E} (h : q_ext n E E') {M : q_M} {sv : List Value} {k : Nat} {g : q_Sh} (hw : q_wr n g.2.2.2 = true) : q_ent E' M sv k g = q_ent E M sv k g := by
  have hm : ∀ i, (g.2.2.2.getD i none).map E'.1 = (g.2.2.2.getD i none).map E.1 := fun i => by
    cases hg : g.2.2.2.getD i none with
    | none => rfl
    | some k => show some (E'.1 k) = some (E.1 k); rw [h.1 k (q_wr.at hw hg)]
  have hf : ∀ (c m : Nat) (f : Nat → Int32) (f2 : Nat → Int64), q_flds E'.1 c m f f2 g.2.2.2 = q_flds E.1 c m f f2 g.2.2.2 := fun c m f f2 => by
    unfold q_flds
    apply List.map_congr_left
    intro i _
    unfold q_fv
    rw [hm i]
  unfold q_ent
  rw [h.2, hf, funext hm]
theorem q_wl.ext {Z : q_Z} {E E' : q_E} (h : q_ext (Z.2.2.length + 2) E E') {M : q_M} {sv : List Value} (hw : q_wf Z.2.2 (Z.2.2.length + 2)) : q_wl Z E' M sv = q_wl Z E M sv := by
  unfold q_wl
  apply List.ext_getElem?
  intro j
  rw [List.getElem?_mapIdx, List.getElem?_mapIdx]
  cases hj : Z.2.2[j]? with
  | none => rfl
  | some g =>
    have hl := (List.getElem?_eq_some_iff.mp hj).1
    show some (E'.1 (j + 2), q_ent E' M sv (j + 2) g) = some (E.1 (j + 2), q_ent E M sv (j + 2) g)
    rw [h.1 (j + 2) (by omega), q_ent.ext h (hw g (List.mem_of_getElem? hj))]
/-- one more cell -/
def q_more (Z : q_Z) (g : q_Sh) : q_Z := (Z.1, Z.2.1, Z.2.2 ++ [g])
theorem q_wl.more {Z : q_Z} {E : q_E} {M : q_M} {sv : List Value} {g : q_Sh} : q_wl (q_more Z g) E M sv = q_wl Z E M sv ++ [(E.1 (Z.2.2.length + 2), q_ent E M sv (Z.2.2.length + 2) g)] := by
  unfold q_wl q_more
  rw [List.mapIdx_append]
  simp
theorem q_cell.more {Z : q_Z} {g h : q_Sh} {r : Nat} (hc : q_cell (q_more Z g) r = some h) : q_cell Z r = some h ∨ (r = Z.2.2.length + 2 ∧ h = g) := by
  match r, hc with
  | 0, hc => exact Or.inl hc
  | 1, hc => exact Or.inl hc
  | k + 2, hc =>
    have hc : (Z.2.2 ++ [g])[k]? = some h := hc
    by_cases hk : k < Z.2.2.length
    · rw [List.getElem?_append_left hk] at hc
      exact Or.inl hc
    · rw [List.getElem?_append_right (by omega)] at hc
      have hz : k - Z.2.2.length < 1 := (List.getElem?_eq_some_iff.mp hc).1
      have e : k = Z.2.2.length := by omega
      subst e
      simp at hc
      exact Or.inr ⟨rfl, hc.symm⟩
/-- the map with cell n at q -/
def q_put (E : q_E) (n q : Nat) : q_E := (fun k => bif Nat.beq k n then q else E.1 k, E.2)
theorem q_put.ext {E : q_E} {n q : Nat} : q_ext n E (q_put E n q) := ⟨fun k hk => by
  have hb : Nat.beq k n = false := by
    cases hq : Nat.beq k n with
    | false => rfl
    | true => have := q_beq hq; omega
  show (bif Nat.beq k n then q else E.1 k) = E.1 k
  rw [hb]
  rfl, rfl⟩
theorem q_put.at {E : q_E} {n q : Nat} : (q_put E n q).1 n = q := by
  show (bif Nat.beq n n then q else E.1 n) = q
  rw [q_beq_refl]
  rfl
/-- what came back from a row that makes a cell is the greater pure state -/
theorem q_R.more {Z : q_Z} {E : q_E} {M : q_M} {s : State} {H1 : Heap} {locs : List Loc} {sv : List Value} {X : va_W} {g : q_Sh} {q : Nat}
    (hK : va_K E.2.1 vwCl (q_tys E) s) (hX : q_X Z E s s.heap) (hz : E.2.2.2.1 ≤ s.heap.size) (hE : q_env Z E) (hN : q_N s) (hSB : E.2.2.2.2.2 M sv X) (hw : q_wf Z.2.2 (Z.2.2.length + 2)) (h7 : ¬ E.2.2.2.2.1 = Z.2.2.length + 2) (hg : q_wr (Z.2.2.length + 2) g.2.2.2 = true)
    (hP : va_P E.2.1 vwCl ((q_wl Z E M sv ++ X) ++ [(q, q_ent E M sv (Z.2.2.length + 2) g)]) H1) (hD : va_D (q_A E) ((q_wl Z E M sv ++ X) ++ [(q, q_ent E M sv (Z.2.2.length + 2) g)])) (hS : va_S (q_A E) s.heap H1 locs) :
    q_R (q_more Z g) (q_put E (Z.2.2.length + 2) q) M s H1 locs := by
  have he := q_put.ext (E := E) (n := Z.2.2.length + 2) (q := q)
  have e1 : q_wl (q_more Z g) (q_put E (Z.2.2.length + 2) q) M sv = q_wl Z E M sv ++ [(q, q_ent E M sv (Z.2.2.length + 2) g)] := by
    rw [q_wl.more, q_wl.ext he hw, q_put.at, q_ent.ext he hg]
  have pm : ((q_wl Z E M sv ++ X) ++ [(q, q_ent E M sv (Z.2.2.length + 2) g)]).Perm ((q_wl Z E M sv ++ [(q, q_ent E M sv (Z.2.2.length + 2) g)]) ++ X) := by
    rw [List.append_assoc, List.append_assoc]
    exact List.Perm.append_left _ List.perm_append_comm
  refine ⟨hK, ⟨sv, X, ?_, ?_, hSB⟩, hS, ?_, hz, ⟨?_, hE.2.1, fun h hc => ?_⟩, hN⟩
  · rw [e1]; exact hP.perm (fun x hx => pm.mem_iff.mpr hx)
  · rw [e1]; exact hD.perm pm
  · exact q_X.ext hX (he.1 0 (by omega)) (he.1 1 (by omega)) he.2 rfl rfl
  · have e0 : (q_put E (Z.2.2.length + 2) q).1 0 = E.1 0 := he.1 0 (by omega)
    rw [e0]; exact hE.1
  · rcases q_cell.more hc with h1 | h1
    · exact hE.2.2 h h1
    · exact absurd h1.1 h7
/-- what a new object's fields hold -/
theorem q_dflt {i : Nat} {C : String} {T : u_T} {n : Nat} (h : vwCl[i]? = some (C, T, n)) : ∀ j, j < n → (parseFieldDescriptor (T j).2.2.1).map defaultValue = some (q_fv (fun k => k) (q_fk i j) 0 0 none) := by
  match i, h with
  | 0, h => cases h; decide +kernel
  | 1, h => cases h; decide +kernel
  | 2, h => cases h; decide +kernel
  | 3, h => cases h; decide +kernel
  | 4, h => cases h; decide +kernel
  | 5, h => cases h; decide +kernel
  | 6, h => cases h; decide +kernel
  | 7, h => cases h; decide +kernel
  | 8, h => cases h; decide +kernel
  | 9, h => cases h; decide +kernel
  | 10, h => cases h; decide +kernel
  | 11, h => cases h; decide +kernel
  | 12, h => cases h; decide +kernel
  | 13, h => cases h; decide +kernel
  | k + 14, h => simp [vwCl] at h
theorem q_nones {n i : Nat} : (List.replicate n (none : Option Nat)).getD i none = none := by
  rw [List.getD_eq_getElem?_getD]
  by_cases h : i < n
  · rw [List.getElem?_replicate_of_lt h]; rfl
  · rw [List.getElem?_eq_none (by rw [List.length_replicate]; omega)]; rfl
theorem q_wr_nones {n m : Nat} : q_wr m (List.replicate n none) = true := by
  induction n with
  | zero => rfl
  | succ k ih => exact ih
/-- nothing is written yet from cell n on -/
def q_zero (M : q_M) (n : Nat) : Prop := ∀ r, n ≤ r → ∀ i, M.1 r i = 0 ∧ M.2 r i = 0
section QN
variable {mt : Nat → q_Me} {Z : q_Z} {E : q_E} {mi d rc rs : Nat} {Y : Array Value → State → Outcome → State → Prop} {pc idx : Nat} {lv : q_L} {st : List Value} {M : q_M}
/-- what a maker asks of the walk: old values, a sound shape, no StringBuilder at the new cell -/
def q_fit (Z : q_Z) (E : q_E) (lv : q_L) (st : List Value) (M : q_M) : Prop := q_ol (Z.2.2.length + 2) lv = true ∧ q_os (Z.2.2.length + 2) st = true ∧ q_wf Z.2.2 (Z.2.2.length + 2) ∧ (¬ E.2.2.2.2.1 = Z.2.2.length + 2) ∧ q_zero M (Z.2.2.length + 2)
theorem q_new {ci : Nat} {C : String} {T : u_T} {N : Nat} (hv : vwCl[ci]? = some (C, T, N)) (h1 : Cond.classLink (mt mi).1 idx C ∈ q_wT) (h2 : Cond.instantiable C N ∈ q_wT) (h3 : Cond.initialized C ∈ q_wT) (hf : q_fit Z E lv st M) (hd : decode (mt mi).2.2.1 pc = .ok (.new idx, 3))
    (kk : ∀ E', q_ext (Z.2.2.length + 2) E E' → q_G mt (q_more Z (0, ci, N, List.replicate N none)) E' mi d rc rs Y (pc + 3) lv (.ref (Z.2.2.length + 2) :: st) M) : q_G mt Z E mi d (rc + 1) (rs + N) Y pc lv st M := by
  intro l p e R s m args below meth c H locs cells slots ls A hl hR hcc hss
  obtain ⟨f1, f2, f3, f4, f5⟩ := hf
  obtain ⟨hK, ⟨sv, X, hP, hD, hSB⟩, hS, hX, hz, hE, hN⟩ := hR
  obtain ⟨ty0, hws, hty0, hnm⟩ := q_cls hv
  refine va_new (D := E.2.1) (ci := ci) A.1 A.2.1 (Ts := q_wT) (fun w h => q_word A h) hws ty0 hty0 A.2.2.2.2.1 (q_word A h1) (q_word A h2) (q_word A h3) hK hP hD hS (fun q hq => Nat.le_trans hz hq) hv (fs := q_flds E.1 ci N (M.1 (Z.2.2.length + 2)) (M.2 (Z.2.2.length + 2)) (List.replicate N none)) (fun j hj => ?_) (by omega) (by omega) hd (fun q H1 hP1 hD1 hS1 => ?_)
  · have e1 := q_dflt hv j hj
    rw [hty0 j hj] at e1
    have e2 : defaultValue (ty0 j) = q_fv (fun k => k) (q_fk ci j) 0 0 none := Option.some.inj e1
    rw [e2]
    unfold vp_V
    rw [List.getD_eq_getElem?_getD, q_flds_at hj, q_nones, (f5 _ (Nat.le_refl _) j).1, (f5 _ (Nat.le_refl _) j).2]
    rfl
  · have hR' := q_R.more (g := (0, ci, N, List.replicate N none)) hK hX hz hE hN hSB f3 f4 q_wr_nones hP1 hD1 hS1
    have he := q_put.ext (E := E) (n := Z.2.2.length + 2) (q := q)
    have K := kk _ he l p e R s m args below meth c H1 locs (cells + 1) (slots + N) ls A (q_has.ext he f1 hl) hR' (by omega) (by omega)
    rw [show (cells + 1 + rc) = cells + (rc + 1) by omega, show (slots + N + rs) = slots + (rs + N) by omega, List.map_cons, q_os.vm he f2] at K
    have e3 : q_vm (q_put E (Z.2.2.length + 2) q).1 (.ref (Z.2.2.length + 2)) = .ref q := by
      show Value.ref ((q_put E (Z.2.2.length + 2) q).1 (Z.2.2.length + 2)) = _
      rw [q_put.at]
    rw [e3] at K
    exact K
theorem q_newa {at_ : ArrayType} {kd nn : Nat} {x : Int32} (hk : (at_ = .int ∧ kd = 1) ∨ (at_ = .long ∧ kd = 2) ∨ (at_ = .boolean ∧ kd = 3)) (h1 : Cond.arrayClass (newarray.typeOf at_) ∈ q_wT) (hx : ¬ x < 0) (hn : x.toNatClampNeg = nn) (hb : nn ≤ 60000000) (hf : q_fit Z E lv st M) (hd : decode (mt mi).2.2.1 pc = .ok (.newarray at_, 2))
    (kk : ∀ E', q_ext (Z.2.2.length + 2) E E' → q_G mt (q_more Z (kd, 0, nn, [])) E' mi d rc rs Y (pc + 2) lv (.ref (Z.2.2.length + 2) :: st) M) : q_G mt Z E mi d (rc + 1) (rs + nn) Y pc lv (.int x :: st) M := by
  intro l p e R s m args below meth c H locs cells slots ls A hl hR hcc hss
  obtain ⟨f1, f2, f3, f4, f5⟩ := hf
  obtain ⟨hK, ⟨sv, X, hP, hD, hSB⟩, hS, hX, hz, hE, hN⟩ := hR
  have zi : M.1 (Z.2.2.length + 2) = fun _ => 0 := funext fun i => (f5 _ (Nat.le_refl _) i).1
  have zl : M.2 (Z.2.2.length + 2) = fun _ => 0 := funext fun i => (f5 _ (Nat.le_refl _) i).2
  have done : ∀ (q : Nat) (H1 : Heap), va_P E.2.1 vwCl ((q_wl Z E M sv ++ X) ++ [(q, q_ent E M sv (Z.2.2.length + 2) (kd, 0, nn, []))]) H1 → va_D (q_A E) ((q_wl Z E M sv ++ X) ++ [(q, q_ent E M sv (Z.2.2.length + 2) (kd, 0, nn, []))]) → va_S (q_A E) s.heap H1 locs →
      W p l e R s m args below meth c H1 locs (cells + 1) (slots + nn) (MQ below Y args s (cells + (rc + 1)) (slots + (rs + nn)) (q_A E)) (F0 m (pc + 2) ls (.ref q :: st.map (q_vm E.1))) := by
    intro q H1 hP1 hD1 hS1
    have hR' := q_R.more (g := (kd, 0, nn, [])) hK hX hz hE hN hSB f3 f4 rfl hP1 hD1 hS1
    have he := q_put.ext (E := E) (n := Z.2.2.length + 2) (q := q)
    have K := kk _ he l p e R s m args below meth c H1 locs (cells + 1) (slots + nn) ls A (q_has.ext he f1 hl) hR' (by omega) (by omega)
    rw [show (cells + 1 + rc) = cells + (rc + 1) by omega, show (slots + nn + rs) = slots + (rs + nn) by omega, List.map_cons, q_os.vm he f2] at K
    have e3 : q_vm (q_put E (Z.2.2.length + 2) q).1 (.ref (Z.2.2.length + 2)) = .ref q := by
      show Value.ref ((q_put E (Z.2.2.length + 2) q).1 (Z.2.2.length + 2)) = _
      rw [q_put.at]
    rw [e3] at K
    exact K
  rcases hk with ⟨rfl, rfl⟩ | ⟨rfl, rfl⟩ | ⟨rfl, rfl⟩
  · refine va_newa (atype := .int) A.1 A.2.1 (q_word A h1) (ty := .int) rfl hK hP hD hS (fun q hq => Nat.le_trans hz hq) (N' := nn) (a0 := (nn, .inl (M.1 (Z.2.2.length + 2)))) (fun cA => by rw [zi]; rfl) hx hn (by show nn * 4 ≤ _; omega) (by omega) (by omega) hd (fun q cA H1 hK1 hP1 hD1 hS1 => ?_)
    have e1 : s.vm.findClass ("[" ++ FieldType.int.toString) = some cA := (hK1.2 5 (cA, .int) rfl).2
    have e2 : s.vm.findClass ("[" ++ FieldType.int.toString) = some (E.2.2.1 1) := (hK.2 0 (E.2.2.1 1, .int) rfl).2
    have e3 : cA = E.2.2.1 1 := Option.some.inj (e1.symm.trans e2)
    subst e3
    exact done q H1 hP1 hD1 hS1
  · refine va_newa (atype := .long) A.1 A.2.1 (q_word A h1) (ty := .long) rfl hK hP hD hS (fun q hq => Nat.le_trans hz hq) (N' := nn) (a0 := (nn, .inr (.inl (M.2 (Z.2.2.length + 2))))) (fun cA => by rw [zl]; rfl) hx hn (by show nn * 8 ≤ _; omega) (by omega) (by omega) hd (fun q cA H1 hK1 hP1 hD1 hS1 => ?_)
    have e1 : s.vm.findClass ("[" ++ FieldType.long.toString) = some cA := (hK1.2 5 (cA, .long) rfl).2
    have e2 : s.vm.findClass ("[" ++ FieldType.long.toString) = some (E.2.2.1 2) := (hK.2 1 (E.2.2.1 2, .long) rfl).2
    have e3 : cA = E.2.2.1 2 := Option.some.inj (e1.symm.trans e2)
    subst e3
    exact done q H1 hP1 hD1 hS1
  · refine va_newa (atype := .boolean) A.1 A.2.1 (q_word A h1) (ty := .boolean) rfl hK hP hD hS (fun q hq => Nat.le_trans hz hq) (N' := nn) (a0 := (nn, .inl (M.1 (Z.2.2.length + 2)))) (fun cA => by rw [zi]; rfl) hx hn (by show nn * 1 ≤ _; omega) (by omega) (by omega) hd (fun q cA H1 hK1 hP1 hD1 hS1 => ?_)
    have e1 : s.vm.findClass ("[" ++ FieldType.boolean.toString) = some cA := (hK1.2 5 (cA, .boolean) rfl).2
    have e2 : s.vm.findClass ("[" ++ FieldType.boolean.toString) = some (E.2.2.1 3) := (hK.2 2 (E.2.2.1 3, .boolean) rfl).2
    have e3 : cA = E.2.2.1 3 := Option.some.inj (e1.symm.trans e2)
    subst e3
    exact done q H1 hP1 hD1 hS1
end QN
/-- a cell's shape anew -/
def q_zset (Z : q_Z) (k : Nat) (g : q_Sh) : q_Z := (Z.1, Z.2.1, Z.2.2.set k g)
theorem q_zset_wl {Z : q_Z} {E : q_E} {M : q_M} {sv : List Value} {X : va_W} {k : Nat} {g : q_Sh} (hk : k < Z.2.2.length) : (q_wl Z E M sv ++ X).set k (E.1 (k + 2), q_ent E M sv (k + 2) g) = q_wl (q_zset Z k g) E M sv ++ X := by
  have hlen : (q_wl Z E M sv).length = Z.2.2.length := by unfold q_wl; rw [List.length_mapIdx]
  rw [List.set_append_left _ _ (by rw [hlen]; exact hk)]
  congr 1
  apply List.ext_getElem?
  intro j
  unfold q_wl q_zset
  by_cases e : k = j
  · subst e
    rw [List.getElem?_set_self (by rw [List.length_mapIdx]; exact hk), List.getElem?_mapIdx]
    show _ = Option.map _ (Z.2.2.set k g)[k]?
    rw [List.getElem?_set_self hk]
    rfl
  · rw [List.getElem?_set_ne e, List.getElem?_mapIdx, List.getElem?_mapIdx]
    show _ = Option.map _ (Z.2.2.set k g)[j]?
    rw [List.getElem?_set_ne e]
theorem q_zset_cell {Z : q_Z} {k r : Nat} {g h : q_Sh} (hc : q_cell (q_zset Z k g) r = some h) : q_cell Z r = some h ∨ (r = k + 2 ∧ h = g) := by
  match r, hc with
  | 0, hc => exact Or.inl hc
  | 1, hc => exact Or.inl hc
  | j + 2, hc =>
    have hc : (Z.2.2.set k g)[j]? = some h := hc
    by_cases e : k = j
    · subst e
      have hl : k < (Z.2.2.set k g).length := (List.getElem?_eq_some_iff.mp hc).1
      rw [List.length_set] at hl
      rw [List.getElem?_set_self hl] at hc
      exact Or.inr ⟨rfl, (Option.some.inj hc).symm⟩
    · rw [List.getElem?_set_ne e] at hc
      exact Or.inl hc
section QP
variable {mt : Nat → q_Me} {Z : q_Z} {E : q_E} {mi d rc rs : Nat} {Y : Array Value → State → Outcome → State → Prop} {pc idx : Nat} {lv : q_L} {st : List Value} {M : q_M}
/-- a reference into a field of an object, in its constructor -/
theorem q_putr {r0 ci k n v : Nat} {refs : List (Option Nat)} {C : String} {T : u_T} {N : Nat} {ty : FieldType} (hc : q_cell Z (r0 + 2) = some (0, ci, n, refs)) (hv : vwCl[ci]? = some (C, T, N)) (hk : k < N) (hkn : k < n) (hkr : k < refs.length) (hl : Cond.fieldLink (mt mi).1 idx C (T k).2.1 (T k).2.2.1 ∈ q_wT) (hT : (T k).1 = C) (hown : (mt mi).1 = C) (hini : (mt mi).2.1.name = "<init>") (hty : parseFieldDescriptor (T k).2.2.1 = some ty) (hrt : (∃ x, ty = .object x) ∨ ∃ x, ty = .array x) (hfk : q_fk ci k = 2) (h7 : ¬ E.2.2.2.2.1 = r0 + 2) (hd : decode (mt mi).2.2.1 pc = .ok (.putfield idx, 3))
    (kk : q_G mt (q_zset Z r0 (0, ci, n, refs.set k (some v))) E mi d rc rs Y (pc + 3) lv st M) : q_G mt Z E mi d rc rs Y pc lv (.ref v :: .ref (r0 + 2) :: st) M := by
  intro l p e R s m args below meth c H locs cells slots ls A hl' hR hcc hss
  obtain ⟨hK, ⟨sv, X, hP, hD, hSB⟩, hS, hX, hz, hE, hN⟩ := hR
  obtain ⟨ty0, hws, hty0, hnm⟩ := q_cls hv
  have hr0 : r0 < Z.2.2.length := (List.getElem?_eq_some_iff.mp (show Z.2.2[r0]? = some _ from hc)).1
  have e1 : (q_flds E.1 ci n (M.1 (r0 + 2)) (M.2 (r0 + 2)) refs).set k (.ref (E.1 v)) = q_flds E.1 ci n (M.1 (r0 + 2)) (M.2 (r0 + 2)) (refs.set k (some v)) := by
    apply List.ext_getElem?
    intro j
    by_cases hj : j < n
    · rw [q_flds_at hj]
      by_cases ej : k = j
      · subst ej
        rw [List.getElem?_set_self (by rw [q_flds_len]; exact hkn), hfk, List.getD_eq_getElem?_getD, List.getElem?_set_self hkr]
        rfl
      · rw [List.getElem?_set_ne ej, q_flds_at hj, List.getD_eq_getElem?_getD, List.getD_eq_getElem?_getD, List.getElem?_set_ne ej]
    · rw [List.getElem?_eq_none (by rw [List.length_set, q_flds_len]; omega), List.getElem?_eq_none (by rw [q_flds_len]; omega)]
  have e2 : (q_wl Z E M sv ++ X).set r0 (E.1 (r0 + 2), .inr (ci, (q_flds E.1 ci n (M.1 (r0 + 2)) (M.2 (r0 + 2)) refs).set k (.ref (E.1 v)))) = q_wl (q_zset Z r0 (0, ci, n, refs.set k (some v))) E M sv ++ X := by
    rw [e1]
    exact q_zset_wl (g := (0, ci, n, refs.set k (some v))) hr0
  have done : ∀ (H1 : Heap) (locs1 : List Loc), va_P E.2.1 vwCl ((q_wl Z E M sv ++ X).set r0 (E.1 (r0 + 2), .inr (ci, (q_flds E.1 ci n (M.1 (r0 + 2)) (M.2 (r0 + 2)) refs).set k (.ref (E.1 v))))) H1 → va_D (q_A E) ((q_wl Z E M sv ++ X).set r0 (E.1 (r0 + 2), .inr (ci, (q_flds E.1 ci n (M.1 (r0 + 2)) (M.2 (r0 + 2)) refs).set k (.ref (E.1 v))))) → va_S (q_A E) s.heap H1 locs1 → W p l e R s m args below meth c H1 locs1 cells slots (MQ below Y args s (cells + rc) (slots + rs) (q_A E)) (F0 m (pc + 3) ls (st.map (q_vm E.1))) := by
    intro H1 locs1 hP1 hD1 hS1
    rw [e2] at hP1 hD1
    refine kk l p e R s m args below meth c H1 locs1 cells slots ls A hl' ⟨hK, ⟨sv, X, hP1, hD1, hSB⟩, hS1, hX, hz, ⟨hE.1, hE.2.1, fun h hh => ?_⟩, hN⟩ hcc hss
    rcases q_zset_cell hh with h1 | h1
    · exact hE.2.2 h h1
    · exact absurd h1.1 h7
  have hnr : narrow ty (.ref (E.1 v)) = .ref (E.1 v) := by rcases hrt with ⟨x, rfl⟩ | ⟨x, rfl⟩ <;> rfl
  have hft : fits ty (.ref (E.1 v)) = true := by rcases hrt with ⟨x, rfl⟩ | ⟨x, rfl⟩ <;> rfl
  cases hfin : (T k).2.2.2 with
  | false => exact va_put (D := E.2.1) (ci := ci) (ref := C) A.1 A.2.1 (Ts := q_wT) (fun w h => q_word A h) hws ty0 hty0 hnm A.2.2.2.2.1 hK hP hD hS r0 (fs := q_flds E.1 ci n (M.1 (r0 + 2)) (M.2 (r0 + 2)) refs) (q_wl_at X hc) hv k hk (q_word A hl) (fun x h => by rw [hT] at h; exact h) hfin hty hnr hft (by rw [q_flds_len]; exact hkn) hd done
  | true => exact va_putF (D := E.2.1) (ci := ci) (ref := C) A.1 A.2.1 (Ts := q_wT) (fun w h => q_word A h) hws ty0 hty0 hnm A.2.2.2.2.1 hK hP hD hS r0 (fs := q_flds E.1 ci n (M.1 (r0 + 2)) (M.2 (r0 + 2)) refs) (q_wl_at X hc) hv k hk (q_word A hl) (fun x h => by rw [hT] at h; exact h) hfin (A.2.2.2.2.2.2.1.2 hini) (by rw [hT, hown]) hty hnr hft (by rw [q_flds_len]; exact hkn) hd done
/-- Object's own constructor -/
theorem q_obj {r : Nat} (h1 : Cond.methodLink (mt mi).1 idx Lib.objectInit ∈ q_wT) (h2 : Cond.instanceMethod Lib.objectInit ∈ q_wT) (h3 : Cond.code Lib.objectInit ⟨#[0xb1]⟩ 1 none ∈ q_wT) (hroom : (st.map fun v => v.category).sum ≤ 8) (hd : decode (mt mi).2.2.1 pc = .ok (.invokespecial idx, 3))
    (kk : q_G mt Z E mi (d + 1) rc rs Y (pc + 3) lv st M) : q_G mt Z E mi (d + 1) rc rs Y pc lv (.ref r :: st) M := by
  intro l p e R s m args below meth c H locs cells slots ls A hl hR hcc hss
  have hcat : ((st.map (q_vm E.1)).map fun v => v.category).sum ≤ 8 := by
    rw [List.map_map, show ((fun v => Value.category v) ∘ q_vm E.1) = (fun v => v.category) from funext (fun v => q_vm_cat E.1 v)]
    exact hroom
  refine W.objInit A.1 A.2.1 A.2.2.2.2.1 (q_word A h1) (q_word A h2) (q_word A h3) rfl (by rw [A.2.2.2.1]; exact hl.1) rfl hd (by have := A.2.2.2.2.2.2.2.1; omega) (by have := A.2.2.2.2.2.2.2.2; show 2 * 0 + _ + 12 ≤ _; omega) ?_
  exact kk l p e R s m args below meth c H locs cells slots ls A hl hR hcc hss
end QP
/-- a constructor's contract: cells may come -/
def q_YK (Z : q_Z) (E : q_E) (Q : q_Z → q_E → q_M → Prop) : Array Value → State → Outcome → State → Prop := fun _ st o t => (∃ (Z' : q_Z) (E' : q_E) (M' : q_M), o = .returned none ∧ q_ext (Z.2.2.length + 2) E E' ∧ (Z'.1 = Z.1 ∧ Z'.2.1 = Z.2.1) ∧ Q Z' E' M' ∧ q_RS Z' E' M' t) ∧ va_F (q_A E) st t
def q_CK (mt : Nat → q_Me) (Z : q_Z) (E : q_E) (mi d rc rs : Nat) (as : List Value) (M : q_M) (Q : q_Z → q_E → q_M → Prop) : Prop :=
  ∀ l : Launch, Met l (mt mi).2.1 (q_ws (mt mi)) (q_room d rc rs) (fun a U => a = (as.map (q_vm E.1)).toArray ∧ q_RS Z E M U) (q_YK Z E Q) rc rs (q_A E)
section QI
variable {mt : Nat → q_Me} {Z : q_Z} {E : q_E} {mi mj d rc rs c1 s1 : Nat} {Y : Array Value → State → Outcome → State → Prop} {pc idx : Nat} {lv : q_L} {st as : List Value} {M : q_M} {Q : q_Z → q_E → q_M → Prop}
theorem q_CK.of (hy : plainName (mt mi).2.1.cls = true) (hown : (mt mi).2.1.cls = (mt mi).1) (hlen : (q_sls as).length ≤ (mt mi).2.2.2.1) (h : q_G mt Z E mi d rc rs (q_YK Z E Q) 0 (q_lv0 (mt mi).2.2.2.1 as) [] M) : q_CK mt Z E mi d rc rs as M Q := by
  intro l
  refine Met.ofW (cc := (mt mi).2.2.1) (maxL := (mt mi).2.2.2.1) (ret := (mt mi).2.2.2.2.1) hy rfl ?_
  intro p e s m args below meth c s₁ B hml hv
  obtain ⟨rfl, hK, hP, hX, hn, hE, hN⟩ := hv
  have hts := atoms_spec (ws := q_ws (mt mi)) B.pre
  have hown' : s.vm.findClass (mt mi).1 = some m.cls := by rw [← hown]; exact findClass_of_methodNamed B.named
  have hl := lv_entry (as.map (q_vm E.1)) (n := (mt mi).2.2.2.1) (by rw [q_sls_len]; exact hlen)
  rw [lg_entry_eq]
  have h2 := h l p e (q_room d rc rs) s m (as.map (q_vm E.1)).toArray below meth c s.heap [] 0 0 _ ⟨B.exec, B.bytes, B.returns, hml, hown', (fun w h => hts w (List.mem_cons_of_mem _ h)), ⟨B.notSynchronized, fun h => by rw [(name_of_methodNamed B.named B.method).1]; exact h⟩, Nat.le_refl _, Nat.le_refl _⟩ (q_has0 hl) ⟨hK, hP, va_S.rf, hX, hn, hE, hN⟩ (by simp [q_room]) (by simp [q_room])
  rw [Nat.zero_add, Nat.zero_add] at h2
  exact h2
/-- a constructor is called -/
theorem q_ini {r : Nat} (hM : q_CK mt Z E mj d c1 s1 (.ref r :: as) M Q) (hn1 : (mt mj).2.1.name = "<init>") (hrn : (mt mj).2.2.2.2.1 = none)
    (h1 : Cond.methodLink (mt mi).1 idx (mt mj).2.1 ∈ q_wT) (h2 : Cond.instanceMethod (mt mj).2.1 ∈ q_wT) (h4 : Cond.initialized (mt mj).2.1.cls ∈ q_wT) (h5 : Cond.code (mt mj).2.1 (mt mj).2.2.1 (mt mj).2.2.2.1 (mt mj).2.2.2.2.1 ∈ q_wT)
    (hy : (mt mj).2.1.cls ≠ "java/lang/invoke/MethodHandle" ∧ (mt mj).2.1.cls ≠ "java/lang/invoke/VarHandle" ∧ (parseMethodDescriptor (mt mj).2.1.desc).map (fun d => d.parameters.length) = some as.length) (hL : (mt mj).2.2.2.1 ≤ 45) (hroom : (st.map fun v => v.category).sum ≤ 8) (ho : q_ol (Z.2.2.length + 2) lv = true) (hos : q_os (Z.2.2.length + 2) st = true) (hd : decode (mt mi).2.2.1 pc = .ok (.invokespecial idx, 3))
    (kk : ∀ (Z' : q_Z) (E' : q_E) (M' : q_M), q_ext (Z.2.2.length + 2) E E' → Q Z' E' M' → q_G mt Z' E' mi (d + 1) rc rs Y (pc + 3) lv st M') : q_G mt Z E mi (d + 1) (rc + c1) (rs + s1) Y pc lv (as.reverse ++ .ref r :: st) M := by
  intro l p e R s m args below meth c H locs cells slots ls A hl hR hcc hss
  have hts : ∀ w ∈ q_wT, w.before args s = true := fun w h => q_word A h
  have cb : CallB R s args (mt mi).1 idx (mt mj).2.1 (mt mj).2.2.1 (mt mj).2.2.2.1 none (q_ws (mt mj)) (q_room d c1 s1) c1 s1 as.length := callB_of (ws' := q_wT) as.length hts (q_goodIn (q_ws_in h5)) (by rw [q_ws, hrn]) rfl rfl (hts _ h4) (hts _ h1) hy ⟨A.2.2.2.2.2.2.2.1, by have := A.2.2.2.2.2.2.2.2; show 8 + ((mt mj).2.2.2.1 + 11) + 64 * d ≤ R.locals; omega⟩
  have hcat : ((st.map (q_vm E.1)).map fun v => v.category).sum ≤ 8 := by
    rw [List.map_map, show ((fun v => Value.category v) ∘ q_vm E.1) = (fun v => v.category) from funext (fun v => q_vm_cat E.1 v)]
    exact hroom
  have hr := va_runI (e := e) (below := below) (meth := meth) (locs := locs) (cells := cells) (slots := slots) (H := H) (b := E.1 r) (As := as.map (q_vm E.1)) (rest := st.map (q_vm E.1)) (g := F0 m pc ls ((as.reverse ++ .ref r :: st).map (q_vm E.1)))
    (⟨A.1, A.2.1, A.2.2.2.1, A.2.2.2.2.1, hts⟩ : CallFix p m c (mt mi).2.2.1 (mt mi).2.2.2.1 s args q_wT (mt mi).1) (hM l) ⟨cb, hn1, hts _ h2⟩ ⟨q_blind, fun U hU hW => ⟨rfl, q_RS.of hR hU hW⟩⟩ rfl (List.length_map _) hl.1
    (by show (as.reverse ++ .ref r :: st).map (q_vm E.1) = _; rw [List.map_append, List.map_reverse]; rfl) (lv_room hcat) hd ⟨by omega, by omega⟩
  intro T hT X
  obtain ⟨v, st₀, t, T', L, h0, X', hL, e1, e2, ⟨⟨Z', E', M', hv, he, ⟨z1, z2⟩, hq, hK1, hP1, hX1, hn3, hE1, hN1⟩, hz1, hk1⟩, stp⟩ := hr T hT X
  cases hv
  obtain ⟨hK, hP, hS, hX, hz, hE, hN⟩ := hR
  rw [h0] at hz1 hk1
  have eE : E'.2 = E.2 := he.2
  have eA : q_A E' = q_A E := by unfold q_A; rw [eE]
  have e0 : E'.1 0 = E.1 0 := he.1 0 (by omega)
  have hR' : q_R Z' E' M' s T'.heap (locs ++ L) := by
    refine ⟨?_, by rw [e1]; exact hP1, ?_, ?_, ?_, hE1, hN⟩
    · unfold q_tys
      rw [eE]
      exact hK
    · rw [eA]
      exact ⟨Nat.le_trans hS.1 (by rw [e1]; exact hz1), fun q h1 h2 => by rw [e1, hk1 q (Nat.lt_of_lt_of_le h1 hS.1) h2]; exact hS.2.1 q h1 h2, fun q hq => by
        rcases List.mem_append.mp hq with h | h
        · exact hS.2.2 q h
        · exact hL q h⟩
    · exact q_X.ext hX e0 (he.1 1 (by omega)) eE z1 z2
    · rw [eE]; exact hz
  have K := kk Z' E' M' he hq l p e R s m args below meth c T'.heap (locs ++ L) (cells + c1) (slots + s1) ls A (q_has.ext he ho hl) hR' (by omega) (by omega)
  rw [show (cells + c1 + rc) = cells + (rc + c1) by omega, show (slots + s1 + rs) = slots + (rs + s1) by omega, q_os.vm he hos, eA] at K
  obtain ⟨t2, a1, b1⟩ := K T' rfl X'
  exact ⟨t2, stp t2 a1, b1⟩
/-- a constructor's end -/
theorem q_Y_K {Z0 : q_Z} {E0 : q_E} (he : q_ext (Z0.2.2.length + 2) E0 E) (hz : Z.1 = Z0.1 ∧ Z.2.1 = Z0.2.1) (h : Q Z E M) : q_Y Z E (q_YK Z0 E0 Q) none M := fun _ st t h1 h2 => by
  refine ⟨⟨Z, E, M, rfl, he, hz, h, h1⟩, ?_⟩
  have eA : q_A E = q_A E0 := by unfold q_A; rw [he.2]
  rw [← eA]
  exact h2
end QI
