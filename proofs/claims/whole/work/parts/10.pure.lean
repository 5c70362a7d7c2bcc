/-! THE PURE STATE: shapes that stand still, ints and longs that move; where each cell lies -/
/-- what moves: ints and longs, by cell and place -/
abbrev q_M : Type := (Nat → Nat → Int32) × (Nat → Nat → Int64)
/-- what stands still: the script's length and ints, the own cells' shapes (cell k + 2 is the k-th; cell 0 the script, cell 1 the text constant) -/
abbrev q_Z : Type := Nat × (Nat → Int32) × List q_Sh
/-- where things lie: cells' addresses, classes, array classes, first own address, the StringBuilder's cell and what is known of it -/
abbrev q_E : Type := (Nat → Nat) × va_G × (Nat → ClassId) × Nat × Nat × (q_M → List Value → va_W → Prop)
abbrev q_L : Type := List (Option Value)
def q_vm (r : Nat → Nat) : Value → Value
  | .ref k => .ref (r k)
  | v => v
theorem q_vm_cat (r : Nat → Nat) (v : Value) : (q_vm r v).category = v.category := by cases v <;> rfl
def q_cell (Z : q_Z) (r : Nat) : Option q_Sh := match r with
  | 0 => some (5, 0, Z.1, [])
  | 1 => some (6, 0, 0, [])
  | k + 2 => Z.2.2[k]?
def q_fv (r : Nat → Nat) (t : Nat) (x : Int32) (y : Int64) (o : Option Nat) : Value := match t with
  | 1 => .long y
  | 2 => va_rf (o.map r)
  | _ => .int x
def q_flds (r : Nat → Nat) (c n : Nat) (f : Nat → Int32) (g : Nat → Int64) (rs : List (Option Nat)) : List Value :=
  (List.range n).map fun i => q_fv r (q_fk c i) (f i) (g i) (rs.getD i none)
theorem q_flds_at {r : Nat → Nat} {c n : Nat} {f : Nat → Int32} {g : Nat → Int64} {rs : List (Option Nat)} {i : Nat} (h : i < n) : (q_flds r c n f g rs)[i]? = some (q_fv r (q_fk c i) (f i) (g i) (rs.getD i none)) := by
  unfold q_flds
  rw [List.getElem?_map, List.getElem?_range h]
  rfl
theorem q_flds_len {r : Nat → Nat} {c n : Nat} {f : Nat → Int32} {g : Nat → Int64} {rs : List (Option Nat)} : (q_flds r c n f g rs).length = n := by
  unfold q_flds
  rw [List.length_map, List.length_range]
def q_ent (E : q_E) (M : q_M) (sv : List Value) (k : Nat) (h : q_Sh) : va_E := match h.1 with
  | 0 => .inr (h.2.1, q_flds E.1 h.2.1 h.2.2.1 (M.1 k) (M.2 k) h.2.2.2)
  | 1 => .inl (E.2.2.1 1, h.2.2.1, .inl (M.1 k))
  | 2 => .inl (E.2.2.1 2, h.2.2.1, .inr (.inl (M.2 k)))
  | 3 => .inl (E.2.2.1 3, h.2.2.1, .inl (M.1 k))
  | 4 => .inl (E.2.2.1 4, h.2.2.1, .inr (.inr (.inr (.inr (fun i => (h.2.2.2.getD i none).map E.1)))))
  | _ => .inr (0, sv)
def q_wl (Z : q_Z) (E : q_E) (M : q_M) (sv : List Value) : va_W := Z.2.2.mapIdx fun k h => (E.1 (k + 2), q_ent E M sv (k + 2) h)
theorem q_wl_at {Z : q_Z} {E : q_E} {M : q_M} {sv : List Value} (X : va_W) {k : Nat} {h : q_Sh} (hk : q_cell Z (k + 2) = some h) : (q_wl Z E M sv ++ X)[k]? = some (E.1 (k + 2), q_ent E M sv (k + 2) h) := by
  have hk' : Z.2.2[k]? = some h := hk
  have hl : k < Z.2.2.length := (List.getElem?_eq_some_iff.mp hk').1
  rw [List.getElem?_append_left (by unfold q_wl; rw [List.length_mapIdx]; exact hl)]
  unfold q_wl
  rw [List.getElem?_mapIdx, hk']
  rfl
def q_tys (E : q_E) : List (ClassId × FieldType) := [(E.2.2.1 1, .int), (E.2.2.1 2, .long), (E.2.2.1 3, .boolean), (E.2.2.1 4, .object "DropTwo$State"), (E.2.2.1 5, .byte)]
def q_A (E : q_E) : Nat → Prop := fun q => E.2.2.2.1 ≤ q
def q_P (Z : q_Z) (E : q_E) (M : q_M) (H : Heap) : Prop := ∃ (sv : List Value) (X : va_W), va_P E.2.1 vwCl (q_wl Z E M sv ++ X) H ∧ va_D (q_A E) (q_wl Z E M sv ++ X) ∧ E.2.2.2.2.2 M sv X
/-- the places, once for all: the script lies ahead of the own cells; what is known of the StringBuilder hangs on its own cell alone -/
def q_env (Z : q_Z) (E : q_E) : Prop := E.1 0 < E.2.2.2.1 ∧ (∀ (M M' : q_M) (sv : List Value) (X : va_W), (∀ i, M'.1 E.2.2.2.2.1 i = M.1 E.2.2.2.2.1 i) → E.2.2.2.2.2 M sv X → E.2.2.2.2.2 M' sv X) ∧ ∀ h, q_cell Z E.2.2.2.2.1 = some h → h.1 = 7
def q_N (U : State) : Prop := (∀ q ∈ q_nl, va_Nw (.methodLinkNest q.1 q.2.1 q.2.2.1 q.2.2.2) U) ∧ va_AO "DropTwo$State" U
theorem q_N.warm {s U : State} (hW : s.WarmedH U.vm) (h : q_N s) : q_N U := ⟨fun q hq => va_Nw.warmM hW (h.1 q hq), h.2.moved hW.alike⟩
/-- what the JDK's constants hold: the one text of the class, COMPACT_STRINGS, the formatter, the two rows of digits -/
def q_tx : String := "rounds drop judge land first second together dive group degree diver pair list form law cut most anew or and not round sum seen unlike times marks all balk cap half fail give out "
def q_tb : List Int32 := [114, 111, 117, 110, 100, 115, 32, 100, 114, 111, 112, 32, 106, 117, 100, 103, 101, 32, 108, 97, 110, 100, 32, 102, 105, 114, 115, 116, 32, 115, 101, 99, 111, 110, 100, 32, 116, 111, 103, 101, 116, 104, 101, 114, 32, 100, 105, 118, 101, 32, 103, 114, 111, 117, 112, 32, 100, 101, 103, 114, 101, 101, 32, 100, 105, 118, 101, 114, 32, 112, 97, 105, 114, 32, 108, 105, 115, 116, 32, 102, 111, 114, 109, 32, 108, 97, 119, 32, 99, 117, 116, 32, 109, 111, 115, 116, 32, 97, 110, 101, 119, 32, 111, 114, 32, 97, 110, 100, 32, 110, 111, 116, 32, 114, 111, 117, 110, 100, 32, 115, 117, 109, 32, 115, 101, 101, 110, 32, 117, 110, 108, 105, 107, 101, 32, 116, 105, 109, 101, 115, 32, 109, 97, 114, 107, 115, 32, 97, 108, 108, 32, 98, 97, 108, 107, 32, 99, 97, 112, 32, 104, 97, 108, 102, 32, 102, 97, 105, 108, 32, 103, 105, 118, 101, 32, 111, 117, 116, 32]
def sbC : String := "java/lang/StringBuilde\x72"
def asC : String := "java/lang/AbstractStringBuilde\x72"
/-- private methods of the StringBuilder's superclass that are called on it -/
def q_pm : List MethodName := [⟨asC, "ensureCapacityInternal", "(I)V"⟩, ⟨asC, "newCapacity", "(I)I"⟩]
def q_J (A : Nat → Prop) (a v : Nat) (U : State) (H : Heap) : Prop := vk_R "DropTwo$Tape" 19 q_tx a U ∧ vk_S 1 [179] [q_tb] (fun _ => a) (fun _ => v) A U H ∧ va_Z "java/lang/String" "COMPACT_STRINGS" "Z" (.int 1) A U H ∧ va_Zq "jdk/internal/util/Preconditions" "SIOOBE_FORMATTER" "Ljava/util/function/BiFunction;" A U H ∧ (∀ y ∈ q_pm, (Cond.selects sbC y y).before #[] U = true) ∧ ∃ d1 d2, (va_Z "java/lang/Intege\x72" "DigitOnes" "[B" (.ref d1) A U H ∧ va_T .byte d1 100 (fun j => .int (Int32.ofNat (48 + j % 10))) A U H) ∧ va_Z "java/lang/Intege\x72" "DigitTens" "[B" (.ref d2) A U H ∧ va_T .byte d2 100 (fun j => .int (Int32.ofNat (48 + j / 10))) A U H
theorem q_J.next {A : Nat → Prop} {a v : Nat} {s U : State} {H : Heap} {locs : List Loc} (h : q_J A a v s s.heap) (hS : va_S A s.heap H locs) (hW : s.WarmedH U.vm) : q_J A a v U H := by
  obtain ⟨h1, h2, h3, h4, h9, d1, d2, ⟨h5, h6⟩, h7, h8⟩ := h
  exact ⟨h1.warm hW, vk_S.moved hW.alike (vk_S.kept h2 hS.2.1), va_Z.moved hW.alike (va_Z.kept h3 hS.2.1), va_Zq.moved hW.alike (va_Zq.kept h4 hS.2.1), fun y hy => word_at hW (Or.inl rfl) (h9 y hy), d1, d2, ⟨va_Z.moved hW.alike (va_Z.kept h5 hS.2.1), va_T.moved hW.alike (va_T.kept h6 hS.2.1)⟩, va_Z.moved hW.alike (va_Z.kept h7 hS.2.1), va_T.moved hW.alike (va_T.kept h8 hS.2.1)⟩
def q_X (Z : q_Z) (E : q_E) (U : State) (H : Heap) : Prop := va_X (E.1 0) Z.1 Z.2.1 U H ∧ q_J (q_A E) (E.1 1) (E.2.2.1 9) U H
theorem q_X.next {Z : q_Z} {E : q_E} {s U : State} {H : Heap} {locs : List Loc} (h : q_X Z E s s.heap) (h0 : E.1 0 < E.2.2.2.1) (hz : E.2.2.2.1 ≤ s.heap.size) (hS : va_S (q_A E) s.heap H locs) (hW : s.WarmedH U.vm) : q_X Z E U H := ⟨va_X.moved hW.alike (va_X.kept h.1 (hS.2.1 _ (Nat.lt_of_lt_of_le h0 hz) (Nat.not_le.mpr h0))), h.2.next hS hW⟩
theorem q_X.ext {Z Z' : q_Z} {E E' : q_E} {U : State} {H : Heap} (h : q_X Z E U H) (e0 : E'.1 0 = E.1 0) (e1 : E'.1 1 = E.1 1) (e2 : E'.2 = E.2) (z1 : Z'.1 = Z.1) (z2 : Z'.2.1 = Z.2.1) : q_X Z' E' U H := by
  unfold q_X q_A
  rw [e0, e1, e2, z1, z2]
  exact h
def q_R (Z : q_Z) (E : q_E) (M : q_M) (s : State) (H : Heap) (locs : List Loc) : Prop := va_K E.2.1 vwCl (q_tys E) s ∧ q_P Z E M H ∧ va_S (q_A E) s.heap H locs ∧ q_X Z E s s.heap ∧ E.2.2.2.1 ≤ s.heap.size ∧ q_env Z E ∧ q_N s
def q_RS (Z : q_Z) (E : q_E) (M : q_M) (U : State) : Prop := va_K E.2.1 vwCl (q_tys E) U ∧ q_P Z E M U.heap ∧ q_X Z E U U.heap ∧ E.2.2.2.1 ≤ U.heap.size ∧ q_env Z E ∧ q_N U
/-- stores of the pure state -/
def q_si (M : q_M) (r i : Nat) (x : Int32) : q_M := (fun a b => bif Nat.beq a r && Nat.beq b i then x else M.1 a b, M.2)
def q_sl (M : q_M) (r i : Nat) (x : Int64) : q_M := (M.1, fun a b => bif Nat.beq a r && Nat.beq b i then x else M.2 a b)
/-- a row of n ints of cell a from place sp laid into cell b from place dp -/
def q_cpi (M : q_M) (a sp b dp n : Nat) : q_M := (fun c i => bif Nat.beq c b && (Nat.ble dp i && Nat.blt i (dp + n)) then M.1 a (sp + (i - dp)) else M.1 c i, M.2)
def q_cpl (M : q_M) (a sp b dp n : Nat) : q_M := (M.1, fun c i => bif Nat.beq c b && (Nat.ble dp i && Nat.blt i (dp + n)) then M.2 a (sp + (i - dp)) else M.2 c i)
/-! the locals -/
def q_has (r : Nat → Nat) (ls : Array Slot) (n : Nat) (lv : q_L) : Prop := ls.size = n ∧ lv_wf ls ∧ ∀ (i : Nat) (v : Value), lv[i]? = some (some v) → ls[i]? = some (.val (q_vm r v))
def q_kill (lv : q_L) (i : Nat) : q_L := match i with
  | 0 => lv
  | j + 1 => match lv[j]? with
    | some (some v) => bif Nat.beq v.category 2 then lv.set j none else lv
    | _ => lv
def q_set1 (lv : q_L) (i : Nat) (v : Value) : q_L := (q_kill lv i).set i (some v)
def q_set2 (lv : q_L) (i : Nat) (v : Value) : q_L := ((q_kill lv i).set i (some v)).set (i + 1) none
theorem q_kill_at {lv : q_L} {i j : Nat} {v : Value} (h : (q_kill lv i)[j]? = some (some v)) : lv[j]? = some (some v) ∧ ¬ (j + 1 = i ∧ v.category = 2) := by
  unfold q_kill at h
  cases i with
  | zero => exact ⟨h, fun q => by omega⟩
  | succ k =>
    dsimp only at h
    split at h
    next w hw =>
      cases hb : Nat.beq w.category 2 with
      | true =>
        rw [hb] at h
        simp only [cond_true] at h
        by_cases hj : k = j
        · subst hj
          rw [List.getElem?_set] at h
          simp at h
        · rw [List.getElem?_set_ne hj] at h
          exact ⟨h, fun q => hj (by omega)⟩
      | false =>
        rw [hb] at h
        simp only [cond_false] at h
        refine ⟨h, fun q => ?_⟩
        have e : k = j := by omega
        subst e
        rw [hw] at h
        cases h
        rw [q.2] at hb
        cases hb
    next hw =>
      refine ⟨h, fun q => ?_⟩
      have e : k = j := by omega
      subst e
      exact hw _ h
def q_asc (r : Nat → Nat) (lv : q_L) : List (Nat × Value) := lv.zipIdx.filterMap fun q => q.1.map fun v => (q.2, q_vm r v)
theorem q_asc_mem {r : Nat → Nat} {lv : q_L} {i : Nat} {v : Value} (h : lv[i]? = some (some v)) : (i, q_vm r v) ∈ q_asc r lv := by
  unfold q_asc
  refine List.mem_filterMap.mpr ⟨(some v, i), ?_, rfl⟩
  rw [List.mem_zipIdx_iff_getElem?]
  exact h
theorem q_has.asc {r : Nat → Nat} {ls : Array Slot} {n : Nat} {lv : q_L} (h : q_has r ls n lv) : lv_has ls n (q_asc r lv) := by
  refine ⟨h.1, h.2.1, fun q hq => ?_⟩
  unfold q_asc at hq
  obtain ⟨⟨o, i⟩, h1, h2⟩ := List.mem_filterMap.mp hq
  rw [List.mem_zipIdx_iff_getElem?] at h1
  cases o with
  | none => cases h2
  | some v =>
    cases h2
    exact h.2.2 i v h1
theorem q_has.set1 {r : Nat → Nat} {ls' : Array Slot} {n i : Nat} {lv : q_L} {v : Value} (h : lv_has ls' n ((i, q_vm r v) :: (q_asc r lv).filter (fun q => !(q.1 == i) && !(q.1 + 1 == i && q.2.category == 2)))) : q_has r ls' n (q_set1 lv i v) := by
  refine ⟨h.1, h.2.1, fun j w hj => ?_⟩
  unfold q_set1 at hj
  by_cases e : i = j
  · subst e
    rw [List.getElem?_set] at hj
    simp only [if_true] at hj
    split at hj
    · cases hj
      exact h.2.2 (i, q_vm r v) List.mem_cons_self
    · cases hj
  · rw [List.getElem?_set_ne e] at hj
    obtain ⟨h1, h2⟩ := q_kill_at hj
    refine h.2.2 (j, q_vm r w) (List.mem_cons_of_mem _ (List.mem_filter.mpr ⟨q_asc_mem h1, ?_⟩))
    simp only [q_vm_cat, Bool.and_eq_true, Bool.not_eq_true', beq_eq_false_iff_ne, Bool.and_eq_false_imp, beq_iff_eq, ne_eq]
    exact ⟨fun q => e q.symm, fun q c => h2 ⟨q, c⟩⟩
theorem q_has.set2 {r : Nat → Nat} {ls' : Array Slot} {n i : Nat} {lv : q_L} {v : Value} (h : lv_has ls' n ((i, q_vm r v) :: (q_asc r lv).filter (fun q => !(q.1 == i) && (!(q.1 == i + 1) && !(q.1 + 1 == i && q.2.category == 2))))) : q_has r ls' n (q_set2 lv i v) := by
  refine ⟨h.1, h.2.1, fun j w hj => ?_⟩
  unfold q_set2 at hj
  by_cases e1 : i + 1 = j
  · subst e1
    rw [List.getElem?_set] at hj
    simp only [if_true] at hj
    split at hj <;> cases hj
  · rw [List.getElem?_set_ne e1] at hj
    by_cases e : i = j
    · subst e
      rw [List.getElem?_set] at hj
      simp only [if_true] at hj
      split at hj
      · cases hj
        exact h.2.2 (i, q_vm r v) List.mem_cons_self
      · cases hj
    · rw [List.getElem?_set_ne e] at hj
      obtain ⟨h1, h2⟩ := q_kill_at hj
      refine h.2.2 (j, q_vm r w) (List.mem_cons_of_mem _ (List.mem_filter.mpr ⟨q_asc_mem h1, ?_⟩))
      simp only [q_vm_cat, Bool.and_eq_true, Bool.not_eq_true', beq_eq_false_iff_ne, Bool.and_eq_false_imp, beq_iff_eq, ne_eq]
      exact ⟨fun q => e q.symm, fun q => e1 q.symm, fun q c => h2 ⟨q, c⟩⟩
def q_sls : List Value → q_L
  | [] => []
  | v :: vs => bif Nat.beq v.category 2 then some v :: none :: q_sls vs else some v :: q_sls vs
def q_lv0 (n : Nat) (as : List Value) : q_L := q_sls as ++ List.replicate (n - (q_sls as).length) none
theorem q_sls_len (r : Nat → Nat) : ∀ as : List Value, (lg_sl (as.map (q_vm r))).length = (q_sls as).length
  | [] => rfl
  | v :: vs => by
    have ih := q_sls_len r vs
    simp only [lg_sl, List.map_cons, List.flatMap_cons, List.length_append] at ih ⊢
    rw [ih, q_vm_cat, show q_sls (v :: vs) = bif Nat.beq v.category 2 then some v :: none :: q_sls vs else some v :: q_sls vs from rfl]
    by_cases h : v.category = 2
    · rw [if_pos h, h]
      simp
      omega
    · have hb : Nat.beq v.category 2 = false := by
        cases hq : Nat.beq v.category 2 with
        | false => rfl
        | true => exact absurd (Nat.eq_of_beq_eq_true hq) h
      rw [if_neg h, hb]
      simp
      omega
theorem q_sls_at (r : Nat → Nat) : ∀ (as : List Value) (k i : Nat) (v : Value), (q_sls as)[i]? = some (some v) → (k + i, q_vm r v) ∈ lv_args k (as.map (q_vm r))
  | [], k, i, v, h => by simp [q_sls] at h
  | a :: as, k, i, v, h => by
    unfold q_sls at h
    rw [List.map_cons]
    unfold lv_args
    rw [q_vm_cat]
    by_cases hc : a.category = 2
    · rw [hc] at h
      rw [if_pos hc]
      have h : (some a :: none :: q_sls as)[i]? = some (some v) := h
      match i, h with
      | 0, h =>
        cases h
        exact List.mem_cons_self
      | 1, h => cases h
      | i + 2, h =>
        have h3 := q_sls_at r as (k + 2) i v h
        rw [show k + 2 + i = k + (i + 2) by omega] at h3
        exact List.mem_cons_of_mem _ h3
    · have hb : Nat.beq a.category 2 = false := by
        cases hq : Nat.beq a.category 2 with
        | false => rfl
        | true => exact absurd (Nat.eq_of_beq_eq_true hq) hc
      rw [hb] at h
      rw [if_neg hc]
      have h : (some a :: q_sls as)[i]? = some (some v) := h
      match i, h with
      | 0, h =>
        cases h
        exact List.mem_cons_self
      | i + 1, h =>
        have h3 := q_sls_at r as (k + 1) i v h
        rw [show k + 1 + i = k + (i + 1) by omega] at h3
        exact List.mem_cons_of_mem _ h3
theorem q_has0 {r : Nat → Nat} {as : List Value} {n : Nat} {ls : Array Slot} (h : lv_has ls n (lv_args 0 (as.map (q_vm r)))) : q_has r ls n (q_lv0 n as) := by
  refine ⟨h.1, h.2.1, fun i v hv => ?_⟩
  unfold q_lv0 at hv
  by_cases hi : i < (q_sls as).length
  · rw [List.getElem?_append_left hi] at hv
    have h1 := q_sls_at r as 0 i v hv
    rw [Nat.zero_add] at h1
    exact h.2.2 _ h1
  · rw [List.getElem?_append_right (by omega)] at hv
    have := List.eq_of_mem_replicate (List.mem_of_getElem? hv)
    cases this
