/-! memory: fields, arrays -/
theorem q_ent_congr {E : q_E} {M M' : q_M} {sv : List Value} {k : Nat} {h : q_Sh} (h1 : M'.1 k = M.1 k) (h2 : M'.2 k = M.2 k) : q_ent E M' sv k h = q_ent E M sv k h := by
  unfold q_ent
  rw [h1, h2]
theorem q_wl_upd {Z : q_Z} {E : q_E} {M M' : q_M} {sv : List Value} {X : va_W} {k : Nat} {h : q_Sh} (hc : q_cell Z (k + 2) = some h) (h1 : ∀ j, j ≠ k + 2 → M'.1 j = M.1 j ∧ M'.2 j = M.2 j) :
    (q_wl Z E M sv ++ X).set k (E.1 (k + 2), q_ent E M' sv (k + 2) h) = q_wl Z E M' sv ++ X := by
  have hc' : Z.2.2[k]? = some h := hc
  have hl : k < Z.2.2.length := (List.getElem?_eq_some_iff.mp hc').1
  have hlen : ∀ N : q_M, (q_wl Z E N sv).length = Z.2.2.length := fun N => by unfold q_wl; rw [List.length_mapIdx]
  rw [List.set_append_left _ _ (by rw [hlen]; exact hl)]
  congr 1
  apply List.ext_getElem?
  intro j
  by_cases e : k = j
  · subst e
    rw [List.getElem?_set_self (by rw [hlen]; exact hl)]
    unfold q_wl
    rw [List.getElem?_mapIdx, hc']
    rfl
  · rw [List.getElem?_set_ne e]
    unfold q_wl
    rw [List.getElem?_mapIdx, List.getElem?_mapIdx]
    cases Z.2.2[j]? with
    | none => rfl
    | some g =>
      obtain ⟨a1, a2⟩ := h1 (j + 2) (fun q => e (by omega))
      show some (E.1 (j + 2), q_ent E M sv (j + 2) g) = some (E.1 (j + 2), q_ent E M' sv (j + 2) g)
      rw [q_ent_congr a1 a2]
theorem q_SB {Z : q_Z} {E : q_E} {M M' : q_M} {sv : List Value} {X : va_W} {r : Nat} {h : q_Sh} (hE : q_env Z E) (hc : q_cell Z r = some h) (h7 : h.1 ≠ 7) (h1 : ∀ j, j ≠ r → M'.1 j = M.1 j) (hs : E.2.2.2.2.2 M sv X) : E.2.2.2.2.2 M' sv X := by
  refine hE.2.1 M M' sv X (fun i => ?_) hs
  rw [h1]
  intro e
  rw [← e] at hc
  exact h7 (hE.2.2 h hc)
theorem q_si_ne {M : q_M} {r i : Nat} {x : Int32} {j : Nat} (h : j ≠ r) : (q_si M r i x).1 j = M.1 j := by
  funext b
  have hb : Nat.beq j r = false := by
    cases hq : Nat.beq j r with
    | false => rfl
    | true => exact absurd (Nat.eq_of_beq_eq_true hq) h
  show (bif Nat.beq j r && Nat.beq b i then x else M.1 j b) = _
  rw [hb]
  rfl
theorem q_sl_ne {M : q_M} {r i : Nat} {x : Int64} {j : Nat} (h : j ≠ r) : (q_sl M r i x).2 j = M.2 j := by
  funext b
  have hb : Nat.beq j r = false := by
    cases hq : Nat.beq j r with
    | false => rfl
    | true => exact absurd (Nat.eq_of_beq_eq_true hq) h
  show (bif Nat.beq j r && Nat.beq b i then x else M.2 j b) = _
  rw [hb]
  rfl
theorem q_beq_refl (r : Nat) : Nat.beq r r = true := Nat.beq_refl r
theorem q_si_at (M : q_M) (r i : Nat) (x : Int32) (b : Nat) : (q_si M r i x).1 r b = if b = i then x else M.1 r b := by
  show (bif Nat.beq r r && Nat.beq b i then x else M.1 r b) = _
  rw [q_beq_refl, Bool.true_and]
  by_cases h : b = i
  · subst h
    rw [q_beq_refl, if_pos rfl]
    rfl
  · rw [if_neg h]
    cases hq : Nat.beq b i with
    | false => rfl
    | true => exact absurd (Nat.eq_of_beq_eq_true hq) h
theorem q_sl_at (M : q_M) (r i : Nat) (x : Int64) (b : Nat) : (q_sl M r i x).2 r b = if b = i then x else M.2 r b := by
  show (bif Nat.beq r r && Nat.beq b i then x else M.2 r b) = _
  rw [q_beq_refl, Bool.true_and]
  by_cases h : b = i
  · subst h
    rw [q_beq_refl, if_pos rfl]
    rfl
  · rw [if_neg h]
    cases hq : Nat.beq b i with
    | false => rfl
    | true => exact absurd (Nat.eq_of_beq_eq_true hq) h
/-- the value of a field, pure -/
def q_pv (t : Nat) (x : Int32) (y : Int64) (o : Option Nat) : Value := match t with
  | 1 => .long y
  | 2 => match o with
    | some q => .ref q
    | none => .null
  | _ => .int x
theorem q_pv_fv (r : Nat → Nat) (t : Nat) (x : Int32) (y : Int64) (o : Option Nat) : q_fv r t x y o = q_vm r (q_pv t x y o) := by
  match t with
  | 0 => rfl
  | 1 => rfl
  | 2 => cases o <;> rfl
  | k + 3 => rfl
theorem q_own {Z : q_Z} {r : Nat} {h : q_Sh} (hc : q_cell Z r = some h) (hk : h.1 < 5) : ∃ k, r = k + 2 := by
  match r, hc with
  | 0, hc => cases hc; exact absurd hk (show ¬ (5 : Nat) < 5 by decide)
  | 1, hc => cases hc; exact absurd hk (show ¬ (6 : Nat) < 5 by decide)
  | k + 2, _ => exact ⟨k, rfl⟩
section QM
variable {mt : Nat → q_Me} {Z : q_Z} {E : q_E} {mi d rc rs : Nat} {Y : Array Value → State → Outcome → State → Prop} {pc : Nat} {lv : q_L} {st : List Value} {M : q_M}
theorem q_word {me : q_Me} {R : Room} {p : Program} {s : State} {m : MethodId} {args : Array Value} {meth : Method} {c : Code} (A : q_Act me d R p s m args meth c) {w : Cond} (h : w ∈ q_wT) : w.before args s = true := A.2.2.2.2.2.1 w h
theorem q_get {r ci k n idx : Nat} {refs : List (Option Nat)} {C : String} {T : u_T} {N : Nat} (hc : q_cell Z r = some (0, ci, n, refs)) (hv : vwCl[ci]? = some (C, T, N)) (hk : k < N) (hkn : k < n) (hl : Cond.fieldLink (mt mi).1 idx C (T k).2.1 (T k).2.2.1 ∈ q_wT) (hT : (T k).1 = C) (hd : decode (mt mi).2.2.1 pc = .ok (.getfield idx, 3))
    (kk : q_G mt Z E mi d rc rs Y (pc + 3) lv (q_pv (q_fk ci k) (M.1 r k) (M.2 r k) (refs.getD k none) :: st) M) : q_G mt Z E mi d rc rs Y pc lv (.ref r :: st) M := by
  intro l p e R s m args below meth c H locs cells slots ls A hl' hR hcc hss
  have K := kk l p e R s m args below meth c H locs cells slots ls A hl' hR hcc hss
  obtain ⟨r0, rfl⟩ := q_own hc (Nat.le_of_ble_eq_true rfl)
  obtain ⟨hK, ⟨sv, X, hP, hD, -⟩, -⟩ := hR
  obtain ⟨ty0, hws, -, -⟩ := q_cls hv
  refine va_get (D := E.2.1) (ci := ci) (ref := C) A.1 A.2.1 (Ts := q_wT) (fun w h => q_word A h) hws A.2.2.2.2.1 hK hP r0 (fs := q_flds E.1 ci n (M.1 (r0 + 2)) (M.2 (r0 + 2)) refs) (q_wl_at X hc) hv k hk (q_word A hl) (fun x h => by rw [hT] at h; exact h) (q_flds_at hkn) hd ?_
  rw [q_pv_fv]
  exact K
theorem q_puti {r ci k n idx : Nat} {refs : List (Option Nat)} {C : String} {T : u_T} {N : Nat} {x : Int32} {ty : FieldType} (hc : q_cell Z r = some (0, ci, n, refs)) (hv : vwCl[ci]? = some (C, T, N)) (hk : k < N) (hkn : k < n) (hl : Cond.fieldLink (mt mi).1 idx C (T k).2.1 (T k).2.2.1 ∈ q_wT) (hT : (T k).1 = C) (hfin : (T k).2.2.2 = false) (hty : parseFieldDescriptor (T k).2.2.1 = some ty) (hn : narrow ty (.int x) = .int x) (hfit : fits ty (.int x) = true) (hfk : q_fk ci k = 0 ∨ q_fk ci k = 3) (hd : decode (mt mi).2.2.1 pc = .ok (.putfield idx, 3))
    (kk : q_G mt Z E mi d rc rs Y (pc + 3) lv st (q_si M r k x)) : q_G mt Z E mi d rc rs Y pc lv (.int x :: .ref r :: st) M := by
  intro l p e R s m args below meth c H locs cells slots ls A hl' hR hcc hss
  obtain ⟨r0, rfl⟩ := q_own hc (Nat.le_of_ble_eq_true rfl)
  obtain ⟨hK, ⟨sv, X, hP, hD, hSB⟩, hS, hX, hz, hE, hN⟩ := hR
  obtain ⟨ty0, hws, hty0, hnm⟩ := q_cls hv
  refine va_put (D := E.2.1) (ci := ci) (ref := C) A.1 A.2.1 (Ts := q_wT) (fun w h => q_word A h) hws ty0 hty0 hnm A.2.2.2.2.1 hK hP hD hS r0 (fs := q_flds E.1 ci n (M.1 (r0 + 2)) (M.2 (r0 + 2)) refs) (q_wl_at X hc) hv k hk (q_word A hl) (fun x h => by rw [hT] at h; exact h) hfin hty hn hfit (by rw [q_flds_len]; exact hkn) hd (fun H1 locs1 hP1 hD1 hS1 => ?_)
  have e1 : (q_flds E.1 ci n (M.1 (r0 + 2)) (M.2 (r0 + 2)) refs).set k (.int x) = q_flds E.1 ci n ((q_si M (r0 + 2) k x).1 (r0 + 2)) (M.2 (r0 + 2)) refs := by
    apply List.ext_getElem?
    intro j
    by_cases hj : j < n
    · rw [q_flds_at hj]
      by_cases ej : k = j
      · subst ej
        rw [List.getElem?_set_self (by rw [q_flds_len]; exact hkn), q_si_at, if_pos rfl]
        rcases hfk with h | h <;> rw [h] <;> rfl
      · rw [List.getElem?_set_ne ej, q_flds_at hj, q_si_at, if_neg (fun q => ej q.symm)]
    · rw [List.getElem?_eq_none (by rw [List.length_set, q_flds_len]; omega), List.getElem?_eq_none (by rw [q_flds_len]; omega)]
  have e2 : (q_wl Z E M sv ++ X).set r0 (E.1 (r0 + 2), .inr (ci, (q_flds E.1 ci n (M.1 (r0 + 2)) (M.2 (r0 + 2)) refs).set k (.int x))) = q_wl Z E (q_si M (r0 + 2) k x) sv ++ X := by
    rw [e1]
    exact q_wl_upd (M' := q_si M (r0 + 2) k x) hc (fun j hj => ⟨q_si_ne hj, rfl⟩)
  have hP1 : va_P E.2.1 vwCl ((q_wl Z E M sv ++ X).set r0 (E.1 (r0 + 2), .inr (ci, (q_flds E.1 ci n (M.1 (r0 + 2)) (M.2 (r0 + 2)) refs).set k (.int x)))) H1 := hP1
  have hD1 : va_D (q_A E) ((q_wl Z E M sv ++ X).set r0 (E.1 (r0 + 2), .inr (ci, (q_flds E.1 ci n (M.1 (r0 + 2)) (M.2 (r0 + 2)) refs).set k (.int x)))) := hD1
  rw [e2] at hP1 hD1
  exact kk l p e R s m args below meth c H1 locs1 cells slots ls A hl' ⟨hK, ⟨sv, X, hP1, hD1, q_SB hE hc (show (0 : Nat) ≠ 7 by decide) (fun j hj => q_si_ne hj) hSB⟩, hS1, hX, hz, hE, hN⟩ hcc hss
theorem q_putl {r ci k n idx : Nat} {refs : List (Option Nat)} {C : String} {T : u_T} {N : Nat} {x : Int64} (hc : q_cell Z r = some (0, ci, n, refs)) (hv : vwCl[ci]? = some (C, T, N)) (hk : k < N) (hkn : k < n) (hl : Cond.fieldLink (mt mi).1 idx C (T k).2.1 (T k).2.2.1 ∈ q_wT) (hT : (T k).1 = C) (hfin : (T k).2.2.2 = false) (hty : parseFieldDescriptor (T k).2.2.1 = some .long) (hfk : q_fk ci k = 1) (hd : decode (mt mi).2.2.1 pc = .ok (.putfield idx, 3))
    (kk : q_G mt Z E mi d rc rs Y (pc + 3) lv st (q_sl M r k x)) : q_G mt Z E mi d rc rs Y pc lv (.long x :: .ref r :: st) M := by
  intro l p e R s m args below meth c H locs cells slots ls A hl' hR hcc hss
  obtain ⟨r0, rfl⟩ := q_own hc (Nat.le_of_ble_eq_true rfl)
  obtain ⟨hK, ⟨sv, X, hP, hD, hSB⟩, hS, hX, hz, hE, hN⟩ := hR
  obtain ⟨ty0, hws, hty0, hnm⟩ := q_cls hv
  refine va_put (D := E.2.1) (ci := ci) (ref := C) A.1 A.2.1 (Ts := q_wT) (fun w h => q_word A h) hws ty0 hty0 hnm A.2.2.2.2.1 hK hP hD hS r0 (fs := q_flds E.1 ci n (M.1 (r0 + 2)) (M.2 (r0 + 2)) refs) (q_wl_at X hc) hv k hk (q_word A hl) (fun x h => by rw [hT] at h; exact h) hfin hty rfl rfl (by rw [q_flds_len]; exact hkn) hd (fun H1 locs1 hP1 hD1 hS1 => ?_)
  have e1 : (q_flds E.1 ci n (M.1 (r0 + 2)) (M.2 (r0 + 2)) refs).set k (.long x) = q_flds E.1 ci n (M.1 (r0 + 2)) ((q_sl M (r0 + 2) k x).2 (r0 + 2)) refs := by
    apply List.ext_getElem?
    intro j
    by_cases hj : j < n
    · rw [q_flds_at hj]
      by_cases ej : k = j
      · subst ej
        rw [List.getElem?_set_self (by rw [q_flds_len]; exact hkn), q_sl_at, if_pos rfl, hfk]
        rfl
      · rw [List.getElem?_set_ne ej, q_flds_at hj, q_sl_at, if_neg (fun q => ej q.symm)]
    · rw [List.getElem?_eq_none (by rw [List.length_set, q_flds_len]; omega), List.getElem?_eq_none (by rw [q_flds_len]; omega)]
  have e2 : (q_wl Z E M sv ++ X).set r0 (E.1 (r0 + 2), .inr (ci, (q_flds E.1 ci n (M.1 (r0 + 2)) (M.2 (r0 + 2)) refs).set k (.long x))) = q_wl Z E (q_sl M (r0 + 2) k x) sv ++ X := by
    rw [e1]
    exact q_wl_upd (M' := q_sl M (r0 + 2) k x) hc (fun j hj => ⟨rfl, q_sl_ne hj⟩)
  have hP1 : va_P E.2.1 vwCl ((q_wl Z E M sv ++ X).set r0 (E.1 (r0 + 2), .inr (ci, (q_flds E.1 ci n (M.1 (r0 + 2)) (M.2 (r0 + 2)) refs).set k (.long x)))) H1 := hP1
  have hD1 : va_D (q_A E) ((q_wl Z E M sv ++ X).set r0 (E.1 (r0 + 2), .inr (ci, (q_flds E.1 ci n (M.1 (r0 + 2)) (M.2 (r0 + 2)) refs).set k (.long x)))) := hD1
  rw [e2] at hP1 hD1
  exact kk l p e R s m args below meth c H1 locs1 cells slots ls A hl' ⟨hK, ⟨sv, X, hP1, hD1, q_SB (M := M) hE hc (show (0 : Nat) ≠ 7 by decide) (fun j hj => rfl) hSB⟩, hS1, hX, hz, hE, hN⟩ hcc hss
/-- an index that lies in the row -/
def q_in0 (i : Int32) (n : Nat) : Prop := 0 ≤ i.toInt ∧ i.toInt < (n : Int)
theorem q_in0.vp {i : Int32} {n : Nat} (h : q_in0 i n) : vp_in i n := by
  intro q
  rcases q with q | q
  · rw [Int32.lt_iff_toInt_lt, Int32.toInt_zero] at q
    have := h.1
    omega
  · have h1 : i.toNatClampNeg = i.toInt.toNat := rfl
    rw [h1] at q
    have := h.1
    have := h.2
    omega
theorem q_iald {r cx n : Nat} {refs : List (Option Nat)} {i : Int32} (hc : q_cell Z r = some (1, cx, n, refs)) (hin : q_in0 i n) (hd : decode (mt mi).2.2.1 pc = .ok (.iaload, 1))
    (kk : q_G mt Z E mi d rc rs Y (pc + 1) lv (.int (M.1 r i.toNatClampNeg) :: st) M) : q_G mt Z E mi d rc rs Y pc lv (.int i :: .ref r :: st) M := by
  intro l p e R s m args below meth c H locs cells slots ls A hl' hR hcc hss
  have K := kk l p e R s m args below meth c H locs cells slots ls A hl' hR hcc hss
  obtain ⟨r0, rfl⟩ := q_own hc (Nat.le_of_ble_eq_true rfl)
  obtain ⟨hK, ⟨sv, X, hP, hD, -⟩, -⟩ := hR
  exact va_iald A.1 A.2.1 hK hP r0 0 (q_wl_at X hc) rfl hin.vp hd K
theorem q_lald {r cx n : Nat} {refs : List (Option Nat)} {i : Int32} (hc : q_cell Z r = some (2, cx, n, refs)) (hin : q_in0 i n) (hd : decode (mt mi).2.2.1 pc = .ok (.laload, 1))
    (kk : q_G mt Z E mi d rc rs Y (pc + 1) lv (.long (M.2 r i.toNatClampNeg) :: st) M) : q_G mt Z E mi d rc rs Y pc lv (.int i :: .ref r :: st) M := by
  intro l p e R s m args below meth c H locs cells slots ls A hl' hR hcc hss
  have K := kk l p e R s m args below meth c H locs cells slots ls A hl' hR hcc hss
  obtain ⟨r0, rfl⟩ := q_own hc (Nat.le_of_ble_eq_true rfl)
  obtain ⟨hK, ⟨sv, X, hP, hD, -⟩, -⟩ := hR
  exact va_lald A.1 A.2.1 hK hP r0 1 (q_wl_at X hc) rfl hin.vp hd K
theorem q_zald {r cx n : Nat} {refs : List (Option Nat)} {i : Int32} (hc : q_cell Z r = some (3, cx, n, refs)) (hin : q_in0 i n) (hd : decode (mt mi).2.2.1 pc = .ok (.baload, 1))
    (kk : q_G mt Z E mi d rc rs Y (pc + 1) lv (.int (M.1 r i.toNatClampNeg) :: st) M) : q_G mt Z E mi d rc rs Y pc lv (.int i :: .ref r :: st) M := by
  intro l p e R s m args below meth c H locs cells slots ls A hl' hR hcc hss
  have K := kk l p e R s m args below meth c H locs cells slots ls A hl' hR hcc hss
  obtain ⟨r0, rfl⟩ := q_own hc (Nat.le_of_ble_eq_true rfl)
  obtain ⟨hK, ⟨sv, X, hP, hD, -⟩, -⟩ := hR
  exact va_zald A.1 A.2.1 hK hP r0 2 (q_wl_at X hc) rfl hin.vp hd K
theorem q_aald {r cx n : Nat} {refs : List (Option Nat)} {i : Int32} (hc : q_cell Z r = some (4, cx, n, refs)) (hin : q_in0 i n) (hd : decode (mt mi).2.2.1 pc = .ok (.aaload, 1))
    (kk : q_G mt Z E mi d rc rs Y (pc + 1) lv (q_pv 2 0 0 (refs.getD i.toNatClampNeg none) :: st) M) : q_G mt Z E mi d rc rs Y pc lv (.int i :: .ref r :: st) M := by
  intro l p e R s m args below meth c H locs cells slots ls A hl' hR hcc hss
  have K := kk l p e R s m args below meth c H locs cells slots ls A hl' hR hcc hss
  obtain ⟨r0, rfl⟩ := q_own hc (Nat.le_of_ble_eq_true rfl)
  obtain ⟨hK, ⟨sv, X, hP, hD, -⟩, -⟩ := hR
  refine va_aldq A.1 A.2.1 hK hP r0 3 (q_wl_at X hc) rfl hin.vp hd ?_
  have e1 : va_rf ((refs.getD i.toNatClampNeg none).map E.1) = q_vm E.1 (q_pv 2 0 0 (refs.getD i.toNatClampNeg none)) := by
    cases refs.getD i.toNatClampNeg none <;> rfl
  show W _ _ _ _ _ _ _ _ _ _ _ _ _ _ _ (F0 m (pc + 1) ls (va_rf ((refs.getD i.toNatClampNeg none).map E.1) :: _))
  rw [e1]
  exact K
theorem q_sald {i : Int32} (hin : q_in0 i Z.1) (hd : decode (mt mi).2.2.1 pc = .ok (.iaload, 1))
    (kk : q_G mt Z E mi d rc rs Y (pc + 1) lv (.int (Z.2.1 i.toNatClampNeg) :: st) M) : q_G mt Z E mi d rc rs Y pc lv (.int i :: .ref 0 :: st) M := by
  intro l p e R s m args below meth c H locs cells slots ls A hl' hR hcc hss
  have K := kk l p e R s m args below meth c H locs cells slots ls A hl' hR hcc hss
  obtain ⟨hK, -, hS, hX, hz, hE, -⟩ := hR
  exact va_sld A.1 A.2.1 hX.1 (Nat.lt_of_lt_of_le hE.1 hz) (Nat.not_le.mpr hE.1) hS hin.vp hd K
theorem q_slen (hd : decode (mt mi).2.2.1 pc = .ok (.arraylength, 1))
    (kk : q_G mt Z E mi d rc rs Y (pc + 1) lv (.int (Int32.ofNat Z.1) :: st) M) : q_G mt Z E mi d rc rs Y pc lv (.ref 0 :: st) M := by
  intro l p e R s m args below meth c H locs cells slots ls A hl' hR hcc hss
  have K := kk l p e R s m args below meth c H locs cells slots ls A hl' hR hcc hss
  obtain ⟨hK, -, hS, hX, hz, hE, -⟩ := hR
  exact va_slen A.1 A.2.1 hX.1 (Nat.lt_of_lt_of_le hE.1 hz) (Nat.not_le.mpr hE.1) hS hd K
theorem q_alen {r cx t n : Nat} {refs : List (Option Nat)} (hc : q_cell Z r = some (t, cx, n, refs)) (ht : t = 1 ∨ t = 2 ∨ t = 3 ∨ t = 4) (hd : decode (mt mi).2.2.1 pc = .ok (.arraylength, 1))
    (kk : q_G mt Z E mi d rc rs Y (pc + 1) lv (.int (Int32.ofNat n) :: st) M) : q_G mt Z E mi d rc rs Y pc lv (.ref r :: st) M := by
  intro l p e R s m args below meth c H locs cells slots ls A hl' hR hcc hss
  have K := kk l p e R s m args below meth c H locs cells slots ls A hl' hR hcc hss
  obtain ⟨r0, rfl⟩ := q_own hc (by dsimp only; omega)
  obtain ⟨hK, ⟨sv, X, hP, hD, -⟩, -⟩ := hR
  rcases ht with rfl | rfl | rfl | rfl
  · exact va_alen A.1 A.2.1 hK hP r0 0 (q_wl_at X hc) (ty := .int) rfl rfl hd K
  · exact va_alen A.1 A.2.1 hK hP r0 1 (q_wl_at X hc) (ty := .long) rfl rfl hd K
  · exact va_alen A.1 A.2.1 hK hP r0 2 (q_wl_at X hc) (ty := .boolean) rfl rfl hd K
  · exact va_alen A.1 A.2.1 hK hP r0 3 (q_wl_at X hc) (ty := .object "DropTwo$State") rfl rfl hd K
theorem q_si_row (M : q_M) (r i : Nat) (x : Int32) : (q_si M r i x).1 r = upd (M.1 r) i x := by
  funext b
  rw [q_si_at]
  rfl
theorem q_iast {r cx n : Nat} {refs : List (Option Nat)} {i x : Int32} (hc : q_cell Z r = some (1, cx, n, refs)) (hin : q_in0 i n) (hd : decode (mt mi).2.2.1 pc = .ok (.iastore, 1))
    (kk : q_G mt Z E mi d rc rs Y (pc + 1) lv st (q_si M r i.toNatClampNeg x)) : q_G mt Z E mi d rc rs Y pc lv (.int x :: .int i :: .ref r :: st) M := by
  intro l p e R s m args below meth c H locs cells slots ls A hl' hR hcc hss
  obtain ⟨r0, rfl⟩ := q_own hc (Nat.le_of_ble_eq_true rfl)
  obtain ⟨hK, ⟨sv, X, hP, hD, hSB⟩, hS, hX, hz, hE, hN⟩ := hR
  refine va_iast A.1 A.2.1 hK hP hD hS r0 0 (q_wl_at X hc) rfl hin.vp hd (fun H1 locs1 hP1 hD1 hS1 => ?_)
  have e2 : (q_wl Z E M sv ++ X).set r0 (E.1 (r0 + 2), .inl (E.2.2.1 1, n, .inl (upd (M.1 (r0 + 2)) i.toNatClampNeg x))) = q_wl Z E (q_si M (r0 + 2) i.toNatClampNeg x) sv ++ X := by
    rw [← q_si_row]
    exact q_wl_upd (M' := q_si M (r0 + 2) i.toNatClampNeg x) hc (fun j hj => ⟨q_si_ne hj, rfl⟩)
  have hP1 : va_P E.2.1 vwCl ((q_wl Z E M sv ++ X).set r0 (E.1 (r0 + 2), .inl (E.2.2.1 1, n, .inl (upd (M.1 (r0 + 2)) i.toNatClampNeg x)))) H1 := hP1
  have hD1 : va_D (q_A E) ((q_wl Z E M sv ++ X).set r0 (E.1 (r0 + 2), .inl (E.2.2.1 1, n, .inl (upd (M.1 (r0 + 2)) i.toNatClampNeg x)))) := hD1
  rw [e2] at hP1 hD1
  exact kk l p e R s m args below meth c H1 locs1 cells slots ls A hl' ⟨hK, ⟨sv, X, hP1, hD1, q_SB hE hc (show (1 : Nat) ≠ 7 by decide) (fun j hj => q_si_ne hj) hSB⟩, hS1, hX, hz, hE, hN⟩ hcc hss
theorem q_zast {r cx n : Nat} {refs : List (Option Nat)} {i x : Int32} (hc : q_cell Z r = some (3, cx, n, refs)) (hin : q_in0 i n) (hx : vp_nar .boolean x = x) (hd : decode (mt mi).2.2.1 pc = .ok (.bastore, 1))
    (kk : q_G mt Z E mi d rc rs Y (pc + 1) lv st (q_si M r i.toNatClampNeg x)) : q_G mt Z E mi d rc rs Y pc lv (.int x :: .int i :: .ref r :: st) M := by
  intro l p e R s m args below meth c H locs cells slots ls A hl' hR hcc hss
  obtain ⟨r0, rfl⟩ := q_own hc (Nat.le_of_ble_eq_true rfl)
  obtain ⟨hK, ⟨sv, X, hP, hD, hSB⟩, hS, hX, hz, hE, hN⟩ := hR
  refine va_zast A.1 A.2.1 hK hP hD hS r0 2 (q_wl_at X hc) rfl hin.vp hd (fun H1 locs1 hP1 hD1 hS1 => ?_)
  have e2 : (q_wl Z E M sv ++ X).set r0 (E.1 (r0 + 2), .inl (E.2.2.1 3, n, .inl (upd (M.1 (r0 + 2)) i.toNatClampNeg x))) = q_wl Z E (q_si M (r0 + 2) i.toNatClampNeg x) sv ++ X := by
    rw [← q_si_row]
    exact q_wl_upd (M' := q_si M (r0 + 2) i.toNatClampNeg x) hc (fun j hj => ⟨q_si_ne hj, rfl⟩)
  have hP1 : va_P E.2.1 vwCl ((q_wl Z E M sv ++ X).set r0 (E.1 (r0 + 2), .inl (E.2.2.1 3, n, .inl (upd (M.1 (r0 + 2)) i.toNatClampNeg (vp_nar .boolean x))))) H1 := hP1
  have hD1 : va_D (q_A E) ((q_wl Z E M sv ++ X).set r0 (E.1 (r0 + 2), .inl (E.2.2.1 3, n, .inl (upd (M.1 (r0 + 2)) i.toNatClampNeg (vp_nar .boolean x))))) := hD1
  rw [hx, e2] at hP1 hD1
  exact kk l p e R s m args below meth c H1 locs1 cells slots ls A hl' ⟨hK, ⟨sv, X, hP1, hD1, q_SB hE hc (show (3 : Nat) ≠ 7 by decide) (fun j hj => q_si_ne hj) hSB⟩, hS1, hX, hz, hE, hN⟩ hcc hss
theorem q_sl_row (M : q_M) (r i : Nat) (x : Int64) : (q_sl M r i x).2 r = vp_updL (M.2 r) i x := by
  funext b
  rw [q_sl_at]
  rfl
theorem q_last {r cx n : Nat} {refs : List (Option Nat)} {i : Int32} {x : Int64} (hc : q_cell Z r = some (2, cx, n, refs)) (hin : q_in0 i n) (hd : decode (mt mi).2.2.1 pc = .ok (.lastore, 1))
    (kk : q_G mt Z E mi d rc rs Y (pc + 1) lv st (q_sl M r i.toNatClampNeg x)) : q_G mt Z E mi d rc rs Y pc lv (.long x :: .int i :: .ref r :: st) M := by
  intro l p e R s m args below meth c H locs cells slots ls A hl' hR hcc hss
  obtain ⟨r0, rfl⟩ := q_own hc (Nat.le_of_ble_eq_true rfl)
  obtain ⟨hK, ⟨sv, X, hP, hD, hSB⟩, hS, hX, hz, hE, hN⟩ := hR
  refine va_last A.1 A.2.1 hK hP hD hS r0 1 (q_wl_at X hc) rfl hin.vp hd (fun H1 locs1 hP1 hD1 hS1 => ?_)
  have e2 : (q_wl Z E M sv ++ X).set r0 (E.1 (r0 + 2), .inl (E.2.2.1 2, n, .inr (.inl (vp_updL (M.2 (r0 + 2)) i.toNatClampNeg x)))) = q_wl Z E (q_sl M (r0 + 2) i.toNatClampNeg x) sv ++ X := by
    rw [← q_sl_row]
    exact q_wl_upd (M' := q_sl M (r0 + 2) i.toNatClampNeg x) hc (fun j hj => ⟨rfl, q_sl_ne hj⟩)
  have hP1 : va_P E.2.1 vwCl ((q_wl Z E M sv ++ X).set r0 (E.1 (r0 + 2), .inl (E.2.2.1 2, n, .inr (.inl (vp_updL (M.2 (r0 + 2)) i.toNatClampNeg x))))) H1 := hP1
  have hD1 : va_D (q_A E) ((q_wl Z E M sv ++ X).set r0 (E.1 (r0 + 2), .inl (E.2.2.1 2, n, .inr (.inl (vp_updL (M.2 (r0 + 2)) i.toNatClampNeg x))))) := hD1
  rw [e2] at hP1 hD1
  exact kk l p e R s m args below meth c H1 locs1 cells slots ls A hl' ⟨hK, ⟨sv, X, hP1, hD1, q_SB (M := M) hE hc (show (2 : Nat) ≠ 7 by decide) (fun j hj => rfl) hSB⟩, hS1, hX, hz, hE, hN⟩ hcc hss
end QM
