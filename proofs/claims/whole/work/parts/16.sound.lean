/-! THE FUNCTION IS RIGHT -/
theorem q_fok.el {own : String} {idx ci k j : Nat} {put : Bool} (h : q_fok own idx ci k j put = true) : ∃ (C : String) (T : u_T) (N : Nat), vwCl[ci]? = some (C, T, N) ∧ k < N ∧ Cond.fieldLink own idx C (T k).2.1 (T k).2.2.1 ∈ q_wT ∧ (T k).1 = C ∧ (put = true → (T k).2.2.2 = false ∧ parseFieldDescriptor (T k).2.2.1 = some (match q_fk ci k with
    | 0 => .int
    | 1 => .long
    | _ => .boolean)) := by
  unfold q_fok at h
  split at h
  next C T N hv =>
    rw [Bool.and_eq_true, Bool.and_eq_true, Bool.and_eq_true] at h
    obtain ⟨⟨⟨h1, h2⟩, h3⟩, h4⟩ := h
    refine ⟨C, T, N, hv, of_decide_eq_true h1, q_in_mem h2, of_decide_eq_true h3, fun hp => ?_⟩
    subst hp
    rw [Bool.not_true, Bool.false_or, Bool.and_eq_true] at h4
    refine ⟨?_, of_decide_eq_true h4.2⟩
    cases hb : (T k).2.2.2 with
    | false => rfl
    | true => rw [hb] at h4; cases h4.1
  next => cases h
theorem q_yok.el {me : q_Me} {n : Nat} (h : q_yok me n = true) : me.2.1.cls ≠ "java/lang/invoke/MethodHandle" ∧ me.2.1.cls ≠ "java/lang/invoke/VarHandle" ∧ (parseMethodDescriptor me.2.1.desc).map (fun d => d.parameters.length) = some n := by
  unfold q_yok at h
  rw [Bool.and_eq_true, Bool.and_eq_true] at h
  exact ⟨of_decide_eq_true h.1.1, of_decide_eq_true h.1.2, of_decide_eq_true h.2⟩
theorem q_swt_at {k : Nat → Prop} {x : Int} : ∀ (ts : List Nat) (a : Int) (j t : Nat), q_swt k x a ts → ts[j]? = some t → x = a + j → k t
  | [], _, j, t, _, h, _ => by simp at h
  | u :: us, a, 0, t, h, ht, hx => by
    simp at ht
    subst ht
    exact h.1 (by simpa using hx)
  | u :: us, a, j + 1, t, h, ht, hx => q_swt_at us (a + 1) j t h.2 (by simpa using ht) (by rw [hx]; push_cast; omega)
theorem q_swl_at {k : Nat → Prop} {x : Int} {d : Nat} {pc : Nat} {dflt : Int} (hd : (pc : Int) + dflt = (d : Int)) : ∀ (ps : List (Int × Int)) (ts : List Nat), ps.map (fun o => (pc : Int) + o.2) = ts.map Int.ofNat → q_swl k x d ps ts → ∃ (off : Int) (t : Nat), Op.lookupswitch.offset ps dflt x = off ∧ (pc : Int) + off = (t : Int) ∧ k t
  | [], ts, _, h => ⟨dflt, d, rfl, hd, by cases ts <;> exact h⟩
  | (a, o) :: ps, [], he, _ => by simp at he
  | (a, o) :: ps, t :: ts, he, h => by
    simp only [List.map_cons, List.cons.injEq] at he
    rw [Op.lookupswitch.offset_cons]
    by_cases e : x = a
    · exact ⟨o, t, by rw [if_pos e.symm], he.1, h.1 e⟩
    · obtain ⟨off, t', h1, h2, h3⟩ := q_swl_at hd ps ts he.2 (h.2 e)
      exact ⟨off, t', by rw [if_neg (fun q => e q.symm)]; exact h1, h2, h3⟩
theorem q_cat.el {rest : List Value} (h : q_cat rest = true) : (rest.map fun v => v.category).sum ≤ 8 := Nat.le_of_ble_eq_true h
section QS
variable {mt : Nat → q_Me} {Z : q_Z} {E : q_E} {mi d rc rs : Nat} {Q : Option Value → q_M → Prop} {Y : Array Value → State → Outcome → State → Prop} {pc len : Nat} {i : Instr} {site : List Nat} {lv : q_L} {st : List Value} {M : q_M} {k : Nat → q_L → List Value → q_M → Prop}
set_option maxHeartbeats 4000000 in
theorem q_stp_ok (hall : q_al mt) (hdec : decode (mt mi).2.2.1 pc = .ok (i, len)) (hln : q_lok i len = true) (hs : q_sck mt 438 (mt mi).1 pc i site = true) (hQ : ∀ v M', Q v M' → q_Y Z E Y v M') (hk : ∀ pc' lv' st' M', k pc' lv' st' M' → q_G mt Z E mi d rc rs Y pc' lv' st' M') (h : q_stp mt Z E mi d Q k pc i site lv st M) : q_G mt Z E mi d rc rs Y pc lv st M := by
  cases i with
  | iconst n =>
    cases q_beq hln
    refine q_step ?_ (hk _ _ _ _ h)
    exact fun A _ w => lv_iconst A.1 A.2.1 hdec rfl w
  | bipush n =>
    cases q_beq hln
    refine q_step ?_ (hk _ _ _ _ h)
    exact fun A _ w => lv_bipush A.1 A.2.1 hdec (of_decide_eq_true hs) w
  | sipush n =>
    cases q_beq hln
    refine q_step ?_ (hk _ _ _ _ h)
    exact fun A _ w => lv_sipush A.1 A.2.1 hdec (of_decide_eq_true hs) w
  | lconst n =>
    cases q_beq hln
    refine q_step ?_ (hk _ _ _ _ h)
    exact fun A _ w => lv_lconst A.1 A.2.1 hdec rfl w
  | ldc idx =>
    cases q_beq hln
    unfold q_stp at h
    dsimp only at h
    split at h
    · refine q_step ?_ (hk _ _ _ _ h)
      exact fun A _ w => lv_ldc A.1 A.2.1 A.2.2.2.2.1 (q_word A (q_in_mem hs)) hdec w
    · exact h.elim
  | ldc_w idx =>
    cases q_beq hln
    unfold q_stp at h
    dsimp only at h
    split at h
    · refine q_step ?_ (hk _ _ _ _ h)
      exact fun A _ w => lv_ldcw A.1 A.2.1 A.2.2.2.2.1 (q_word A (q_in_mem hs)) hdec w
    · exact h.elim
  | ldc2_w idx =>
    cases q_beq hln
    unfold q_stp at h
    dsimp only at h
    split at h
    · refine q_step ?_ (hk _ _ _ _ h)
      exact fun A _ w => lv_ldc2 A.1 A.2.1 A.2.2.2.2.1 (q_word A (q_in_mem hs)) hdec w
    · exact h.elim
  | iload_n n =>
    cases q_beq hln
    obtain ⟨x, hx, h⟩ := q_li.el h
    refine q_step ?_ (hk _ _ _ _ h)
    exact fun A hl w => lv_iload_n A.1 A.2.1 hdec rfl (hl.2.2 _ _ hx) w
  | iload n =>
    cases q_beq hln
    obtain ⟨x, hx, h⟩ := q_li.el h
    refine q_step ?_ (hk _ _ _ _ h)
    exact fun A hl w => lv_iload A.1 A.2.1 hdec (hl.2.2 _ _ hx) w
  | lload_n n =>
    cases q_beq hln
    obtain ⟨x, hx, h⟩ := q_ll.el h
    refine q_step ?_ (hk _ _ _ _ h)
    exact fun A hl w => lv_lload_n A.1 A.2.1 hdec rfl (hl.2.2 _ _ hx) w
  | lload n =>
    cases q_beq hln
    obtain ⟨x, hx, h⟩ := q_ll.el h
    refine q_step ?_ (hk _ _ _ _ h)
    exact fun A hl w => lv_lload A.1 A.2.1 hdec (hl.2.2 _ _ hx) w
  | aload_n n =>
    cases q_beq hln
    obtain ⟨x, hx, h⟩ := q_la.el h
    refine q_step ?_ (hk _ _ _ _ h)
    exact fun A hl w => lv_aload_n A.1 A.2.1 hdec rfl (hl.2.2 _ _ hx) w
  | aload n =>
    cases q_beq hln
    obtain ⟨x, hx, h⟩ := q_la.el h
    refine q_step ?_ (hk _ _ _ _ h)
    exact fun A hl w => lv_aload A.1 A.2.1 hdec (hl.2.2 _ _ hx) w
  | istore_n n =>
    cases q_beq hln
    have h9 := q_1i.el h
    clear h
    obtain ⟨x, r, rfl, h⟩ := h9
    obtain ⟨hn, h⟩ := q_bif h
    refine q_loc ?_ (hk _ _ _ _ h)
    exact fun A hl w => lv_istore_n A.1 A.2.1 hdec rfl hl.asc (Nat.le_of_ble_eq_true hn) rfl (fun ls' hl' => w ls' (q_has.set1 (v := .int x) hl'))
  | istore n =>
    cases q_beq hln
    have h9 := q_1i.el h
    clear h
    obtain ⟨x, r, rfl, h⟩ := h9
    obtain ⟨hn, h⟩ := q_bif h
    refine q_loc ?_ (hk _ _ _ _ h)
    exact fun A hl w => lv_istore A.1 A.2.1 hdec hl.asc (Nat.le_of_ble_eq_true hn) rfl (fun ls' hl' => w ls' (q_has.set1 (v := .int x) hl'))
  | lstore_n n =>
    cases q_beq hln
    have h9 := q_1l.el h
    clear h
    obtain ⟨x, r, rfl, h⟩ := h9
    obtain ⟨hn, h⟩ := q_bif h
    refine q_loc ?_ (hk _ _ _ _ h)
    exact fun A hl w => lv_lstore_n A.1 A.2.1 hdec rfl hl.asc (Nat.le_of_ble_eq_true hn) rfl (fun ls' hl' => w ls' (q_has.set2 (v := .long x) hl'))
  | lstore n =>
    cases q_beq hln
    have h9 := q_1l.el h
    clear h
    obtain ⟨x, r, rfl, h⟩ := h9
    obtain ⟨hn, h⟩ := q_bif h
    refine q_loc ?_ (hk _ _ _ _ h)
    exact fun A hl w => lv_lstore A.1 A.2.1 hdec hl.asc (Nat.le_of_ble_eq_true hn) rfl (fun ls' hl' => w ls' (q_has.set2 (v := .long x) hl'))
  | iinc n c =>
    cases q_beq hln
    obtain ⟨x, hx, h⟩ := q_li.el h
    obtain ⟨hn, h⟩ := q_bif h
    refine q_loc ?_ (hk _ _ _ _ h)
    intro l p e R s m args below meth cc H locs cells slots Q' ls A hl w
    obtain ⟨j, hj⟩ := List.getElem?_of_mem (q_asc_mem (r := E.1) hx)
    exact lv_iinc A.1 A.2.1 hdec hl.asc hj rfl (Nat.le_of_ble_eq_true hn) rfl (fun ls' hl' => w ls' (q_has.set1 (v := .int (x + Int32.ofInt c)) hl'))
  | iadd =>
    cases q_beq hln
    have h9 := q_2i.el h
    clear h
    obtain ⟨x, y, r, rfl, h⟩ := h9
    refine q_step ?_ (hk _ _ _ _ h)
    exact fun A _ w => lv_iadd A.1 A.2.1 hdec w
  | isub =>
    cases q_beq hln
    have h9 := q_2i.el h
    clear h
    obtain ⟨x, y, r, rfl, h⟩ := h9
    refine q_step ?_ (hk _ _ _ _ h)
    exact fun A _ w => lv_isub A.1 A.2.1 hdec w
  | imul =>
    cases q_beq hln
    have h9 := q_2i.el h
    clear h
    obtain ⟨x, y, r, rfl, h⟩ := h9
    refine q_step ?_ (hk _ _ _ _ h)
    exact fun A _ w => lv_imul A.1 A.2.1 hdec w
  | iand =>
    cases q_beq hln
    have h9 := q_2i.el h
    clear h
    obtain ⟨x, y, r, rfl, h⟩ := h9
    refine q_step ?_ (hk _ _ _ _ h)
    exact fun A _ w => lv_iand A.1 A.2.1 hdec w
  | ior =>
    cases q_beq hln
    have h9 := q_2i.el h
    clear h
    obtain ⟨x, y, r, rfl, h⟩ := h9
    refine q_step ?_ (hk _ _ _ _ h)
    exact fun A _ w => lv_ior A.1 A.2.1 hdec w
  | ixor =>
    cases q_beq hln
    have h9 := q_2i.el h
    clear h
    obtain ⟨x, y, r, rfl, h⟩ := h9
    refine q_step ?_ (hk _ _ _ _ h)
    exact fun A _ w => lv_ixor A.1 A.2.1 hdec w
  | ishl =>
    cases q_beq hln
    have h9 := q_2i.el h
    clear h
    obtain ⟨x, y, r, rfl, h⟩ := h9
    refine q_step ?_ (hk _ _ _ _ h)
    exact fun A _ w => lv_ishl A.1 A.2.1 hdec w
  | ishr =>
    cases q_beq hln
    have h9 := q_2i.el h
    clear h
    obtain ⟨x, y, r, rfl, h⟩ := h9
    refine q_step ?_ (hk _ _ _ _ h)
    exact fun A _ w => lv_ishr A.1 A.2.1 hdec w
  | iushr =>
    cases q_beq hln
    have h9 := q_2i.el h
    clear h
    obtain ⟨x, y, r, rfl, h⟩ := h9
    refine q_step ?_ (hk _ _ _ _ h)
    exact fun A _ w => lv_iushr A.1 A.2.1 hdec rfl w
  | ladd =>
    cases q_beq hln
    have h9 := q_2l.el h
    clear h
    obtain ⟨x, y, r, rfl, h⟩ := h9
    refine q_step ?_ (hk _ _ _ _ h)
    exact fun A _ w => lv_ladd A.1 A.2.1 hdec w
  | lsub =>
    cases q_beq hln
    have h9 := q_2l.el h
    clear h
    obtain ⟨x, y, r, rfl, h⟩ := h9
    refine q_step ?_ (hk _ _ _ _ h)
    exact fun A _ w => lv_lsub A.1 A.2.1 hdec w
  | lmul =>
    cases q_beq hln
    have h9 := q_2l.el h
    clear h
    obtain ⟨x, y, r, rfl, h⟩ := h9
    refine q_step ?_ (hk _ _ _ _ h)
    exact fun A _ w => lv_lmul A.1 A.2.1 hdec w
  | land =>
    cases q_beq hln
    have h9 := q_2l.el h
    clear h
    obtain ⟨x, y, r, rfl, h⟩ := h9
    refine q_step ?_ (hk _ _ _ _ h)
    exact fun A _ w => lv_land A.1 A.2.1 hdec w
  | lor =>
    cases q_beq hln
    have h9 := q_2l.el h
    clear h
    obtain ⟨x, y, r, rfl, h⟩ := h9
    refine q_step ?_ (hk _ _ _ _ h)
    exact fun A _ w => lv_lor A.1 A.2.1 hdec w
  | idiv =>
    cases q_beq hln
    have h9 := q_2i.el h
    clear h
    obtain ⟨x, y, r, rfl, hy, h⟩ := h9
    refine q_step ?_ (hk _ _ _ _ h)
    exact fun A _ w => lv_idiv A.1 A.2.1 hdec hy w
  | irem =>
    cases q_beq hln
    have h9 := q_2i.el h
    clear h
    obtain ⟨x, y, r, rfl, hy, h⟩ := h9
    refine q_step ?_ (hk _ _ _ _ h)
    exact fun A _ w => lv_irem A.1 A.2.1 hdec hy w
  | ldiv =>
    cases q_beq hln
    have h9 := q_2l.el h
    clear h
    obtain ⟨x, y, r, rfl, hy, h⟩ := h9
    refine q_step ?_ (hk _ _ _ _ h)
    exact fun A _ w => lv_ldiv A.1 A.2.1 hdec hy w
  | lrem =>
    cases q_beq hln
    have h9 := q_2l.el h
    clear h
    obtain ⟨x, y, r, rfl, hy, h⟩ := h9
    refine q_step ?_ (hk _ _ _ _ h)
    exact fun A _ w => lv_lrem A.1 A.2.1 hdec hy w
  | lshl =>
    cases q_beq hln
    have h9 := q_il.el h
    clear h
    obtain ⟨x, y, r, rfl, h⟩ := h9
    refine q_step ?_ (hk _ _ _ _ h)
    exact fun A _ w => lv_lshl A.1 A.2.1 hdec rfl w
  | lshr =>
    cases q_beq hln
    have h9 := q_il.el h
    clear h
    obtain ⟨x, y, r, rfl, h⟩ := h9
    refine q_step ?_ (hk _ _ _ _ h)
    exact fun A _ w => lv_lshr A.1 A.2.1 hdec rfl w
  | lcmp =>
    cases q_beq hln
    have h9 := q_2l.el h
    clear h
    obtain ⟨x, y, r, rfl, h⟩ := h9
    refine q_step ?_ (hk _ _ _ _ h)
    exact fun A _ w => W.lcmp A.1 A.2.1 hdec w
  | i2l =>
    cases q_beq hln
    have h9 := q_1i.el h
    clear h
    obtain ⟨x, r, rfl, h⟩ := h9
    refine q_step ?_ (hk _ _ _ _ h)
    exact fun A _ w => lv_i2l A.1 A.2.1 hdec rfl w
  | l2i =>
    cases q_beq hln
    have h9 := q_1l.el h
    clear h
    obtain ⟨x, r, rfl, h⟩ := h9
    refine q_step ?_ (hk _ _ _ _ h)
    exact fun A _ w => lv_l2i A.1 A.2.1 hdec rfl w
  | i2c =>
    cases q_beq hln
    have h9 := q_1i.el h
    clear h
    obtain ⟨x, r, rfl, h⟩ := h9
    refine q_step ?_ (hk _ _ _ _ h)
    exact fun A _ w => lv_i2c A.1 A.2.1 hdec rfl w
  | dup =>
    cases q_beq hln
    have h9 := q_1v.el h
    clear h
    obtain ⟨v, r, rfl, h⟩ := h9
    obtain ⟨hc, h⟩ := q_bif h
    refine q_step ?_ (hk _ _ _ _ h)
    exact fun A _ w => lv_dup A.1 A.2.1 hdec (by rw [q_vm_cat]; exact q_beq hc) w
  | pop =>
    cases q_beq hln
    have h9 := q_1v.el h
    clear h
    obtain ⟨v, r, rfl, h⟩ := h9
    obtain ⟨hc, h⟩ := q_bif h
    refine q_step ?_ (hk _ _ _ _ h)
    exact fun A _ w => lv_pop A.1 A.2.1 hdec (by rw [q_vm_cat]; exact q_beq hc) w
  | dup2 =>
    cases q_beq hln
    have h9 := q_2v.el h
    clear h
    obtain ⟨v, v2, r, rfl, h⟩ := h9
    obtain ⟨hc, h⟩ := q_bif h
    rw [Bool.and_eq_true] at hc
    refine q_step ?_ (hk _ _ _ _ h)
    exact fun A _ w => lv_dup2_11 A.1 A.2.1 hdec (by rw [q_vm_cat]; exact q_beq hc.1) (by rw [q_vm_cat]; exact q_beq hc.2) w
  | goto off =>
    cases q_beq hln
    unfold q_stp at h
    dsimp only at h
    split at h
    · refine q_step ?_ (hk _ _ _ _ h)
      exact fun A _ w => lv_goto A.1 A.2.1 hdec (of_decide_eq_true hs) w
    · exact h.elim
  | ifCond c off =>
    cases q_beq hln
    unfold q_stp at h
    dsimp only at h
    split at h
    · have h9 := q_1i.el h
      clear h
      obtain ⟨x, r, rfl, h⟩ := h9
      have ht := of_decide_eq_true hs
      cases c with
      | eq => exact q_br (P := x = 0) (fun A kt kf => lv_if_eq A.1 A.2.1 hdec ht kt kf) (fun q => hk _ _ _ _ (h.1 q)) (fun q => hk _ _ _ _ (h.2 q))
      | ne => exact q_br (P := ¬ x = 0) (fun A kt kf => lv_if_ne A.1 A.2.1 hdec ht kt (fun q => kf (fun z => z q))) (fun q => hk _ _ _ _ (h.1 q)) (fun q => hk _ _ _ _ (h.2 (Classical.not_not.mp q)))
      | lt => exact q_br (P := x < 0) (fun A kt kf => lv_if_lt A.1 A.2.1 hdec ht kt kf) (fun q => hk _ _ _ _ (h.1 q)) (fun q => hk _ _ _ _ (h.2 q))
      | ge => exact q_br (P := 0 ≤ x) (fun A kt kf => lv_if_ge A.1 A.2.1 hdec ht kt kf) (fun q => hk _ _ _ _ (h.1 q)) (fun q => hk _ _ _ _ (h.2 q))
      | gt => exact q_br (P := 0 < x) (fun A kt kf => lv_if_gt A.1 A.2.1 hdec ht kt kf) (fun q => hk _ _ _ _ (h.1 q)) (fun q => hk _ _ _ _ (h.2 q))
      | le => exact q_br (P := x ≤ 0) (fun A kt kf => lv_if_le A.1 A.2.1 hdec ht kt kf) (fun q => hk _ _ _ _ (h.1 q)) (fun q => hk _ _ _ _ (h.2 q))
    · exact h.elim
  | if_icmp c off =>
    cases q_beq hln
    unfold q_stp at h
    dsimp only at h
    split at h
    · have h9 := q_2i.el h
      clear h
      obtain ⟨x, y, r, rfl, h⟩ := h9
      have ht := of_decide_eq_true hs
      cases c with
      | eq => exact q_br (P := x = y) (fun A kt kf => lv_icmp_eq A.1 A.2.1 hdec ht kt kf) (fun q => hk _ _ _ _ (h.1 q)) (fun q => hk _ _ _ _ (h.2 q))
      | ne => exact q_br (P := ¬ x = y) (fun A kt kf => lv_icmp_ne A.1 A.2.1 hdec ht kt (fun q => kf (fun z => z q))) (fun q => hk _ _ _ _ (h.1 q)) (fun q => hk _ _ _ _ (h.2 (Classical.not_not.mp q)))
      | lt => exact q_br (P := x < y) (fun A kt kf => lv_icmp_lt A.1 A.2.1 hdec ht kt kf) (fun q => hk _ _ _ _ (h.1 q)) (fun q => hk _ _ _ _ (h.2 q))
      | ge => exact q_br (P := y ≤ x) (fun A kt kf => lv_icmp_ge A.1 A.2.1 hdec ht kt kf) (fun q => hk _ _ _ _ (h.1 q)) (fun q => hk _ _ _ _ (h.2 q))
      | gt => exact q_br (P := y < x) (fun A kt kf => lv_icmp_gt A.1 A.2.1 hdec ht kt kf) (fun q => hk _ _ _ _ (h.1 q)) (fun q => hk _ _ _ _ (h.2 q))
      | le => exact q_br (P := x ≤ y) (fun A kt kf => lv_icmp_le A.1 A.2.1 hdec ht kt kf) (fun q => hk _ _ _ _ (h.1 q)) (fun q => hk _ _ _ _ (h.2 q))
    · exact h.elim
  | tableswitch dflt lo hi offs =>
    unfold q_stp at h
    dsimp only at h
    split at h
    next t ts =>
      have h9 := q_1i.el h
      clear h
      obtain ⟨x, r, rfl, h0, h⟩ := h9
      have hs : (decide ((pc : Int) + dflt = (t : Int)) && decide (offs.toList.map (fun o => (pc : Int) + o) = ts.map Int.ofNat) && decide (hi = lo + (ts.length : Int) - 1)) = true := hs
      rw [Bool.and_eq_true, Bool.and_eq_true] at hs
      have e1 := of_decide_eq_true hs.1.1
      have e2 := of_decide_eq_true hs.1.2
      have e3 := of_decide_eq_true hs.2
      by_cases hx : x.toInt < lo ∨ hi < x.toInt
      · refine q_step ?_ (hk _ _ _ _ (h0 hx))
        exact fun A _ w => lv_tableOut A.1 A.2.1 hdec hx e1 w
      · have g1 : ¬ x.toInt < lo := fun q => hx (Or.inl q)
        have g2 : ¬ hi < x.toInt := fun q => hx (Or.inr q)
        have hj : (x.toInt - lo).toNat < ts.length := by omega
        obtain ⟨t', ht'⟩ : ∃ t', ts[(x.toInt - lo).toNat]? = some t' := ⟨_, List.getElem?_eq_getElem hj⟩
        have e4 : (offs.toList.map (fun o => (pc : Int) + o))[(x.toInt - lo).toNat]? = some (Int.ofNat t') := by rw [e2, List.getElem?_map, ht']; rfl
        rw [List.getElem?_map] at e4
        cases ho : offs.toList[(x.toInt - lo).toNat]? with
        | none => rw [ho] at e4; cases e4
        | some off =>
          rw [ho] at e4
          have e5 : (pc : Int) + off = (t' : Int) := Option.some.inj e4
          refine q_step ?_ (hk _ _ _ _ (q_swt_at ts lo _ t' h ht' (by omega)))
          exact fun A _ w => lv_tableIn A.1 A.2.1 hdec g1 g2 (by rw [← Array.getElem?_toList]; exact ho) e5 w
    next => exact h.elim
  | lookupswitch dflt ps =>
    unfold q_stp at h
    dsimp only at h
    split at h
    next t ts =>
      have h9 := q_1i.el h
      clear h
      obtain ⟨x, r, rfl, h⟩ := h9
      have hs : (decide ((pc : Int) + dflt = (t : Int)) && decide (ps.toList.map (fun o => (pc : Int) + o.2) = ts.map Int.ofNat) && (ps.toList.zip (ps.toList.drop 1)).all (fun (a, next) => a.1 < next.1)) = true := hs
      rw [Bool.and_eq_true, Bool.and_eq_true] at hs
      obtain ⟨off, t', a1, a2, a3⟩ := q_swl_at (of_decide_eq_true hs.1.1) ps.toList ts (of_decide_eq_true hs.1.2) h
      refine q_step ?_ (hk _ _ _ _ a3)
      exact fun A _ w => lv_lookup A.1 A.2.1 hdec hs.2 a1 a2 w
    next => exact h.elim
  | getfield idx =>
    cases q_beq hln
    unfold q_stp at h
    dsimp only at h
    split at h
    · have h9 := q_1r.el h
      clear h
      obtain ⟨r, rest, rfl, h⟩ := h9
      obtain ⟨c, n, refs, hc, h⟩ := q_ce.el h
      have h9 := q_bif h
      clear h
      obtain ⟨hb, h⟩ := h9
      rw [Bool.and_eq_true] at hb
      cases q_beq hb.1
      obtain ⟨C, T, N, hv, hkN, hl, hT, -⟩ := q_fok.el hs
      exact q_get hc hv hkN (Nat.le_of_ble_eq_true hb.2) hl hT hdec (hk _ _ _ _ h)
    · exact h.elim
  | putfield idx =>
    cases q_beq hln
    unfold q_stp at h
    dsimp only at h
    split at h
    · obtain ⟨C, T, N, hv, hkN, hl, hT, hp⟩ := q_fok.el hs
      obtain ⟨hf, hty⟩ := hp rfl
      split at h
      next hfk =>
        rw [hfk] at hty
        have h9 := q_ir.el h
        clear h
        obtain ⟨r, x, rest, rfl, h⟩ := h9
        obtain ⟨c, n, refs, hc, h⟩ := q_ce.el h
        have h9 := q_bif h
        clear h
        obtain ⟨hb, h⟩ := h9
        rw [Bool.and_eq_true] at hb
        cases q_beq hb.1
        exact q_puti hc hv hkN (Nat.le_of_ble_eq_true hb.2) hl hT hf hty rfl rfl (Or.inl hfk) hdec (hk _ _ _ _ h)
      next hfk =>
        rw [hfk] at hty
        have h9 := q_lr.el h
        clear h
        obtain ⟨r, x, rest, rfl, h⟩ := h9
        obtain ⟨c, n, refs, hc, h⟩ := q_ce.el h
        have h9 := q_bif h
        clear h
        obtain ⟨hb, h⟩ := h9
        rw [Bool.and_eq_true] at hb
        cases q_beq hb.1
        exact q_putl hc hv hkN (Nat.le_of_ble_eq_true hb.2) hl hT hf hty hfk hdec (hk _ _ _ _ h)
      next hfk =>
        rw [hfk] at hty
        have h9 := q_ir.el h
        clear h
        obtain ⟨r, x, rest, rfl, hx, h⟩ := h9
        obtain ⟨c, n, refs, hc, h⟩ := q_ce.el h
        have h9 := q_bif h
        clear h
        obtain ⟨hb, h⟩ := h9
        rw [Bool.and_eq_true] at hb
        cases q_beq hb.1
        refine q_puti hc hv hkN (Nat.le_of_ble_eq_true hb.2) hl hT hf hty ?_ ?_ (Or.inr hfk) hdec (hk _ _ _ _ h)
        · rcases hx with rfl | rfl <;> rfl
        · rcases hx with rfl | rfl <;> rfl
      next => exact h.elim
    · exact h.elim
  | iaload =>
    cases q_beq hln
    have h9 := q_ir.el h
    clear h
    obtain ⟨r, j, rest, rfl, h⟩ := h9
    split at h
    · exact q_sald h.1 hdec (hk _ _ _ _ h.2)
    · obtain ⟨c, n, refs, hc, hin, h⟩ := q_ce.el h
      exact q_iald hc hin hdec (hk _ _ _ _ h)
  | laload =>
    cases q_beq hln
    have h9 := q_ir.el h
    clear h
    obtain ⟨r, j, rest, rfl, h⟩ := h9
    obtain ⟨c, n, refs, hc, hin, h⟩ := q_ce.el h
    exact q_lald hc hin hdec (hk _ _ _ _ h)
  | baload =>
    cases q_beq hln
    have h9 := q_ir.el h
    clear h
    obtain ⟨r, j, rest, rfl, h⟩ := h9
    obtain ⟨c, n, refs, hc, hin, h⟩ := q_ce.el h
    exact q_zald hc hin hdec (hk _ _ _ _ h)
  | aaload =>
    cases q_beq hln
    have h9 := q_ir.el h
    clear h
    obtain ⟨r, j, rest, rfl, h⟩ := h9
    obtain ⟨c, n, refs, hc, hin, h⟩ := q_ce.el h
    exact q_aald hc hin hdec (hk _ _ _ _ h)
  | iastore =>
    cases q_beq hln
    have h9 := q_iir.el h
    clear h
    obtain ⟨r, j, x, rest, rfl, h⟩ := h9
    obtain ⟨c, n, refs, hc, hin, h⟩ := q_ce.el h
    exact q_iast hc hin hdec (hk _ _ _ _ h)
  | lastore =>
    cases q_beq hln
    have h9 := q_lir.el h
    clear h
    obtain ⟨r, j, x, rest, rfl, h⟩ := h9
    obtain ⟨c, n, refs, hc, hin, h⟩ := q_ce.el h
    exact q_last hc hin hdec (hk _ _ _ _ h)
  | bastore =>
    cases q_beq hln
    have h9 := q_iir.el h
    clear h
    obtain ⟨r, j, x, rest, rfl, h⟩ := h9
    obtain ⟨c, n, refs, hc, hin, hx, h⟩ := q_ce.el h
    refine q_zast hc hin ?_ hdec (hk _ _ _ _ h)
    rcases hx with rfl | rfl <;> rfl
  | arraylength =>
    cases q_beq hln
    have h9 := q_1r.el h
    clear h
    obtain ⟨r, rest, rfl, h⟩ := h9
    split at h
    · exact q_slen hdec (hk _ _ _ _ h)
    · split at h
      next g hg =>
        obtain ⟨hb, h⟩ := q_bif h
        obtain ⟨g1, g2, g3, g4⟩ := g
        rw [Bool.and_eq_true] at hb
        have b1 := Nat.le_of_ble_eq_true hb.1
        have b2 := Nat.le_of_ble_eq_true hb.2
        dsimp only at b1 b2
        exact q_alen hg (by omega) hdec (hk _ _ _ _ h)
      next => exact h.elim
  | ireturn =>
    cases q_beq hln
    unfold q_stp at h
    dsimp only at h
    split at h
    next x hr => exact q_iret hdec hr rfl (hQ _ _ h)
    next x hr => exact q_iret hdec hr (by rcases h.1 with rfl | rfl <;> rfl) (hQ _ _ h.2)
    next => exact h.elim
  | lreturn =>
    cases q_beq hln
    unfold q_stp at h
    dsimp only at h
    split at h
    next x hr => exact q_lret hdec hr (hQ _ _ h)
    next => exact h.elim
  | return_ =>
    cases q_beq hln
    unfold q_stp at h
    dsimp only at h
    split at h
    next hr => exact q_vret hdec hr (hQ _ _ h)
    next => exact h.elim
  | invokevirtual idx =>
    cases q_beq hln
    unfold q_stp at h
    dsimp only at h
    split at h
    next d' mj n ci j1 j2 j3 j4 =>
      split at h
      next r rest hdrop =>
        have h9 := q_ce.el h
        clear h
        obtain ⟨c, nn, refs, hc, h⟩ := h9
        have h9 := q_bif h
        clear h
        obtain ⟨hb, h⟩ := h9
        rw [Bool.and_eq_true, Bool.and_eq_true] at hb
        obtain ⟨hb0, hb⟩ := hb
        cases q_beq hb.1
        have hlen : ((st.take n).reverse).length = n := by
          have e := congrArg List.length hdrop
          rw [List.length_drop, List.length_cons] at e
          rw [List.length_reverse, List.length_take]
          omega
        have hs : (match vwCl[ci]? with
          | some (C, _, _) => decide (mj < 438) && decide ((mt mj).2.1.cls = C) && q_in j1 (.methodLink (mt mi).1 idx (mt mj).2.1) && q_in j2 (.instanceMethod (mt mj).2.1) && q_in j3 (.selects C (mt mj).2.1 (mt mj).2.1) && q_in j4 (.initialized C) && q_yok (mt mj) n
          | none => false) = true := hs
        split at hs
        next C T N hv =>
          simp only [Bool.and_eq_true, decide_eq_true_eq] at hs
          obtain ⟨⟨⟨⟨⟨⟨a1, a2⟩, a3⟩, a4⟩, a5⟩, a6⟩, a7⟩ := hs
          obtain ⟨-, -, hcd, hL, -⟩ := hall.1 mj (Nat.le_of_ble_eq_true hb0)
          have hy := q_yok.el a7
          rw [← hlen] at hy
          have G := q_inv (mt := mt) (mi := mi) (rc := rc) (rs := rs) (Y := Y) (lv := lv) (pc := pc) h hc hv a2 (q_in_mem a3) (q_in_mem a4) (q_in_mem a5) (q_in_mem a6) hcd hy hL (q_cat.el hb.2) hdec (fun v M1 q => hk _ _ _ _ q)
          rw [List.reverse_reverse, ← hdrop, List.take_append_drop] at G
          exact G
        next => cases hs
      next => exact h.elim
    next d' mj n ci kk j2 j3 j4 =>
      split at h
      next r rest hdrop =>
        have h9 := q_ce.el h
        clear h
        obtain ⟨c, nn, refs, hc, h⟩ := h9
        have h9 := q_bif h
        clear h
        obtain ⟨hb, h⟩ := h9
        rw [Bool.and_eq_true, Bool.and_eq_true] at hb
        obtain ⟨hb0, hb⟩ := hb
        cases q_beq hb.1
        have hlen : ((st.take n).reverse).length = n := by
          have e := congrArg List.length hdrop
          rw [List.length_drop, List.length_cons] at e
          rw [List.length_reverse, List.length_take]
          omega
        have hs : (match vwCl[ci]?, q_nl[kk]? with
          | some (C, _, _), some (o, ix, y, _) => decide (mj < 438) && decide (o = (mt mi).1) && decide (ix = idx) && decide (y = (mt mj).2.1) && decide ((mt mj).2.1.cls = C) && q_in j2 (.instanceMethod (mt mj).2.1) && q_in j3 (.selects C (mt mj).2.1 (mt mj).2.1) && q_in j4 (.initialized C) && q_yok (mt mj) n
          | _, _ => false) = true := hs
        split at hs
        next C T N o ix y ho hv hnl =>
          simp only [Bool.and_eq_true, decide_eq_true_eq] at hs
          obtain ⟨⟨⟨⟨⟨⟨⟨⟨a1, b1⟩, b2⟩, b3⟩, a2⟩, a4⟩, a5⟩, a6⟩, a7⟩ := hs
          subst b1
          subst b2
          subst b3
          obtain ⟨-, -, hcd, hL, -⟩ := hall.1 mj (Nat.le_of_ble_eq_true hb0)
          have hy := q_yok.el a7
          rw [← hlen] at hy
          have G := q_invN (mt := mt) (mi := mi) (rc := rc) (rs := rs) (Y := Y) (lv := lv) (pc := pc) h hc hv a2 (List.mem_of_getElem? hnl) (q_in_mem a4) (q_in_mem a5) (q_in_mem a6) hcd hy hL (q_cat.el hb.2) hdec (fun v M1 q => hk _ _ _ _ q)
          rw [List.reverse_reverse, ← hdrop, List.take_append_drop] at G
          exact G
        next => cases hs
      next => exact h.elim
    next => exact h.elim
  | invokestatic idx =>
    cases q_beq hln
    unfold q_stp at h
    dsimp only at h
    split at h
    next d' n j1 j2 j4 =>
      have h9 := q_2i.el h
      clear h
      obtain ⟨x, y, r, rfl, h⟩ := h9
      have h9 := q_bif h
      clear h
      obtain ⟨hb, h⟩ := h9
      have hs : (decide (436 < 438) && q_in j1 (.methodLink (mt mi).1 idx (mt 436).2.1) && q_in j2 (.static (mt 436).2.1) && q_in j4 (.initialized (mt 436).2.1.cls) && q_yok (mt 436) n) = true := hs
      simp only [Bool.and_eq_true] at hs
      obtain ⟨⟨⟨⟨a1, a3⟩, a4⟩, a6⟩, a7⟩ := hs
      rw [hall.2.1.1] at a3 a4 a6
      have hcat : ((r.map (q_vm E.1)).map fun v => v.category).sum ≤ 8 := by
        rw [List.map_map, show ((fun v => Value.category v) ∘ q_vm E.1) = (fun v => v.category) from funext (fun v => q_vm_cat E.1 v)]
        exact q_cat.el hb
      intro l p e R s m args below meth c H locs cells slots ls A hl hR hcc hss
      exact va_mmin A.1 A.2.1 (by rw [hl.1]; exact A.2.2.2.1) A.2.2.2.2.1 (q_word A (q_in_mem a3)) (q_word A (q_in_mem a4)) (q_word A (q_in_mem a6)) (q_word A hall.2.1.2) (by have := A.2.2.2.2.2.2.2.1; omega) (by have := A.2.2.2.2.2.2.2.2; omega) (by omega) (by omega) hdec (hk _ _ _ _ h l p e R s m args below meth c H locs cells slots ls A hl hR hcc hss)
    next d' n j1 j2 j4 =>
      have h9 := q_2i.el h
      clear h
      obtain ⟨x, y, r, rfl, h⟩ := h9
      have h9 := q_bif h
      clear h
      obtain ⟨hb, h⟩ := h9
      have hs : (decide (437 < 438) && q_in j1 (.methodLink (mt mi).1 idx (mt 437).2.1) && q_in j2 (.static (mt 437).2.1) && q_in j4 (.initialized (mt 437).2.1.cls) && q_yok (mt 437) n) = true := hs
      simp only [Bool.and_eq_true] at hs
      obtain ⟨⟨⟨⟨a1, a3⟩, a4⟩, a6⟩, a7⟩ := hs
      rw [hall.2.2.1] at a3 a4 a6
      have hcat : ((r.map (q_vm E.1)).map fun v => v.category).sum ≤ 8 := by
        rw [List.map_map, show ((fun v => Value.category v) ∘ q_vm E.1) = (fun v => v.category) from funext (fun v => q_vm_cat E.1 v)]
        exact q_cat.el hb
      intro l p e R s m args below meth c H locs cells slots ls A hl hR hcc hss
      exact va_mmax A.1 A.2.1 (by rw [hl.1]; exact A.2.2.2.1) A.2.2.2.2.1 (q_word A (q_in_mem a3)) (q_word A (q_in_mem a4)) (q_word A (q_in_mem a6)) (q_word A hall.2.2.2) (by have := A.2.2.2.2.2.2.2.1; omega) (by have := A.2.2.2.2.2.2.2.2; omega) (by omega) (by omega) hdec (hk _ _ _ _ h l p e R s m args below meth c H locs cells slots ls A hl hR hcc hss)
    next d' mj n j1 j2 j4 hne1 hne2 =>
      have h9 := q_bif h
      clear h
      obtain ⟨hb, h⟩ := h9
      rw [Bool.and_eq_true, Bool.and_eq_true] at hb
      obtain ⟨hb0, hb⟩ := hb
      have hlen : ((st.take n).reverse).length = n := by
        have e := Nat.le_of_ble_eq_true hb.1
        rw [List.length_reverse, List.length_take]
        omega
      have hs : (decide (mj < 438) && q_in j1 (.methodLink (mt mi).1 idx (mt mj).2.1) && q_in j2 (.static (mt mj).2.1) && q_in j4 (.initialized (mt mj).2.1.cls) && q_yok (mt mj) n) = true := hs
      simp only [Bool.and_eq_true, decide_eq_true_eq] at hs
      obtain ⟨⟨⟨⟨a1, a3⟩, a4⟩, a6⟩, a7⟩ := hs
      obtain ⟨-, -, hcd, hL, -⟩ := hall.1 mj (Nat.le_of_ble_eq_true hb0)
      have hy := q_yok.el a7
      rw [← hlen] at hy
      have G := q_ins (mt := mt) (mi := mi) (rc := rc) (rs := rs) (Y := Y) (lv := lv) (pc := pc) (rest := st.drop n) h (q_in_mem a3) (q_in_mem a4) (q_in_mem a6) hcd hy hL (q_cat.el hb.2) hdec (fun v M1 q => hk _ _ _ _ q)
      rw [List.reverse_reverse, List.take_append_drop] at G
      exact G
    next d' mj n kk j2 j4 =>
      have h9 := q_bif h
      clear h
      obtain ⟨hb, h⟩ := h9
      rw [Bool.and_eq_true, Bool.and_eq_true] at hb
      obtain ⟨hb0, hb⟩ := hb
      have hlen : ((st.take n).reverse).length = n := by
        have e := Nat.le_of_ble_eq_true hb.1
        rw [List.length_reverse, List.length_take]
        omega
      have hs : (match q_nl[kk]? with
        | some (o, ix, y, _) => decide (mj < 438) && decide (o = (mt mi).1) && decide (ix = idx) && decide (y = (mt mj).2.1) && q_in j2 (.static (mt mj).2.1) && q_in j4 (.initialized (mt mj).2.1.cls) && q_yok (mt mj) n
        | none => false) = true := hs
      split at hs
      next o ix y ho hnl =>
        simp only [Bool.and_eq_true, decide_eq_true_eq] at hs
        obtain ⟨⟨⟨⟨⟨⟨a1, b1⟩, b2⟩, b3⟩, a4⟩, a6⟩, a7⟩ := hs
        subst b1
        subst b2
        subst b3
        obtain ⟨-, -, hcd, hL, -⟩ := hall.1 mj (Nat.le_of_ble_eq_true hb0)
        have hy := q_yok.el a7
        rw [← hlen] at hy
        have G := q_insN (mt := mt) (mi := mi) (rc := rc) (rs := rs) (Y := Y) (lv := lv) (pc := pc) (rest := st.drop n) h (List.mem_of_getElem? hnl) (q_in_mem a4) (q_in_mem a6) hcd hy hL (q_cat.el hb.2) hdec (fun v M1 q => hk _ _ _ _ q)
        rw [List.reverse_reverse, List.take_append_drop] at G
        exact G
      next => cases hs
    next d' j1 j2 j3 j4 =>
      have h9 := q_cy.el h
      clear h
      obtain ⟨a, sp, b, dp, n, rest, rfl, h⟩ := h9
      have h9 := q_bif h
      clear h
      obtain ⟨hb, h⟩ := h9
      have hs : (q_in j1 (.methodLink (mt mi).1 idx arraycopyName) && q_in j2 (.native arraycopyName) && q_in j3 (.static arraycopyName) && q_in j4 (.initialized "java/lang/System")) = true := hs
      simp only [Bool.and_eq_true] at hs
      obtain ⟨⟨⟨a1, a2⟩, a3⟩, a4⟩ := hs
      split at h
      next ca na ra cb nb rb ha hbb => exact q_copyi ha hbb h.1 (q_in_mem a1) (q_in_mem a2) (q_in_mem a3) (q_in_mem a4) (q_cat.el hb) hdec (hk _ _ _ _ h.2)
      next ca na ra cb nb rb ha hbb => exact q_copyl ha hbb h.1 (q_in_mem a1) (q_in_mem a2) (q_in_mem a3) (q_in_mem a4) (q_cat.el hb) hdec (hk _ _ _ _ h.2)
      next => exact h.elim
    next => exact h.elim
  | _ => exact h.elim
end QS
/-! whole stretches of code -/
def q_seek (t : Nat) : List q_I → List q_I
  | [] => []
  | r :: rs => bif Nat.beq r.1 t then r :: rs else q_seek t rs
def q_has1 (c : Nat) : List Nat → Bool
  | [] => false
  | a :: l => Nat.beq a c || q_has1 c l
theorem q_seek_mem {t : Nat} : ∀ {rs : List q_I} {r : q_I}, r ∈ q_seek t rs → r ∈ rs
  | [], _, h => h
  | a :: rs, r, h => by
    unfold q_seek at h
    cases hb : Nat.beq a.1 t with
    | true => rw [hb] at h; exact h
    | false => rw [hb] at h; exact List.mem_cons_of_mem _ (q_seek_mem h)
theorem q_seek_head {t : Nat} : ∀ {rs : List q_I} {r : q_I} {rs' : List q_I}, q_seek t rs = r :: rs' → r.1 = t
  | [], _, _, h => by cases h
  | a :: rs, r, rs', h => by
    unfold q_seek at h
    cases hb : Nat.beq a.1 t with
    | true => rw [hb] at h; cases h; exact q_beq hb
    | false => rw [hb] at h; exact q_seek_head h
/-- what n instructions from here on ask; at a jump back, and at the places 'cuts', the goal there -/
def q_wp (mt : Nat → q_Me) (Z : q_Z) (E : q_E) (mi d rc rs : Nat) (Y : Array Value → State → Outcome → State → Prop) (Q : Option Value → q_M → Prop) (cuts : List Nat) : Nat → List q_I → q_L → List Value → q_M → Prop
  | 0, r :: _, lv, st, M => q_G mt Z E mi d rc rs Y r.1 lv st M
  | n + 1, r :: rows, lv, st, M => q_stp mt Z E mi d Q (fun pc' lv' st' M' => bif Nat.ble pc' r.1 || q_has1 pc' cuts then q_G mt Z E mi d rc rs Y pc' lv' st' M' else q_wp mt Z E mi d rc rs Y Q cuts n (q_seek pc' rows) lv' st' M') r.1 r.2.1 r.2.2.2 lv st M
  | _, [], _, _, _ => False
theorem q_wp_ok {mt : Nat → q_Me} {Z : q_Z} {E : q_E} {mi d rc rs : Nat} {Y : Array Value → State → Outcome → State → Prop} {Q : Option Value → q_M → Prop} {cuts : List Nat} (hall : q_al mt) (hQ : ∀ v M', Q v M' → q_Y Z E Y v M') (hrw : (mt mi).2.2.2.2.2.all (q_rck mt 438 (mt mi)) = true) : ∀ (n : Nat) (rows : List q_I) (lv : q_L) (st : List Value) (M : q_M), (∀ r ∈ rows, r ∈ (mt mi).2.2.2.2.2) → q_wp mt Z E mi d rc rs Y Q cuts n rows lv st M → ∃ r rows', rows = r :: rows' ∧ q_G mt Z E mi d rc rs Y r.1 lv st M
  | 0, [], _, _, _, _, h => by unfold q_wp at h; exact h.elim
  | n + 1, [], _, _, _, _, h => by unfold q_wp at h; exact h.elim
  | 0, r :: rows, lv, st, M, _, h => ⟨r, rows, rfl, h⟩
  | n + 1, r :: rows, lv, st, M, hm, h => by
    refine ⟨r, rows, rfl, ?_⟩
    have hr := List.all_eq_true.mp hrw r (hm r List.mem_cons_self)
    unfold q_rck at hr
    rw [Bool.and_eq_true, Bool.and_eq_true] at hr
    refine q_stp_ok hall (of_decide_eq_true hr.1.1) hr.1.2 hr.2 hQ ?_ h
    intro pc' lv' st' M' q
    cases hb : (Nat.ble pc' r.1 || q_has1 pc' cuts) with
    | true => rw [hb] at q; exact q
    | false =>
      rw [hb] at q
      obtain ⟨r', rows', e, G⟩ := q_wp_ok hall hQ hrw n (q_seek pc' rows) lv' st' M' (fun x hx => hm x (List.mem_cons_of_mem _ (q_seek_mem hx))) q
      rw [← q_seek_head e]
      exact G
theorem q_goY {mt : Nat → q_Me} {Z : q_Z} {E : q_E} {mi d rc rs : Nat} {Y : Array Value → State → Outcome → State → Prop} {Q : Option Value → q_M → Prop} {pc : Nat} {lv : q_L} {st : List Value} {M : q_M} (hall : q_al mt) (hQ : ∀ v M', Q v M' → q_Y Z E Y v M') (hrw : (mt mi).2.2.2.2.2.all (q_rck mt 438 (mt mi)) = true) (n : Nat) (cuts : List Nat) (h : q_wp mt Z E mi d rc rs Y Q cuts n (q_seek pc (mt mi).2.2.2.2.2) lv st M) : q_G mt Z E mi d rc rs Y pc lv st M := by
  obtain ⟨r, rows', e, G⟩ := q_wp_ok hall hQ hrw n _ lv st M (fun x hx => q_seek_mem hx) h
  rw [← q_seek_head e]
  exact G
theorem q_go {mt : Nat → q_Me} {Z : q_Z} {E : q_E} {mi d rc rs : Nat} {Q : Option Value → q_M → Prop} {pc : Nat} {lv : q_L} {st : List Value} {M : q_M} (hall : q_al mt) (hmi : mi < 436) (n : Nat) (cuts : List Nat) (h : q_wp mt Z E mi d rc rs (q_Q Z E Q) Q cuts n (q_seek pc (mt mi).2.2.2.2.2) lv st M) : q_G mt Z E mi d rc rs (q_Q Z E Q) pc lv st M :=
  q_goY hall (fun _ _ q => q_Y_Q q) (hall.1 mi hmi).2.2.2.2 n cuts h
/-- a call, by the callee's code -/
theorem q_en {mt : Nat → q_Me} {Z : q_Z} {E : q_E} {mi d rc rs : Nat} {Q : Option Value → q_M → Prop} {as : List Value} {M : q_M} (hall : q_al mt) (hmi : mi < 436) (hlen : Nat.ble (q_sls as).length (mt mi).2.2.2.1 = true) (h : q_G mt Z E mi d rc rs (q_Q Z E Q) 0 (q_lv0 (mt mi).2.2.2.1 as) [] M) : q_C mt Z E mi d rc rs as M Q :=
  q_C.of (hall.1 mi hmi).1 (hall.1 mi hmi).2.1 (Nat.le_of_ble_eq_true hlen) h
theorem q_ok : q_al q_mt := ⟨q_ok1, ⟨rfl, q_in_mem (j := 1283) (w := Cond.code Lib.Math.min.name Lib.Math.min.code 2 (some .int)) (by decide +kernel)⟩, rfl, q_in_mem (j := 1286) (w := Cond.code Lib.Math.max.name Lib.Math.max.code 2 (some .int)) (by decide +kernel)⟩
