/-! THE StringBuilder: cell 270; what it holds stands in the pure memory: 270 0 how far it is made (0 not, 2 new, 1 made), 270 1 how many letters, 270 (2 + i) the letters (written by wip/whole/gen9.py) -/
abbrev jc_sbi : ByteArray := prog_21_method_1_code
abbrev jc_asb : ByteArray := prog_15_method_2_code
abbrev jc_sbl : ByteArray := prog_21_method_93_code
abbrev jc_asl : ByteArray := prog_15_method_6_code
abbrev jc_sbs : ByteArray := prog_21_method_89_code
abbrev jc_ass : ByteArray := prog_15_method_13_code
abbrev jc_ens : ByteArray := prog_15_method_9_code
theorem jd_asb_0 : decode jc_asb 0 = .ok (.aload_n 0, 1) := by decide +kernel
theorem jd_asb_1 : decode jc_asb 1 = .ok (.invokespecial 3, 3) := by decide +kernel
theorem jd_asb_4 : decode jc_asb 4 = .ok (.getstatic 18, 3) := by decide +kernel
theorem jd_asb_7 : decode jc_asb 7 = .ok (.ifCond .eq 18, 3) := by decide +kernel
theorem jd_asb_10 : decode jc_asb 10 = .ok (.aload_n 0, 1) := by decide +kernel
theorem jd_asb_11 : decode jc_asb 11 = .ok (.iload_n 1, 1) := by decide +kernel
theorem jd_asb_12 : decode jc_asb 12 = .ok (.newarray .byte, 2) := by decide +kernel
theorem jd_asb_14 : decode jc_asb 14 = .ok (.putfield 15, 3) := by decide +kernel
theorem jd_asb_17 : decode jc_asb 17 = .ok (.aload_n 0, 1) := by decide +kernel
theorem jd_asb_18 : decode jc_asb 18 = .ok (.iconst 0, 1) := by decide +kernel
theorem jd_asb_19 : decode jc_asb 19 = .ok (.putfield 22, 3) := by decide +kernel
theorem jd_asb_22 : decode jc_asb 22 = .ok (.goto 16, 3) := by decide +kernel
theorem jd_asb_25 : decode jc_asb 25 = .ok (.aload_n 0, 1) := by decide +kernel
theorem jd_asb_26 : decode jc_asb 26 = .ok (.iload_n 1, 1) := by decide +kernel
theorem jd_asb_27 : decode jc_asb 27 = .ok (.invokestatic 26, 3) := by decide +kernel
theorem jd_asb_30 : decode jc_asb 30 = .ok (.putfield 15, 3) := by decide +kernel
theorem jd_asb_33 : decode jc_asb 33 = .ok (.aload_n 0, 1) := by decide +kernel
theorem jd_asb_34 : decode jc_asb 34 = .ok (.iconst 1, 1) := by decide +kernel
theorem jd_asb_35 : decode jc_asb 35 = .ok (.putfield 22, 3) := by decide +kernel
theorem jd_asb_38 : decode jc_asb 38 = .ok (.return_, 1) := by decide +kernel
theorem jd_asl_0 : decode jc_asl 0 = .ok (.aload_n 0, 1) := by decide +kernel
theorem jd_asl_1 : decode jc_asl 1 = .ok (.getfield 79, 3) := by decide +kernel
theorem jd_asl_4 : decode jc_asl 4 = .ok (.ireturn, 1) := by decide +kernel
theorem jd_ens_0 : decode jc_ens 0 = .ok (.aload_n 0, 1) := by decide +kernel
theorem jd_ens_1 : decode jc_ens 1 = .ok (.getfield 15, 3) := by decide +kernel
theorem jd_ens_4 : decode jc_ens 4 = .ok (.arraylength, 1) := by decide +kernel
theorem jd_ens_5 : decode jc_ens 5 = .ok (.aload_n 0, 1) := by decide +kernel
theorem jd_ens_6 : decode jc_ens 6 = .ok (.getfield 22, 3) := by decide +kernel
theorem jd_ens_9 : decode jc_ens 9 = .ok (.ishr, 1) := by decide +kernel
theorem jd_ens_10 : decode jc_ens 10 = .ok (.istore_n 2, 1) := by decide +kernel
theorem jd_ens_11 : decode jc_ens 11 = .ok (.iload_n 1, 1) := by decide +kernel
theorem jd_ens_12 : decode jc_ens 12 = .ok (.iload_n 2, 1) := by decide +kernel
theorem jd_ens_13 : decode jc_ens 13 = .ok (.isub, 1) := by decide +kernel
theorem jd_ens_14 : decode jc_ens 14 = .ok (.ifCond .le 24, 3) := by decide +kernel
theorem jd_ens_17 : decode jc_ens 17 = .ok (.aload_n 0, 1) := by decide +kernel
theorem jd_ens_18 : decode jc_ens 18 = .ok (.aload_n 0, 1) := by decide +kernel
theorem jd_ens_19 : decode jc_ens 19 = .ok (.getfield 15, 3) := by decide +kernel
theorem jd_ens_22 : decode jc_ens 22 = .ok (.aload_n 0, 1) := by decide +kernel
theorem jd_ens_23 : decode jc_ens 23 = .ok (.iload_n 1, 1) := by decide +kernel
theorem jd_ens_24 : decode jc_ens 24 = .ok (.invokevirtual 104, 3) := by decide +kernel
theorem jd_ens_27 : decode jc_ens 27 = .ok (.aload_n 0, 1) := by decide +kernel
theorem jd_ens_28 : decode jc_ens 28 = .ok (.getfield 22, 3) := by decide +kernel
theorem jd_ens_31 : decode jc_ens 31 = .ok (.ishl, 1) := by decide +kernel
theorem jd_ens_32 : decode jc_ens 32 = .ok (.invokestatic 108, 3) := by decide +kernel
theorem jd_ens_35 : decode jc_ens 35 = .ok (.putfield 15, 3) := by decide +kernel
theorem jd_ens_38 : decode jc_ens 38 = .ok (.return_, 1) := by decide +kernel
theorem jd_ass_0 : decode jc_ass 0 = .ok (.iload_n 1, 1) := by decide +kernel
theorem jd_ass_1 : decode jc_ass 1 = .ok (.ifCond .ge 12, 3) := by decide +kernel
theorem jd_ass_4 : decode jc_ass 4 = .ok (.new 129, 3) := by decide +kernel
theorem jd_ass_7 : decode jc_ass 7 = .ok (.dup, 1) := by decide +kernel
theorem jd_ass_8 : decode jc_ass 8 = .ok (.iload_n 1, 1) := by decide +kernel
theorem jd_ass_9 : decode jc_ass 9 = .ok (.invokespecial 131, 3) := by decide +kernel
theorem jd_ass_12 : decode jc_ass 12 = .ok (.athrow, 1) := by decide +kernel
theorem jd_ass_13 : decode jc_ass 13 = .ok (.aload_n 0, 1) := by decide +kernel
theorem jd_ass_14 : decode jc_ass 14 = .ok (.iload_n 1, 1) := by decide +kernel
theorem jd_ass_15 : decode jc_ass 15 = .ok (.invokevirtual 100, 3) := by decide +kernel
theorem jd_ass_18 : decode jc_ass 18 = .ok (.aload_n 0, 1) := by decide +kernel
theorem jd_ass_19 : decode jc_ass 19 = .ok (.getfield 79, 3) := by decide +kernel
theorem jd_ass_22 : decode jc_ass 22 = .ok (.iload_n 1, 1) := by decide +kernel
theorem jd_ass_23 : decode jc_ass 23 = .ok (.if_icmp .ge 40, 3) := by decide +kernel
theorem jd_ass_26 : decode jc_ass 26 = .ok (.aload_n 0, 1) := by decide +kernel
theorem jd_ass_27 : decode jc_ass 27 = .ok (.invokevirtual 83, 3) := by decide +kernel
theorem jd_ass_30 : decode jc_ass 30 = .ok (.ifCond .eq 18, 3) := by decide +kernel
theorem jd_ass_33 : decode jc_ass 33 = .ok (.aload_n 0, 1) := by decide +kernel
theorem jd_ass_34 : decode jc_ass 34 = .ok (.getfield 15, 3) := by decide +kernel
theorem jd_ass_37 : decode jc_ass 37 = .ok (.aload_n 0, 1) := by decide +kernel
theorem jd_ass_38 : decode jc_ass 38 = .ok (.getfield 79, 3) := by decide +kernel
theorem jd_ass_41 : decode jc_ass 41 = .ok (.iload_n 1, 1) := by decide +kernel
theorem jd_ass_42 : decode jc_ass 42 = .ok (.invokestatic 133, 3) := by decide +kernel
theorem jd_ass_45 : decode jc_ass 45 = .ok (.goto 31, 3) := by decide +kernel
theorem jd_ass_48 : decode jc_ass 48 = .ok (.aload_n 0, 1) := by decide +kernel
theorem jd_ass_49 : decode jc_ass 49 = .ok (.getfield 15, 3) := by decide +kernel
theorem jd_ass_52 : decode jc_ass 52 = .ok (.aload_n 0, 1) := by decide +kernel
theorem jd_ass_53 : decode jc_ass 53 = .ok (.getfield 79, 3) := by decide +kernel
theorem jd_ass_56 : decode jc_ass 56 = .ok (.iload_n 1, 1) := by decide +kernel
theorem jd_ass_57 : decode jc_ass 57 = .ok (.invokestatic 137, 3) := by decide +kernel
theorem jd_ass_60 : decode jc_ass 60 = .ok (.goto 16, 3) := by decide +kernel
theorem jd_ass_63 : decode jc_ass 63 = .ok (.aload_n 0, 1) := by decide +kernel
theorem jd_ass_64 : decode jc_ass 64 = .ok (.getfield 79, 3) := by decide +kernel
theorem jd_ass_67 : decode jc_ass 67 = .ok (.iload_n 1, 1) := by decide +kernel
theorem jd_ass_68 : decode jc_ass 68 = .ok (.if_icmp .le 8, 3) := by decide +kernel
theorem jd_ass_71 : decode jc_ass 71 = .ok (.aload_n 0, 1) := by decide +kernel
theorem jd_ass_72 : decode jc_ass 72 = .ok (.iconst 1, 1) := by decide +kernel
theorem jd_ass_73 : decode jc_ass 73 = .ok (.putfield 73, 3) := by decide +kernel
theorem jd_ass_76 : decode jc_ass 76 = .ok (.aload_n 0, 1) := by decide +kernel
theorem jd_ass_77 : decode jc_ass 77 = .ok (.iload_n 1, 1) := by decide +kernel
theorem jd_ass_78 : decode jc_ass 78 = .ok (.putfield 79, 3) := by decide +kernel
theorem jd_ass_81 : decode jc_ass 81 = .ok (.return_, 1) := by decide +kernel
theorem jd_sbi_0 : decode jc_sbi 0 = .ok (.aload_n 0, 1) := by decide +kernel
theorem jd_sbi_1 : decode jc_sbi 1 = .ok (.bipush 16, 2) := by decide +kernel
theorem jd_sbi_3 : decode jc_sbi 3 = .ok (.invokespecial 1, 3) := by decide +kernel
theorem jd_sbi_6 : decode jc_sbi 6 = .ok (.return_, 1) := by decide +kernel
theorem jd_sbs_0 : decode jc_sbs 0 = .ok (.aload_n 0, 1) := by decide +kernel
theorem jd_sbs_1 : decode jc_sbs 1 = .ok (.iload_n 1, 1) := by decide +kernel
theorem jd_sbs_2 : decode jc_sbs 2 = .ok (.invokespecial 333, 3) := by decide +kernel
theorem jd_sbs_5 : decode jc_sbs 5 = .ok (.return_, 1) := by decide +kernel
theorem jd_sbl_0 : decode jc_sbl 0 = .ok (.aload_n 0, 1) := by decide +kernel
theorem jd_sbl_1 : decode jc_sbl 1 = .ok (.invokespecial 343, 3) := by decide +kernel
theorem jd_sbl_4 : decode jc_sbl 4 = .ok (.ireturn, 1) := by decide +kernel
def j_sbi : q_Me := (sbC, ⟨sbC, "<init>", "()V"⟩, jc_sbi, 1, none, [])
def j_asb : q_Me := (asC, ⟨asC, "<init>", "(I)V"⟩, jc_asb, 2, none, [])
def j_sbl : q_Me := (sbC, ⟨sbC, "length", "()I"⟩, jc_sbl, 1, some .int, [])
def j_asl : q_Me := (asC, ⟨asC, "length", "()I"⟩, jc_asl, 1, some .int, [])
def j_sbs : q_Me := (sbC, ⟨sbC, "setLength", "(I)V"⟩, jc_sbs, 2, none, [])
def j_ass : q_Me := (asC, ⟨asC, "setLength", "(I)V"⟩, jc_ass, 2, none, [])
def j_ens : q_Me := (asC, ⟨asC, "ensureCapacityInternal", "(I)V"⟩, jc_ens, 3, none, [])
theorem q_ka_byte : Cond.arrayClass .byte ∈ q_wT := q_in_mem (j := 344) (by decide +kernel)
def zb_0 : List Value := [.null, .int 0, .int 0, .int 0]
def zb_md (cB : ClassId) (M : q_M) (sv : List Value) (X : va_W) : Prop := ∃ (a cap n : Nat) (ml : Int32) (f : Nat → Int32), sv = [.ref a, .int 0, .int ml, .int (nI n)] ∧ X = [(a, .inl (cB, cap, .inl f))] ∧ M.1 270 1 = nI n ∧ n ≤ cap ∧ (cap = 16 ∨ cap = 34 ∨ cap = 70 ∨ cap = 142) ∧ (ml = 0 ∨ ml = 1) ∧ (∀ i, i < n → f i = M.1 270 (2 + i)) ∧ ∀ i, fits .byte (.int (f i)) = true
def zb_P (cB : ClassId) (M : q_M) (sv : List Value) (X : va_W) : Prop := (M.1 270 0 = 1 → zb_md cB M sv X) ∧ (M.1 270 0 = 2 → X = [] ∧ sv = zb_0) ∧ (M.1 270 0 = 0 → X = [] ∧ sv = [])
theorem zb_P.eq {cB : ClassId} {M M' : q_M} {sv : List Value} {X : va_W} (h : ∀ i, M'.1 270 i = M.1 270 i) (p : zb_P cB M sv X) : zb_P cB M' sv X := by
  have e : M'.1 270 = M.1 270 := funext h
  unfold zb_P zb_md at p ⊢
  rw [e]
  exact p
def zb_E (E : q_E) : Prop := E.2.2.2.2 = (270, zb_P (E.2.2.1 5))
theorem zb_E.P {E : q_E} (h : zb_E E) : E.2.2.2.2.2 = zb_P (E.2.2.1 5) := congrArg Prod.snd h
def zb_Z (Z : q_Z) : Prop := Z.2.2[268]? = some (7, 0, 4, []) ∧ ∀ (k : Nat) (h : q_Sh), Z.2.2[k]? = some h → k ≠ 268 → h.1 < 5
theorem zb_Z.of {Z : q_Z} (h1 : Z.2.2[268]? = some (7, 0, 4, [])) (h2 : (Z.2.2.take 268).all (fun h => Nat.blt h.1 5) = true) (h3 : (Z.2.2.drop 269).all (fun h => Nat.blt h.1 5) = true) : zb_Z Z := by
  refine ⟨h1, fun k h hk hne => ?_⟩
  rcases Nat.lt_or_gt_of_ne hne with hl | hg
  · have hm : (Z.2.2.take 268)[k]? = some h := by rw [List.getElem?_take, if_pos hl]; exact hk
    exact Nat.le_of_ble_eq_true (List.all_eq_true.mp h2 h (List.mem_of_getElem? hm))
  · have hm : (Z.2.2.drop 269)[k - 269]? = some h := by rw [List.getElem?_drop, show 269 + (k - 269) = k by omega]; exact hk
    exact Nat.le_of_ble_eq_true (List.all_eq_true.mp h3 h (List.mem_of_getElem? hm))
theorem zb_ent {E : q_E} {M M' : q_M} {sv sv' : List Value} {k : Nat} {h : q_Sh} (hk : h.1 < 5) (h1 : M'.1 k = M.1 k) (h2 : M'.2 k = M.2 k) : q_ent E M sv k h = q_ent E M' sv' k h := by
  obtain ⟨t, c, n, r⟩ := h
  unfold q_ent
  match t, hk with
  | 0, _ =>
    show (Sum.inr (c, q_flds E.1 c n (M.1 k) (M.2 k) r) : va_E) = Sum.inr (c, q_flds E.1 c n (M'.1 k) (M'.2 k) r)
    rw [h1, h2]
  | 1, _ =>
    show (Sum.inl (E.2.2.1 1, n, Sum.inl (M.1 k)) : va_E) = Sum.inl (E.2.2.1 1, n, Sum.inl (M'.1 k))
    rw [h1]
  | 2, _ =>
    show (Sum.inl (E.2.2.1 2, n, Sum.inr (Sum.inl (M.2 k))) : va_E) = Sum.inl (E.2.2.1 2, n, Sum.inr (Sum.inl (M'.2 k)))
    rw [h2]
  | 3, _ =>
    show (Sum.inl (E.2.2.1 3, n, Sum.inl (M.1 k)) : va_E) = Sum.inl (E.2.2.1 3, n, Sum.inl (M'.1 k))
    rw [h1]
  | 4, _ => rfl
theorem zb_at {Z : q_Z} {E : q_E} {M : q_M} {sv : List Value} {X : va_W} (hz : zb_Z Z) : (q_wl Z E M sv ++ X)[268]? = some (E.1 270, .inr (0, sv)) := q_wl_at X (show q_cell Z 270 = some (7, 0, 4, []) from hz.1)
theorem zb_set {Z : q_Z} {E : q_E} {M M' : q_M} {sv sv' : List Value} {X : va_W} (hz : zb_Z Z) (hM : ∀ j, j ≠ 270 → M'.1 j = M.1 j ∧ M'.2 j = M.2 j) : (q_wl Z E M sv ++ X).set 268 (E.1 270, .inr (0, sv')) = q_wl Z E M' sv' ++ X := by
  have hl : 268 < Z.2.2.length := (List.getElem?_eq_some_iff.mp hz.1).1
  have hlen : (q_wl Z E M sv).length = Z.2.2.length := by unfold q_wl; rw [List.length_mapIdx]
  rw [List.set_append_left _ _ (by rw [hlen]; exact hl)]
  congr 1
  apply List.ext_getElem?
  intro j
  by_cases e : 268 = j
  · subst e
    rw [List.getElem?_set_self (by rw [hlen]; exact hl)]
    unfold q_wl
    rw [List.getElem?_mapIdx, hz.1]
    rfl
  · rw [List.getElem?_set_ne e]
    unfold q_wl
    rw [List.getElem?_mapIdx, List.getElem?_mapIdx]
    cases hj : Z.2.2[j]? with
    | none => rfl
    | some g =>
      obtain ⟨a1, a2⟩ := hM (j + 2) (by omega)
      show some (E.1 (j + 2), q_ent E M sv (j + 2) g) = some (E.1 (j + 2), q_ent E M' sv' (j + 2) g)
      rw [zb_ent (hz.2 j g hj (fun q => e q.symm)) a1 a2]
theorem zb_wl {Z : q_Z} {E : q_E} {M M' : q_M} {sv : List Value} (hz : zb_Z Z) (hM : ∀ j, j ≠ 270 → M'.1 j = M.1 j ∧ M'.2 j = M.2 j) : q_wl Z E M sv = q_wl Z E M' sv := by
  unfold q_wl
  apply List.ext_getElem?
  intro j
  rw [List.getElem?_mapIdx, List.getElem?_mapIdx]
  cases hj : Z.2.2[j]? with
  | none => rfl
  | some g =>
    show some (E.1 (j + 2), q_ent E M sv (j + 2) g) = some (E.1 (j + 2), q_ent E M' sv (j + 2) g)
    by_cases e : j = 268
    · subst e
      rw [hz.1] at hj
      cases hj
      rfl
    · obtain ⟨a1, a2⟩ := hM (j + 2) (by omega)
      rw [zb_ent (sv' := sv) (hz.2 j g hj e) a1 a2]
theorem zb_ss {M : q_M} {r i : Nat} {x : Int32} : (q_si M r i x).1 r i = x := by rw [q_si_at, if_pos rfl]
theorem zb_sn {M : q_M} {r i j : Nat} {x : Int32} (h : ¬ j = i) : (q_si M r i x).1 r j = M.1 r j := by rw [q_si_at, if_neg h]
theorem zb_si {M : q_M} {i : Nat} {x : Int32} : ∀ j, j ≠ 270 → (q_si M 270 i x).1 j = M.1 j ∧ (q_si M 270 i x).2 j = M.2 j := fun _ hj => ⟨q_si_ne hj, rfl⟩
section SD
variable {me mj : q_Me} {Z : q_Z} {E : q_E} {M : q_M} {Q Q1 : Option Value → q_M → Prop} {d mc ms c1 s1 : Nat} {as rest st0 : List Value} {p : Program} {l : Launch} {e : Env} {R : Room} {s : State} {m : MethodId} {args : Array Value} {below : List Frame} {meth : Method} {c : Code} {H : Heap} {locs : List Loc} {cells slots pc idx : Nat} {ls : Array Slot} {Q' : State → Prop}
theorem q_D.ini {b : Nat} (A : q_Act me (d + 1) R p s m args meth c) (hl : ls.size = me.2.2.2.1) (hR : q_R Z E M s H locs) (hM : q_D mj Z E d c1 s1 (.ref b :: as) M Q1) (hn1 : mj.2.1.name = "<init>") (hrn : mj.2.2.2.2.1 = none)
    (h1 : Cond.methodLink me.1 idx mj.2.1 ∈ q_wT) (h2 : Cond.instanceMethod mj.2.1 ∈ q_wT) (h4 : Cond.initialized mj.2.1.cls ∈ q_wT) (h5 : Cond.code mj.2.1 mj.2.2.1 mj.2.2.2.1 mj.2.2.2.2.1 ∈ q_wT)
    (hy : q_yok mj as.length = true) (hL : mj.2.2.2.1 ≤ 45) (hroom : (rest.map fun v => v.category).sum ≤ 8) (hd : decode me.2.2.1 pc = .ok (.invokespecial idx, 3)) (hf : cells + c1 ≤ R.cells ∧ slots + s1 ≤ R.slots)
    (kk : ∀ (v : Option Value) (M1 : q_M) (H1 : Heap) (locs1 : List Loc), Q1 v M1 → q_R Z E M1 s H1 locs1 → W p l e R s m args below meth c H1 locs1 (cells + c1) (slots + s1) Q' (F0 m (pc + 3) ls (v.toList ++ rest))) : W p l e R s m args below meth c H locs cells slots Q' (F0 m pc ls (as.reverse ++ .ref b :: rest)) := by
  have hts : ∀ w ∈ q_wT, w.before args s = true := fun w h => q_word A h
  have cb : CallB R s args me.1 idx mj.2.1 mj.2.2.1 mj.2.2.2.1 none (q_ws mj) (q_room d c1 s1) c1 s1 as.length := callB_of (ws' := q_wT) as.length hts (q_goodIn (q_ws_in h5)) (by rw [q_ws, hrn]) rfl rfl (hts _ h4) (hts _ h1) (q_yok.el hy) ⟨A.2.2.2.2.2.2.2.1, by have := A.2.2.2.2.2.2.2.2; show 8 + (mj.2.2.2.1 + 11) + 64 * d ≤ R.locals; omega⟩
  have hr := va_runI (e := e) (below := below) (meth := meth) (locs := locs) (cells := cells) (slots := slots) (H := H) (b := b) (As := as) (rest := rest) (g := F0 m pc ls (as.reverse ++ .ref b :: rest))
    (⟨A.1, A.2.1, A.2.2.2.1, A.2.2.2.2.1, hts⟩ : CallFix p m c me.2.2.1 me.2.2.2.1 s args q_wT me.1) (hM l) ⟨cb, hn1, hts _ h2⟩ ⟨q_blind, fun U hU hW => ⟨rfl, q_RS.of hR hU hW⟩⟩ rfl rfl hl rfl (lv_room hroom) hd hf
  exact q_D.call hr hR kk
theorem zb_rec (hR : q_R Z E M s H locs) (hz : zb_Z Z) : ∃ cellB : Cell, H[E.1 270]? = some cellB ∧ cellB.vm.isStatics = false ∧ s.vm.findClass sbC = some cellB.cls := by
  obtain ⟨hK, ⟨sv, X, hP, hD, -⟩, -⟩ := hR
  exact va_recv hK hP (show vwCl[0]? = some (RJ4, TJ4, 4) from rfl) (zb_at hz)
/-- super.m(..) -/
theorem q_D.sup (A : q_Act me (d + 1) R p s m args meth c) (hl : ls.size = me.2.2.2.1) (hR : q_R Z E M s H locs) (hz : zb_Z Z) (hme : me.1 = sbC) (hM : q_D mj Z E d c1 s1 (.ref (E.1 270) :: as) M Q1) (hmj : mj.2.1.cls = asC) (hno : mj.2.1.name ≠ "<init>")
    (h1 : Cond.methodLink sbC idx mj.2.1 ∈ q_wT) (h2 : Cond.instanceMethod mj.2.1 ∈ q_wT) (h3 : Cond.sameMethod asC asC mj.2.1.name mj.2.1.desc ∈ q_wT) (h5 : Cond.code mj.2.1 mj.2.2.1 mj.2.2.2.1 mj.2.2.2.2.1 ∈ q_wT)
    (hy : q_yok mj as.length = true) (hL : mj.2.2.2.1 ≤ 45) (hroom : (rest.map fun v => v.category).sum ≤ 8) (hd : decode me.2.2.1 pc = .ok (.invokespecial idx, 3)) (hf : cells + c1 ≤ R.cells ∧ slots + s1 ≤ R.slots)
    (kk : ∀ (v : Option Value) (M1 : q_M) (H1 : Heap) (locs1 : List Loc), Q1 v M1 → q_R Z E M1 s H1 locs1 → W p l e R s m args below meth c H1 locs1 (cells + c1) (slots + s1) Q' (F0 m (pc + 3) ls (v.toList ++ rest))) : W p l e R s m args below meth c H locs cells slots Q' (F0 m pc ls (as.reverse ++ .ref (E.1 270) :: rest)) := by
  have hts : ∀ w ∈ q_wT, w.before args s = true := fun w h => q_word A h
  have cw : va_CS R s args me.1 idx mj.2.1 mj.2.2.1 mj.2.2.2.1 mj.2.2.2.2.1 (q_ws mj) (q_room d c1 s1) c1 s1 as.length := va_cwSU (ws' := q_wT) as.length hts (q_goodIn (fun w hw => by
      rcases List.mem_append.mp hw with h | h
      · rcases List.mem_cons.mp h with rfl | h
        · rw [hme]; exact h1
        rcases List.mem_cons.mp h with rfl | h
        · rw [hmj]; exact h3
        rcases List.mem_cons.mp h with rfl | h
        · rw [hme, hmj]; exact q_in_mem (j := 818) (by decide +kernel)
        rcases List.mem_cons.mp h with rfl | h
        · exact h2
        rcases List.mem_cons.mp h with rfl | h
        · rw [hmj]; exact q_in_mem (j := 222) (by decide +kernel)
        cases h
      · exact q_ws_in h5 w h)) rfl rfl rfl ⟨hno, (q_yok.el hy).2.2⟩ ⟨A.2.2.2.2.2.2.2.1, by have := A.2.2.2.2.2.2.2.2; show 8 + (mj.2.2.2.1 + 11) + 64 * d ≤ R.locals; omega⟩
  have hr := va_runSU (C := sbC) (e := e) (below := below) (meth := meth) (locs := locs) (cells := cells) (slots := slots) (H := H) (b := E.1 270) (As := as) (rest := rest) (g := F0 m pc ls (as.reverse ++ .ref (E.1 270) :: rest)) ((hR.1.1 0 (RJ4, TJ4, 4) rfl).2)
    (⟨A.1, A.2.1, A.2.2.2.1, A.2.2.2.2.1, hts⟩ : CallFix p m c me.2.2.1 me.2.2.2.1 s args q_wT me.1) (hM l) cw ⟨q_blind, zb_rec hR hz, fun U hU hW => ⟨rfl, q_RS.of hR hU hW⟩⟩ rfl rfl hl rfl (lv_room hroom) hd hf
  exact q_D.call hr hR kk
/-- a private method of the superclass is selected, whatever the receiver's class -/
theorem zb_sel {y : MethodName} (hy : y.cls = asC) (hpriv : (Cond.privateMethod y).before args s = true) (hinst : (Cond.instanceMethod y).before args s = true) (hsm : (Cond.sameMethod asC asC y.name y.desc).before args s = true) (hins : (Cond.instantiable sbC 4).before args s = true) : (Cond.selects sbC y y).before args s = true := by
  obtain ⟨c, k, hc, hk, -, -, -, -⟩ := Cond.instantiable_spec hins
  obtain ⟨mk, methM, hnamed, hmethM, -, -⟩ := Cond.instanceMethod_spec hinst
  obtain ⟨c2, ck, r, q1, q2, q3, q4, q5⟩ := Cond.sameMethod_found hsm
  have ey : (⟨asC, y.name, y.desc⟩ : MethodName) = y := by rw [← hy]
  rw [ey] at q5
  have er : r = mk := Option.some.inj (q5.symm.trans hnamed)
  subst er
  have hcls : r.cls = c2 := Option.some.inj ((findClass_of_methodNamed hnamed).symm.trans (by rw [hy]; exact q1))
  have hsel : selectMethod {} s.vm c r = .method r := selectMethod_private hmethM (Cond.privateMethod_at hpriv r methM hnamed hmethM)
  have q4' : s.methodFound? y.cls y.name y.desc = some r := by rw [hy]; exact q4
  simp only [Cond.before, Cond.holds, Cond.value, hc, q4', hnamed, hsel, hcls, q2]
  simp
  exact q3
/-- an inherited method: private (sel by zb_sel), or as the tables select it -/
theorem q_D.inh (A : q_Act me (d + 1) R p s m args meth c) (hl : ls.size = me.2.2.2.1) (hR : q_R Z E M s H locs) (hz : zb_Z Z) (hme : me.1 = asC) (hM : q_D mj Z E d c1 s1 (.ref (E.1 270) :: as) M Q1) (hmj : mj.2.1.cls = asC)
    (hsel : (Cond.selects sbC mj.2.1 mj.2.1).before args s = true) (h1 : Cond.methodLink asC idx mj.2.1 ∈ q_wT) (h2 : Cond.instanceMethod mj.2.1 ∈ q_wT) (h3 : Cond.sameMethod asC asC mj.2.1.name mj.2.1.desc ∈ q_wT) (h5 : Cond.code mj.2.1 mj.2.2.1 mj.2.2.2.1 mj.2.2.2.2.1 ∈ q_wT)
    (hy : q_yok mj as.length = true) (hL : mj.2.2.2.1 ≤ 45) (hroom : (rest.map fun v => v.category).sum ≤ 8) (hd : decode me.2.2.1 pc = .ok (.invokevirtual idx, 3)) (hf : cells + c1 ≤ R.cells ∧ slots + s1 ≤ R.slots)
    (kk : ∀ (v : Option Value) (M1 : q_M) (H1 : Heap) (locs1 : List Loc), Q1 v M1 → q_R Z E M1 s H1 locs1 → W p l e R s m args below meth c H1 locs1 (cells + c1) (slots + s1) Q' (F0 m (pc + 3) ls (v.toList ++ rest))) : W p l e R s m args below meth c H locs cells slots Q' (F0 m pc ls (as.reverse ++ .ref (E.1 270) :: rest)) := by
  have hts : ∀ w ∈ q_wT, w.before args s = true := fun w h => q_word A h
  have hG : GoodIn q_wT (q_ws mj) := q_goodIn (q_ws_in h5)
  have ey : (⟨asC, mj.2.1.name, mj.2.1.desc⟩ : MethodName) = mj.2.1 := by rw [← hmj]
  have cw : va_CU R s args me.1 sbC asC idx mj.2.1 mj.2.1 mj.2.2.1 mj.2.2.2.1 mj.2.2.2.2.1 (q_ws mj) (q_room d c1 s1) c1 s1 as.length := by
    refine ⟨⟨rfl, rfl, A.2.2.2.2.2.2.2.1, by have := A.2.2.2.2.2.2.2.2; show 8 + (mj.2.2.2.1 + 11) + 64 * d ≤ R.locals; omega, pay_in hts hG, List.mem_cons_self⟩, hts _ h5, hts _ (by rw [hmj]; exact q_in_mem (j := 222) (by decide +kernel)), ⟨by decide +kernel, by decide +kernel⟩, fun sig h => ?_, hts _ (by rw [hme]; exact h1), hts _ (by rw [hmj]; exact h3), ?_, hsel, hts _ h2⟩
    · have h2 := (q_yok.el hy).2.2
      rw [h] at h2
      exact (Option.some.inj h2).symm
    · rw [ey]
      exact va_Decl.of (hts _ h2) (hts _ h5)
  have hr := va_runU (C := sbC) (owner := asC) (e := e) (below := below) (meth := meth) (locs := locs) (cells := cells) (slots := slots) (H := H) (b := E.1 270) (As := as) (rest := rest) (g := F0 m pc ls (as.reverse ++ .ref (E.1 270) :: rest))
    (⟨A.1, A.2.1, A.2.2.2.1, A.2.2.2.2.1, hts⟩ : CallFix p m c me.2.2.1 me.2.2.2.1 s args q_wT me.1) (hM l) cw ⟨q_blind, zb_rec hR hz, fun U hU hW => ⟨rfl, q_RS.of hR hU hW⟩⟩ rfl rfl hl rfl (lv_room hroom) hd hf
  exact q_D.call hr hR kk
/-- a field of the StringBuilder is read, is written -/
theorem zb_get {sv : List Value} {X : va_W} {k : Nat} {v : Value} (A : q_Act me d R p s m args meth c) (hK : va_K E.2.1 vwCl (q_tys E) s) (hP : va_P E.2.1 vwCl (q_wl Z E M sv ++ X) H) (hz : zb_Z Z) (hme : me.1 = asC) (hk : k < 4) (hl : Cond.fieldLink asC idx asC (TJ4 k).2.1 (TJ4 k).2.2.1 ∈ q_wT) (hv : sv[k]? = some v) (hd : decode me.2.2.1 pc = .ok (.getfield idx, 3))
    (kk : W p l e R s m args below meth c H locs cells slots Q' (F0 m (pc + 3) ls (v :: rest))) : W p l e R s m args below meth c H locs cells slots Q' (F0 m pc ls (.ref (E.1 270) :: rest)) := by
  obtain ⟨ty0, hws, -, -⟩ := q_cls (show vwCl[0]? = some (RJ4, TJ4, 4) from rfl)
  have ho := A.2.2.2.2.1
  rw [hme] at ho
  have hT : (TJ4 k).1 = asC := by
    match k, hk with
    | 0, _ => rfl
    | 1, _ => rfl
    | 2, _ => rfl
    | 3, _ => rfl
  exact va_get (D := E.2.1) (ci := 0) (ref := asC) A.1 A.2.1 (Ts := q_wT) (fun w h => q_word A h) hws ho hK hP 268 (zb_at hz) (show vwCl[0]? = some (RJ4, TJ4, 4) from rfl) k hk (q_word A hl) (fun x h => by rw [hT] at h; exact h) hv hd kk
theorem zb_put {sv : List Value} {X : va_W} {k : Nat} {v : Value} {ty : FieldType} {H0 : Heap} (A : q_Act me d R p s m args meth c) (hK : va_K E.2.1 vwCl (q_tys E) s) (hP : va_P E.2.1 vwCl (q_wl Z E M sv ++ X) H) (hD : va_D (q_A E) (q_wl Z E M sv ++ X)) (hS : va_S (q_A E) H0 H locs) (hz : zb_Z Z) (hme : me.1 = asC) (hk : k < 4) (hl : Cond.fieldLink asC idx asC (TJ4 k).2.1 (TJ4 k).2.2.1 ∈ q_wT) (hty : parseFieldDescriptor (TJ4 k).2.2.1 = some ty) (hn : narrow ty v = v) (hf : fits ty v = true) (hlen : k < sv.length) (hd : decode me.2.2.1 pc = .ok (.putfield idx, 3))
    (kk : ∀ (H1 : Heap) (locs1 : List Loc), va_P E.2.1 vwCl (q_wl Z E M (sv.set k v) ++ X) H1 → va_D (q_A E) (q_wl Z E M (sv.set k v) ++ X) → va_S (q_A E) H0 H1 locs1 → W p l e R s m args below meth c H1 locs1 cells slots Q' (F0 m (pc + 3) ls rest)) : W p l e R s m args below meth c H locs cells slots Q' (F0 m pc ls (v :: .ref (E.1 270) :: rest)) := by
  obtain ⟨ty0, hws, hty0, hnm⟩ := q_cls (show vwCl[0]? = some (RJ4, TJ4, 4) from rfl)
  have ho := A.2.2.2.2.1
  rw [hme] at ho
  have hT : (TJ4 k).1 = asC ∧ (TJ4 k).2.2.2 = false := by
    match k, hk with
    | 0, _ => exact ⟨rfl, rfl⟩
    | 1, _ => exact ⟨rfl, rfl⟩
    | 2, _ => exact ⟨rfl, rfl⟩
    | 3, _ => exact ⟨rfl, rfl⟩
  refine va_put (D := E.2.1) (ci := 0) (ref := asC) A.1 A.2.1 (Ts := q_wT) (fun w h => q_word A h) hws ty0 hty0 hnm ho hK hP hD hS 268 (zb_at hz) (show vwCl[0]? = some (RJ4, TJ4, 4) from rfl) k hk (q_word A hl) (fun x h => by rw [hT.1] at h; exact h) hT.2 hty hn hf hlen hd (fun H1 locs1 hP1 hD1 hS1 => ?_)
  rw [zb_set (M' := M) hz (fun _ _ => ⟨rfl, rfl⟩)] at hP1 hD1
  exact kk H1 locs1 hP1 hD1 hS1
end SD
section SB
variable {Z : q_Z} {E : q_E} {M : q_M} {d : Nat}
theorem j_asb_ok (hE : zb_E E) (hz : zb_Z Z) (h2 : M.1 270 0 = 2) (h1 : M.1 270 1 = 0) : q_D j_asb Z E (d + 1) 1 16 [.ref (E.1 270), .int 16] M (fun v M' => v = none ∧ M' = q_si M 270 0 1) := by
  refine q_D.of (by decide) rfl (Nat.le_of_ble_eq_true rfl) ?_
  intro l p e R s m args below meth c ls A hl hR hc hs
  have hJ := hR.2.2.2.1.2
  refine lv_aload_n A.1 A.2.1 jd_asb_0 rfl (lv_at hl 0 rfl) ?_
  refine W.objInit A.1 A.2.1 A.2.2.2.2.1 (q_word A (q_in_mem (j := 797) (by decide +kernel))) (q_word A q_ko_i) (q_word A q_ko_c) rfl (by rw [A.2.2.2.1]; exact hl.1) rfl jd_asb_1 (by have := A.2.2.2.2.2.2.2.1; omega) (by have := A.2.2.2.2.2.2.2.2; show 2 * 0 + 0 + 12 ≤ _; omega) ?_
  change W _ _ _ _ _ _ _ _ _ _ _ _ _ _ _ (F0 m 4 ls [])
  refine va_gets (own := asC) (ref := "java/lang/String") A.1 A.2.1 hJ.2.2.1 hR.2.2.1 A.2.2.2.2.1 (q_word A (q_in_mem (j := 798) (by decide +kernel))) (fun x h => h) jd_asb_4 ?_
  refine lv_if_eq A.1 A.2.1 jd_asb_7 (tgt := 25) (by decide) (fun h => absurd h (by decide)) (fun _ => ?_)
  refine lv_aload_n A.1 A.2.1 jd_asb_10 rfl (lv_at hl 0 rfl) ?_
  refine lv_iload_n A.1 A.2.1 jd_asb_11 rfl (lv_at hl 1 rfl) ?_
  obtain ⟨hK, ⟨sv, X, hP, hD, hSB⟩, hS, hX, hz', hEv, hN⟩ := hR
  rw [hE.P] at hSB
  obtain ⟨rfl, rfl⟩ := hSB.2.1 h2
  refine va_newa (atype := .byte) A.1 A.2.1 (q_word A q_ka_byte) (ty := .byte) rfl hK hP hD hS (fun q hq => Nat.le_trans hz' hq) (N' := 16) (a0 := (16, .inl (fun _ => 0))) (fun cA => rfl) (by decide) (by decide) (by show 16 * 1 ≤ _; omega) (by omega) (by omega) jd_asb_12 (fun q cA H1 hK1 hP1 hD1 hS1 => ?_)
  have e1 : s.vm.findClass ("[" ++ FieldType.byte.toString) = some cA := (hK1.2 5 (cA, .byte) rfl).2
  have e2 : s.vm.findClass ("[" ++ FieldType.byte.toString) = some (E.2.2.1 5) := (hK.2 4 (E.2.2.1 5, .byte) rfl).2
  have e3 : cA = E.2.2.1 5 := Option.some.inj (e1.symm.trans e2)
  subst e3
  rw [List.append_nil] at hP1 hD1
  refine zb_put (k := 0) (v := .ref q) (ty := .array .byte) A hK hP1 hD1 hS1 hz rfl (by omega) (q_in_mem (j := 806) (by decide +kernel)) (by decide +kernel) rfl rfl (Nat.le_of_ble_eq_true rfl) jd_asb_14 (fun H2 locs2 hP2 hD2 hS2 => ?_)
  refine lv_aload_n A.1 A.2.1 jd_asb_17 rfl (lv_at hl 0 rfl) ?_
  refine lv_iconst A.1 A.2.1 jd_asb_18 rfl ?_
  refine zb_put (k := 1) (v := .int 0) (ty := .byte) A hK hP2 hD2 hS2 hz rfl (by omega) (q_in_mem (j := 807) (by decide +kernel)) (by decide +kernel) rfl rfl (Nat.le_of_ble_eq_true rfl) jd_asb_19 (fun H3 locs3 hP3 hD3 hS3 => ?_)
  refine lv_goto A.1 A.2.1 jd_asb_22 (tgt := 38) (by decide) ?_
  rw [zb_wl (M' := q_si M 270 0 1) hz zb_si] at hP3 hD3
  have hM' : (q_si M 270 0 1).1 270 0 = 1 := zb_ss
  refine q_D.vret (M := q_si M 270 0 1) A ⟨hK, ⟨_, _, hP3, hD3, ?_⟩, hS3, hX, hz', hEv, hN⟩ jd_asb_38 rfl ⟨rfl, rfl⟩ (Nat.le_refl _) (Nat.le_refl _)
  rw [hE.P]
  refine ⟨fun _ => ⟨q, 16, 0, 0, fun _ => 0, rfl, rfl, ?_, by omega, Or.inl rfl, Or.inl rfl, fun i hi => by omega, fun _ => show fits .byte (.int 0) = true by decide⟩, fun h => ?_, fun h => ?_⟩
  · rw [zb_sn (by omega), h1]
    rfl
  · rw [hM'] at h
    exact absurd h (by decide)
  · rw [hM'] at h
    exact absurd h (by decide)
theorem j_sbi_ok (hE : zb_E E) (hz : zb_Z Z) (h2 : M.1 270 0 = 2) (h1 : M.1 270 1 = 0) : q_D j_sbi Z E (d + 2) 1 16 [.ref (E.1 270)] M (fun v M' => v = none ∧ M' = q_si M 270 0 1) := by
  refine q_D.of (by decide) rfl (Nat.le_of_ble_eq_true rfl) ?_
  intro l p e R s m args below meth c ls A hl hR hc hs
  refine lv_aload_n A.1 A.2.1 jd_sbi_0 rfl (lv_at hl 0 rfl) ?_
  refine lv_bipush A.1 A.2.1 (v := 16) jd_sbi_1 (by decide) ?_
  refine q_D.ini (as := [.int 16]) (b := E.1 270) (rest := []) A hl.1 hR (j_asb_ok (d := d) hE hz h2 h1) rfl rfl (q_in_mem (j := 794) (by decide +kernel)) (q_in_mem (j := 795) (by decide +kernel)) (q_in_mem (j := 222) (by decide +kernel)) (q_in_mem (j := 796) (by decide +kernel)) (show q_yok j_asb 1 = true by decide +kernel) (Nat.le_of_ble_eq_true rfl) (Nat.zero_le _) jd_sbi_3 ⟨by omega, by omega⟩ (fun v M1 H1 locs1 hv hR1 => ?_)
  obtain ⟨rfl, rfl⟩ := hv
  exact q_D.vret A hR1 jd_sbi_6 rfl ⟨rfl, rfl⟩ (by omega) (by omega)
theorem j_asl_ok {n : Int32} (hE : zb_E E) (hz : zb_Z Z) (h2 : M.1 270 0 = 1) (h1 : M.1 270 1 = n) : q_D j_asl Z E d 0 0 [.ref (E.1 270)] M (fun v M' => v = some (.int n) ∧ M' = M) := by
  refine q_D.of (by decide) rfl (Nat.le_of_ble_eq_true rfl) ?_
  intro l p e R s m args below meth c ls A hl hR hc hs
  have hRk := hR
  obtain ⟨hK, ⟨sv, X, hP, hD, hSB⟩, hS, hX, hz', hEv, hN⟩ := hR
  rw [hE.P] at hSB
  obtain ⟨a, cap, k, ml, f, rfl, rfl, g1, g2, g3, g4, g5⟩ := hSB.1 h2
  refine lv_aload_n A.1 A.2.1 jd_asl_0 rfl (lv_at hl 0 rfl) ?_
  refine zb_get (k := 3) (v := .int (nI k)) A hK hP hz rfl (by omega) (q_in_mem (j := 809) (by decide +kernel)) rfl jd_asl_1 ?_
  exact q_D.zret A hRk jd_asl_4 rfl rfl ⟨by rw [← h1, g1], rfl⟩ (Nat.le_refl _) (Nat.le_refl _)
theorem j_sbl_ok {n : Int32} (hE : zb_E E) (hz : zb_Z Z) (h2 : M.1 270 0 = 1) (h1 : M.1 270 1 = n) : q_D j_sbl Z E (d + 1) 0 0 [.ref (E.1 270)] M (fun v M' => v = some (.int n) ∧ M' = M) := by
  refine q_D.of (by decide) rfl (Nat.le_of_ble_eq_true rfl) ?_
  intro l p e R s m args below meth c ls A hl hR hc hs
  refine lv_aload_n A.1 A.2.1 jd_sbl_0 rfl (lv_at hl 0 rfl) ?_
  refine q_D.sup (as := []) (rest := []) A hl.1 hR hz rfl (j_asl_ok (d := d) hE hz h2 h1) rfl (by decide) (q_in_mem (j := 1766) (by decide +kernel)) (q_in_mem (j := 1767) (by decide +kernel)) (q_in_mem (j := 2976) (by decide +kernel)) (q_in_mem (j := 1768) (by decide +kernel)) (show q_yok j_asl 0 = true by decide +kernel) (Nat.le_of_ble_eq_true rfl) (Nat.zero_le _) jd_sbl_1 ⟨hc, hs⟩ (fun v M1 H1 locs1 hv hR1 => ?_)
  obtain ⟨rfl, rfl⟩ := hv
  exact q_D.zret A hR1 jd_sbl_4 rfl rfl ⟨rfl, rfl⟩ (Nat.le_refl _) (Nat.le_refl _)
theorem zb_shr {n : Nat} : nI n >>> ((0 : Int32) &&& 31) = nI n := by
  have : ((0 : Int32) &&& 31) = 0 := by decide
  rw [this, Int32.shiftRight_zero]
theorem j_ens0_ok (hE : zb_E E) (hz : zb_Z Z) (h2 : M.1 270 0 = 1) : q_D j_ens Z E d 0 0 [.ref (E.1 270), .int 0] M (fun v M' => v = none ∧ M' = M) := by
  refine q_D.of (by decide) rfl (Nat.le_of_ble_eq_true rfl) ?_
  intro l p e R s m args below meth c ls A hl hR hc hs
  have hRk := hR
  obtain ⟨hK, ⟨sv, X, hP, hD, hSB⟩, hS, hX, hz', hEv, hN⟩ := hR
  rw [hE.P] at hSB
  obtain ⟨a, cap, k, ml, f, rfl, rfl, g1, g2, g3, g4, g5⟩ := hSB.1 h2
  have hlw : (q_wl Z E M [.ref a, .int 0, .int ml, .int (nI k)]).length = Z.2.2.length := by unfold q_wl; rw [List.length_mapIdx]
  have ha : (q_wl Z E M [.ref a, .int 0, .int ml, .int (nI k)] ++ [(a, .inl (E.2.2.1 5, cap, .inl f))])[Z.2.2.length]? = some (a, .inl (E.2.2.1 5, cap, .inl f)) := by
    rw [List.getElem?_append_right (by omega), hlw, Nat.sub_self]
    rfl
  refine lv_aload_n A.1 A.2.1 jd_ens_0 rfl (lv_at hl 0 rfl) ?_
  refine zb_get (k := 0) (v := .ref a) A hK hP hz rfl (by omega) (q_in_mem (j := 806) (by decide +kernel)) rfl jd_ens_1 ?_
  refine va_alen A.1 A.2.1 hK hP Z.2.2.length 4 ha (ty := .byte) rfl (v := nI cap) rfl jd_ens_4 ?_
  refine lv_aload_n A.1 A.2.1 jd_ens_5 rfl (lv_at hl 0 rfl) ?_
  refine zb_get (k := 1) (v := .int 0) A hK hP hz rfl (by omega) (q_in_mem (j := 807) (by decide +kernel)) rfl jd_ens_6 ?_
  refine lv_ishr A.1 A.2.1 jd_ens_9 ?_
  rw [zb_shr]
  refine lv_istore_n A.1 A.2.1 jd_ens_10 rfl hl (by decide) rfl (fun ls' hl' => ?_)
  refine lv_iload_n A.1 A.2.1 jd_ens_11 rfl (lv_at hl' 2 rfl) ?_
  refine lv_iload_n A.1 A.2.1 jd_ens_12 rfl (lv_at hl' 0 rfl) ?_
  refine lv_isub A.1 A.2.1 jd_ens_13 ?_
  refine lv_if_le A.1 A.2.1 jd_ens_14 (tgt := 38) (by decide) (fun _ => ?_) (fun h => absurd ?_ h)
  · exact q_D.vret A hRk jd_ens_38 rfl ⟨rfl, rfl⟩ (Nat.le_refl _) (Nat.le_refl _)
  · have e1 : ((0 : Int32) - nI cap).toInt = 0 - (cap : Int) := by
      rw [q_sub (by rw [nI_toInt (by omega)]; show -2147483648 ≤ (0 : Int) - cap; omega) (by rw [nI_toInt (by omega)]; show (0 : Int) - cap ≤ 2147483647; omega), nI_toInt (by omega)]
      rfl
    rw [Int32.le_iff_toInt_le, e1]
    show (0 : Int) - cap ≤ 0
    omega
theorem j_ass_ok (hE : zb_E E) (hz : zb_Z Z) (h2 : M.1 270 0 = 1) : q_D j_ass Z E (d + 1) 0 0 [.ref (E.1 270), .int 0] M (fun v M' => v = none ∧ M' = q_si M 270 1 0) := by
  refine q_D.of (by decide) rfl (Nat.le_of_ble_eq_true rfl) ?_
  intro l p e R s m args below meth c ls A hl hR hc hs
  refine lv_iload_n A.1 A.2.1 jd_ass_0 rfl (lv_at hl 1 rfl) ?_
  refine lv_if_ge A.1 A.2.1 jd_ass_1 (tgt := 13) (by decide) (fun _ => ?_) (fun h => absurd (Int32.le_refl 0) h)
  refine lv_aload_n A.1 A.2.1 jd_ass_13 rfl (lv_at hl 0 rfl) ?_
  refine lv_iload_n A.1 A.2.1 jd_ass_14 rfl (lv_at hl 1 rfl) ?_
  refine q_D.inh (as := [.int 0]) (rest := []) A hl.1 hR hz rfl (j_ens0_ok (d := d) hE hz h2) rfl (hR.2.2.2.1.2.2.2.2.2.1 _ (List.mem_cons_self)) (q_in_mem (j := 1642) (by decide +kernel)) (q_in_mem (j := 1644) (by decide +kernel)) (q_in_mem (j := 2971) (by decide +kernel)) (q_in_mem (j := 1645) (by decide +kernel)) (show q_yok j_ens 1 = true by decide +kernel) (Nat.le_of_ble_eq_true rfl) (Nat.zero_le _) jd_ass_15 ⟨hc, hs⟩ (fun v M1 H1 locs1 hv hR1 => ?_)
  obtain ⟨rfl, rfl⟩ := hv
  obtain ⟨hK, ⟨sv, X, hP, hD, hSB⟩, hS, hX, hz', hEv, hN⟩ := hR1
  rw [hE.P] at hSB
  obtain ⟨a, cap, k, ml, f, rfl, rfl, g1, g2, g3, g4, g5⟩ := hSB.1 h2
  refine lv_aload_n A.1 A.2.1 jd_ass_18 rfl (lv_at hl 0 rfl) ?_
  refine zb_get (k := 3) (v := .int (nI k)) A hK hP hz rfl (by omega) (q_in_mem (j := 809) (by decide +kernel)) rfl jd_ass_19 ?_
  refine lv_iload_n A.1 A.2.1 jd_ass_22 rfl (lv_at hl 1 rfl) ?_
  refine lv_icmp_ge A.1 A.2.1 jd_ass_23 (tgt := 63) (by decide) (fun _ => ?_) (fun h => absurd (show (0 : Int32) ≤ nI k from nI_le (a := 0) (by omega) (by omega)) h)
  refine lv_aload_n A.1 A.2.1 jd_ass_63 rfl (lv_at hl 0 rfl) ?_
  refine zb_get (k := 3) (v := .int (nI k)) A hK hP hz rfl (by omega) (q_in_mem (j := 809) (by decide +kernel)) rfl jd_ass_64 ?_
  refine lv_iload_n A.1 A.2.1 jd_ass_67 rfl (lv_at hl 1 rfl) ?_
  have fin : ∀ (H2 : Heap) (locs2 : List Loc) (ml2 : Int32), (ml2 = 0 ∨ ml2 = 1) → va_P E.2.1 vwCl (q_wl Z E M1 [.ref a, .int 0, .int ml2, .int (nI k)] ++ [(a, .inl (E.2.2.1 5, cap, .inl f))]) H2 → va_D (q_A E) (q_wl Z E M1 [.ref a, .int 0, .int ml2, .int (nI k)] ++ [(a, .inl (E.2.2.1 5, cap, .inl f))]) → va_S (q_A E) s.heap H2 locs2 →
      W p l e R s m args below meth c H2 locs2 0 0 (MQ below (q_DQ Z E (fun v M' => v = none ∧ M' = q_si M1 270 1 0)) args s 0 0 (q_A E)) (F0 m 76 ls []) := by
    intro H2 locs2 ml2 hml hP2 hD2 hS2
    refine lv_aload_n A.1 A.2.1 jd_ass_76 rfl (lv_at hl 0 rfl) ?_
    refine lv_iload_n A.1 A.2.1 jd_ass_77 rfl (lv_at hl 1 rfl) ?_
    refine zb_put (k := 3) (v := .int 0) (ty := .int) A hK hP2 hD2 hS2 hz rfl (by omega) (q_in_mem (j := 809) (by decide +kernel)) (by decide +kernel) rfl rfl (Nat.le_of_ble_eq_true rfl) jd_ass_78 (fun H3 locs3 hP3 hD3 hS3 => ?_)
    rw [zb_wl (M' := q_si M1 270 1 0) hz zb_si] at hP3 hD3
    have h0 : (q_si M1 270 1 0).1 270 0 = 1 := by rw [zb_sn (by omega)]; exact h2
    refine q_D.vret (M := q_si M1 270 1 0) A ⟨hK, ⟨_, _, hP3, hD3, ?_⟩, hS3, hX, hz', hEv, hN⟩ jd_ass_81 rfl ⟨rfl, rfl⟩ (Nat.le_refl _) (Nat.le_refl _)
    rw [hE.P]
    refine ⟨fun _ => ⟨a, cap, 0, ml2, f, rfl, rfl, zb_ss, Nat.zero_le _, g3, hml, fun i hi => by omega, g5.2⟩, fun h => ?_, fun h => ?_⟩
    · rw [h0] at h
      exact absurd h (by decide)
    · rw [h0] at h
      exact absurd h (by decide)
  refine lv_icmp_le A.1 A.2.1 jd_ass_68 (tgt := 76) (by decide) (fun _ => fin _ _ ml g4 hP hD hS) (fun _ => ?_)
  refine lv_aload_n A.1 A.2.1 jd_ass_71 rfl (lv_at hl 0 rfl) ?_
  refine lv_iconst A.1 A.2.1 jd_ass_72 rfl ?_
  exact zb_put (k := 2) (v := .int 1) (ty := .boolean) A hK hP hD hS hz rfl (by omega) (q_in_mem (j := 808) (by decide +kernel)) (by decide +kernel) rfl rfl (Nat.le_of_ble_eq_true rfl) jd_ass_73 (fun H3 locs3 hP3 hD3 hS3 => fin H3 locs3 1 (Or.inr rfl) hP3 hD3 hS3)
theorem j_sbs_ok (hE : zb_E E) (hz : zb_Z Z) (h2 : M.1 270 0 = 1) : q_D j_sbs Z E (d + 2) 0 0 [.ref (E.1 270), .int 0] M (fun v M' => v = none ∧ M' = q_si M 270 1 0) := by
  refine q_D.of (by decide) rfl (Nat.le_of_ble_eq_true rfl) ?_
  intro l p e R s m args below meth c ls A hl hR hc hs
  refine lv_aload_n A.1 A.2.1 jd_sbs_0 rfl (lv_at hl 0 rfl) ?_
  refine lv_iload_n A.1 A.2.1 jd_sbs_1 rfl (lv_at hl 1 rfl) ?_
  refine q_D.sup (as := [.int 0]) (rest := []) A hl.1 hR hz rfl (j_ass_ok (d := d) hE hz h2) rfl (by decide) (q_in_mem (j := 1639) (by decide +kernel)) (q_in_mem (j := 1640) (by decide +kernel)) (q_in_mem (j := 2970) (by decide +kernel)) (q_in_mem (j := 1641) (by decide +kernel)) (show q_yok j_ass 1 = true by decide +kernel) (Nat.le_of_ble_eq_true rfl) (Nat.zero_le _) jd_sbs_2 ⟨hc, hs⟩ (fun v M1 H1 locs1 hv hR1 => ?_)
  obtain ⟨rfl, rfl⟩ := hv
  exact q_D.vret A hR1 jd_sbs_5 rfl ⟨rfl, rfl⟩ (Nat.le_refl _) (Nat.le_refl _)
end SB
