/-! Tape's constructor: the row of words out of the class's text -/
theorem q_wpR_ok {Z : q_Z} {E : q_E} {mi d rc rs : Nat} {Y : Array Value → State → Outcome → State → Prop} {Q : Option Value → q_M → Prop} {cuts : List Nat} {rows0 : List q_I} (hQ : ∀ v M', Q v M' → q_Y Z E Y v M') (hrw : rows0.all (q_rck q_mt 438 (q_mt mi)) = true) : ∀ (n : Nat) (rows : List q_I) (lv : q_L) (st : List Value) (M : q_M), (∀ r ∈ rows, r ∈ rows0) → q_wp q_mt Z E mi d rc rs Y Q cuts n rows lv st M → ∃ r rows', rows = r :: rows' ∧ q_G q_mt Z E mi d rc rs Y r.1 lv st M
  | 0, [], _, _, _, _, h => by unfold q_wp at h; exact h.elim
  | n + 1, [], _, _, _, _, h => by unfold q_wp at h; exact h.elim
  | 0, r :: rows, lv, st, M, _, h => ⟨r, rows, rfl, h⟩
  | n + 1, r :: rows, lv, st, M, hm, h => by
    refine ⟨r, rows, rfl, ?_⟩
    have hr := List.all_eq_true.mp hrw r (hm r List.mem_cons_self)
    unfold q_rck at hr
    rw [Bool.and_eq_true, Bool.and_eq_true] at hr
    refine q_stp_ok q_ok (of_decide_eq_true hr.1.1) hr.1.2 hr.2 hQ ?_ h
    intro pc' lv' st' M' q
    cases hb : (Nat.ble pc' r.1 || q_has1 pc' cuts) with
    | true => rw [hb] at q; exact q
    | false =>
      rw [hb] at q
      obtain ⟨r', rows', e, G⟩ := q_wpR_ok hQ hrw n (q_seek pc' rows) lv' st' M' (fun x hx => hm x (List.mem_cons_of_mem _ (q_seek_mem hx))) q
      rw [← q_seek_head e]
      exact G
/-- straight rows out of a list of one's own -/
theorem k_goR {Z : q_Z} {E : q_E} {mi d rc rs : Nat} {Y : Array Value → State → Outcome → State → Prop} {pc : Nat} {lv : q_L} {st : List Value} {M : q_M} {rows0 : List q_I} (hrw : rows0.all (q_rck q_mt 438 (q_mt mi)) = true) (n : Nat) (h : q_wp q_mt Z E mi d rc rs Y (fun _ _ => False) [] n (q_seek pc rows0) lv st M) : q_G q_mt Z E mi d rc rs Y pc lv st M := by
  obtain ⟨r, rows', e, G⟩ := q_wpR_ok (Q := fun _ _ => False) (cuts := []) (fun _ _ h => h.elim) hrw n _ lv st M (fun x hx => q_seek_mem hx) h
  rw [← q_seek_head e]
  exact G
section QU
variable {mt : Nat → q_Me} {Z : q_Z} {E : q_E} {mi d rc rs : Nat} {Q1 : Option Value → q_M → Prop} {Y : Array Value → State → Outcome → State → Prop} {pc idx : Nat} {lv : q_L} {as rest st : List Value} {M : q_M}
/-- the text constant -/
theorem q_ldc1 (hown : (mt mi).1 = "DropTwo$Tape") (hd : decode (mt mi).2.2.1 pc = .ok (.ldc 19, 2)) (kk : q_G mt Z E mi d rc rs Y (pc + 2) lv (.ref 1 :: st) M) : q_G mt Z E mi d rc rs Y pc lv st M := by
  intro l p e R s m args below meth c H locs cells slots ls A hl hR hcc hss
  have hc := A.2.2.2.2.1
  rw [hown] at hc
  exact va_ldcS A.1 A.2.1 hc hR.2.2.2.1.2.1 hd (kk l p e R s m args below meth c H locs cells slots ls A hl hR hcc hss)
/-- a call of one of the text's methods -/
theorem q_invT {mj : q_Me} (hM : q_D mj Z E d 0 0 (.ref (E.1 1) :: as.map (q_vm E.1)) M Q1) (hC : mj.2.1.cls = "java/lang/String")
    (h1 : Cond.methodLink (mt mi).1 idx mj.2.1 ∈ q_wT) (h2 : Cond.instanceMethod mj.2.1 ∈ q_wT) (h3 : Cond.selects "java/lang/String" mj.2.1 mj.2.1 ∈ q_wT) (h4 : Cond.initialized "java/lang/String" ∈ q_wT) (h5 : Cond.code mj.2.1 mj.2.2.1 mj.2.2.2.1 mj.2.2.2.2.1 ∈ q_wT)
    (hy : q_yok mj as.length = true) (hL : mj.2.2.2.1 ≤ 45) (hroom : (rest.map fun v => v.category).sum ≤ 8) (hd : decode (mt mi).2.2.1 pc = .ok (.invokevirtual idx, 3))
    (kk : ∀ (v : Option Value) (M1 : q_M), Q1 v M1 → ∃ w : Option Value, v = w.map (q_vm E.1) ∧ q_G mt Z E mi (d + 1) rc rs Y (pc + 3) lv (w.toList ++ rest) M1) : q_G mt Z E mi (d + 1) rc rs Y pc lv (as.reverse ++ .ref 1 :: rest) M := by
  intro l p e R s m args below meth c H locs cells slots ls A hl hR hcc hss
  have hcat : ((rest.map (q_vm E.1)).map fun v => v.category).sum ≤ 8 := by
    rw [List.map_map, show ((fun v => Value.category v) ∘ q_vm E.1) = (fun v => v.category) from funext (fun v => q_vm_cat E.1 v)]
    exact hroom
  have h := q_D.inv (me := mt mi) (C := "java/lang/String") (b := E.1 1) (as := as.map (q_vm E.1)) (rest := rest.map (q_vm E.1)) (l := l) (e := e) (below := below) (meth := meth) (cells := cells) (slots := slots) (Q' := MQ below Y args s (cells + rc) (slots + rs) (q_A E)) A hl.1 hR hM (vk_recv (i := 0) hR.2.2.2.1.2.2.1 (by decide) hR.2.2.1) hC h1 h2 h3 h4 h5 (by rw [List.length_map]; exact hy) hL hcat hd ⟨by omega, by omega⟩ (fun v M1 H1 locs1 hq hR1 => by
    obtain ⟨w, rfl, K⟩ := kk v M1 hq
    have K := K l p e R s m args below meth c H1 locs1 cells slots ls A hl hR1 hcc hss
    rw [List.map_append] at K
    cases w <;> exact K)
  rw [List.map_append, List.map_reverse]
  exact h
end QU
noncomputable def rT : List q_I := [(25, .iload_n 2, 1, []), (26, .ldc 19, 2, []), (28, .invokevirtual 21, 3, []), (31, .if_icmp .ge 57, 3, [88]), (34, .iload_n 1, 1, []), (35, .bipush 34, 2, []), (37, .if_icmp .ge 51, 3, [88]), (40, .ldc 19, 2, []), (42, .iload_n 2, 1, []), (43, .invokevirtual 27, 3, []), (46, .istore_n 3, 1, []), (47, .iload_n 3, 1, []), (48, .bipush 32, 2, []), (50, .if_icmp .ne 9, 3, [59]), (53, .iinc 1 1, 3, []), (56, .goto 26, 3, [82]), (59, .aload_n 0, 1, []), (60, .getfield 15, 3, [10, 1, 296]), (63, .iload_n 1, 1, []), (64, .aload_n 0, 1, []), (65, .getfield 15, 3, [10, 1, 296]), (68, .iload_n 1, 1, []), (69, .laload, 1, []), (70, .iconst 5, 1, []), (71, .lshl, 1, []), (72, .iload_n 3, 1, []), (73, .i2l, 1, []), (74, .ladd, 1, []), (75, .ldc2_w 31, 3, [294, 97]), (78, .lsub, 1, []), (79, .lconst 1, 1, []), (80, .ladd, 1, []), (81, .lastore, 1, []), (82, .iinc 2 1, 3, []), (85, .goto (-60), 3, [25]), (88, .aload_n 0, 1, []), (89, .iconst (-1), 1, []), (90, .putfield 33, 3, [10, 8, 315]), (93, .return_, 1, [])]
theorem rT_ok : rT.all (q_rck q_mt 438 (q_mt nX9_init)) = true := by decide +kernel
/-- the word that is read, and the row of words, behind i letters -/
def tpL : Nat → Nat × List Int64
  | 0 => (0, List.replicate 34 0)
  | i + 1 => if q_tb.getD i 0 = 32 then ((tpL i).1 + 1, (tpL i).2) else ((tpL i).1, (tpL i).2.set (tpL i).1 ((((tpL i).2.getD (tpL i).1 0) <<< (5 : Int64)) + (q_tb.getD i 0).toInt64 - 97 + 1))
def tpM (M : q_M) (i : Nat) : q_M := (M.1, fun a b => bif Nat.beq a 5 && Nat.blt b 34 then (tpL i).2.getD b 0 else M.2 a b)
theorem tpL_1 : ∀ i, i < 179 → (tpL i).1 < 34 := by decide +kernel
theorem tpL_2 : ∀ i, (tpL i).2.length = 34
  | 0 => rfl
  | i + 1 => by
    unfold tpL
    split
    · exact tpL_2 i
    · rw [List.length_set]; exact tpL_2 i
theorem tpM_s {M : q_M} {i : Nat} (h : q_tb.getD i 0 = 32) : tpM M (i + 1) = tpM M i := by
  unfold tpM
  have e : tpL (i + 1) = ((tpL i).1 + 1, (tpL i).2) := by
    show (if q_tb.getD i 0 = 32 then _ else _) = _
    rw [if_pos h]
  rw [e]
theorem tpL_n {i : Nat} (h : ¬ q_tb.getD i 0 = 32) : tpL (i + 1) = ((tpL i).1, (tpL i).2.set (tpL i).1 ((((tpL i).2.getD (tpL i).1 0) <<< (5 : Int64)) + (q_tb.getD i 0).toInt64 - 97 + 1)) := by
  show (if q_tb.getD i 0 = 32 then _ else _) = _
  rw [if_neg h]
theorem tpM_at {M : q_M} {i b : Nat} (hb : b < 34) : (tpM M i).2 5 b = (tpL i).2.getD b 0 := by
  show (bif Nat.beq 5 5 && Nat.blt b 34 then (tpL i).2.getD b 0 else M.2 5 b) = _
  rw [show Nat.blt b 34 = true from Nat.ble_eq_true_of_le hb]
  rfl
theorem tpM_n {M : q_M} {i : Nat} (hi : i < 179) (h : ¬ q_tb.getD i 0 = 32) : tpM M (i + 1) = q_sl (tpM M i) 5 (tpL i).1 ((((tpL i).2.getD (tpL i).1 0) <<< (5 : Int64)) + (q_tb.getD i 0).toInt64 - 97 + 1) := by
  have hw := tpL_1 i hi
  have hl := tpL_2 i
  refine Prod.ext rfl ?_
  funext a b
  show (bif Nat.beq a 5 && Nat.blt b 34 then (tpL (i + 1)).2.getD b 0 else M.2 a b) = (bif Nat.beq a 5 && Nat.beq b (tpL i).1 then _ else (bif Nat.beq a 5 && Nat.blt b 34 then (tpL i).2.getD b 0 else M.2 a b))
  rw [tpL_n h]
  cases ha : Nat.beq a 5 with
  | false => rfl
  | true =>
    rw [Bool.true_and, Bool.true_and]
    cases hb : Nat.beq b (tpL i).1 with
    | true =>
      have e := Nat.eq_of_beq_eq_true hb
      rw [e, show Nat.blt (tpL i).1 34 = true from Nat.ble_eq_true_of_le hw]
      show ((tpL i).2.set (tpL i).1 _).getD (tpL i).1 0 = _
      rw [List.getD_eq_getElem?_getD, List.getElem?_set_self (by omega)]
      rfl
    | false =>
      have e : (tpL i).1 ≠ b := fun q => by rw [← q, Nat.beq_refl] at hb; cases hb
      cases hc : Nat.blt b 34 with
      | false => rfl
      | true =>
        show ((tpL i).2.set (tpL i).1 _).getD b 0 = _
        rw [List.getD_eq_getElem?_getD, List.getElem?_set_ne e, ← List.getD_eq_getElem?_getD]
        rfl
abbrev tpG : q_Sh := (0, 10, 11, [some 4, some 5, none, none, none, none, none, none, none, none, none])
abbrev tpZ (L : Nat) (xs : Nat → Int32) : q_Z := (L, xs, [(0, 12, 17, List.replicate 17 none), tpG, (1, 0, 1200, []), (2, 0, 34, [])])
theorem tp_len : ∀ i, i < 179 → q_tb.getD i 0 = 32 ∨ ¬ q_tb.getD i 0 = 32 := fun i _ => Classical.em _
section TP
variable {L : Nat} {xs : Nat → Int32} {E : q_E} {d : Nat} {M : q_M} {Y : Array Value → State → Outcome → State → Prop}
set_option maxRecDepth 100000 in
set_option maxHeartbeats 4000000 in
theorem tp_loop (hY : q_Y (tpZ L xs) E Y none (q_si (tpM M 179) 3 8 (Int32.ofInt (-1)))) : ∀ (k i : Nat) (x : Option Value), i + k = 179 → q_G q_mt (tpZ L xs) E nX9_init (d + 4) 0 0 Y 25 [some (.ref 3), some (.int (nI (tpL i).1)), some (.int (nI i)), x] [] (tpM M i)
  | k, i, x, hk => by
    refine k_goR rT_ok 1 ?_
    refine q_ldc1 rfl (show decode cX9_init 26 = .ok (.ldc 19, 2) by decide +kernel) ?_
    refine q_invT (as := []) (mj := j_len) (rest := [.int (nI i)]) (j_len_ok (d := d + 2)) rfl (q_in_mem (j := 246) (by decide +kernel)) (q_in_mem (j := 247) (by decide +kernel)) (q_in_mem (j := 248) (by decide +kernel)) (q_in_mem (j := 208) (by decide +kernel)) (q_in_mem (j := 249) (by decide +kernel)) (show q_yok j_len 0 = true by decide +kernel) (Nat.le_of_ble_eq_true rfl) (Nat.le_of_ble_eq_true rfl) (show decode cX9_init 28 = .ok (.invokevirtual 21, 3) by decide +kernel) (fun v M1 hv => ?_)
    obtain ⟨rfl, rfl⟩ := hv
    refine ⟨some (.int (nI 179)), rfl, ?_⟩
    match k, hk with
    | 0, hk =>
      obtain rfl : i = 179 := by omega
      refine k_goR rT_ok 1 ?_
      refine br_t (Int32.le_refl _) ?_
      refine k_goR rT_ok 3 ?_
      exact q_vret (show decode cX9_init 93 = .ok (.return_, 1) by decide +kernel) rfl hY
    | k + 1, hk =>
      have hi : i < 179 := by omega
      have hw := tpL_1 i hi
      refine k_goR rT_ok 4 ?_
      refine br_f (show ¬ nI 179 ≤ nI i from nI_ge hi (by omega)) ?_
      refine br_f (show ¬ nI 34 ≤ nI (tpL i).1 from nI_ge hw (by omega)) ?_
      refine q_ldc1 rfl (show decode cX9_init 40 = .ok (.ldc 19, 2) by decide +kernel) ?_
      refine k_goR rT_ok 1 ?_
      refine q_invT (as := [.int (nI i)]) (mj := j_cha) (rest := []) (j_cha_ok (d := d) hi) rfl (q_in_mem (j := 256) (by decide +kernel)) (q_in_mem (j := 257) (by decide +kernel)) (q_in_mem (j := 258) (by decide +kernel)) (q_in_mem (j := 208) (by decide +kernel)) (q_in_mem (j := 259) (by decide +kernel)) (show q_yok j_cha 1 = true by decide +kernel) (Nat.le_of_ble_eq_true rfl) (Nat.zero_le _) (show decode cX9_init 43 = .ok (.invokevirtual 27, 3) by decide +kernel) (fun v M1 hv => ?_)
      obtain ⟨rfl, rfl⟩ := hv
      refine ⟨some (.int (q_tb.getD i 0)), rfl, ?_⟩
      have nx := fun x => tp_loop hY k (i + 1) x (by omega)
      have ei : nI i + Int32.ofInt 1 = nI (i + 1) := nI_add i 1
      rcases tp_len i hi with h | h
      · have e1 : tpL (i + 1) = ((tpL i).1 + 1, (tpL i).2) := by
          show (if q_tb.getD i 0 = 32 then _ else _) = _
          rw [if_pos h]
        have nx := nx (some (.int (q_tb.getD i 0)))
        rw [tpM_s h, e1] at nx
        refine k_goR rT_ok 4 ?_
        refine bn_f h ?_
        refine k_goR rT_ok 2 ?_
        refine k_goR rT_ok 2 ?_
        rw [← ei, ← show nI (tpL i).1 + Int32.ofInt 1 = nI ((tpL i).1 + 1) from nI_add _ 1] at nx
        exact nx
      · have nx := nx (some (.int (q_tb.getD i 0)))
        rw [tpM_n hi h, tpL_n h] at nx
        refine k_goR rT_ok 4 ?_
        refine bn_t h ?_
        refine k_goR rT_ok 17 ?_
        have hin : q_in0 (nI (tpL i).1) 34 := q_n1 (by decide) hw
        have ec : (nI (tpL i).1).toNatClampNeg = (tpL i).1 := nI_clamp (by omega)
        refine ⟨hin, hin, ?_⟩
        rw [ec, tpM_at hw]
        refine k_goR rT_ok 2 ?_
        rw [← ei, ← show ((Int32.ofInt 5).toInt64 &&& 63) = (5 : Int64) by decide] at nx
        exact nx
end TP
