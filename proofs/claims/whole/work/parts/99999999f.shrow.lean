/-! the whole rows of sheet, writePage, writeName (written by wip/whole/gen18.py) -/
noncomputable def rw_SH : List q_I := [(0, .aload_n 0, 1, []), (1, .invokevirtual 383, 3, [1, 208, 0, 12, 1631, 1633, 56, 206]), (4, .iload_n 1, 1, []), (5, .iconst (-1), 1, []), (6, .if_icmp .ne 11, 3, [17]), (9, .aload_n 0, 1, []), (10, .getfield 103, 3, [12, 12, 831]), (13, .invokevirtual 386, 3, []), (16, .ireturn, 1, []), (17, .iload_n 1, 1, []), (18, .ifCond .lt 25, 3, [43]), (21, .iload_n 1, 1, []), (22, .aload_n 0, 1, []), (23, .getfield 103, 3, [12, 12, 831]), (26, .invokevirtual 386, 3, []), (29, .if_icmp .ge 14, 3, [43]), (32, .aload_n 0, 1, []), (33, .getfield 103, 3, [12, 12, 831]), (36, .iload_n 1, 1, []), (37, .invokevirtual 388, 3, []), (40, .goto 4, 3, [44]), (43, .iconst (-1), 1, []), (44, .ireturn, 1, [])]
theorem kw_SH : rw_SH.all (q_rck q_mt 438 (q_mt nX11_sheet)) = true := by decide +kernel
noncomputable def rw_WP : List q_I := [(0, .aload_n 0, 1, []), (1, .getfield 103, 3, [12, 12, 831]), (4, .iconst 0, 1, []), (5, .invokevirtual 395, 3, []), (8, .iconst 0, 1, []), (9, .istore_n 1, 1, []), (10, .iload_n 1, 1, []), (11, .aload_n 0, 1, []), (12, .getfield 21, 3, [12, 1, 820]), (15, .getfield 186, 3, [3, 9, 423]), (18, .if_icmp .ge 152, 3, [170]), (21, .aload_n 0, 1, []), (22, .getfield 69, 3, [12, 8, 827]), (25, .iload_n 1, 1, []), (26, .invokevirtual 380, 3, [1, 106, 1, 7, 1622, 1623, 1624, 218]), (29, .istore_n 2, 1, []), (30, .iload_n 2, 1, []), (31, .iconst (-1), 1, []), (32, .if_icmp .ne 6, 3, [38]), (35, .goto 129, 3, [164]), (38, .aload_n 0, 1, []), (39, .getfield 40, 3, [12, 4, 823]), (42, .getfield 371, 3, [9, 6, 551]), (45, .iload_n 2, 1, []), (46, .iaload, 1, []), (47, .istore_n 3, 1, []), (48, .aload_n 0, 1, []), (49, .getfield 103, 3, [12, 12, 831]), (52, .aload_n 0, 1, []), (53, .getfield 69, 3, [12, 8, 827]), (56, .iload_n 2, 1, []), (57, .invokevirtual 377, 3, [1, 103, 1, 7, 1606, 1607, 1608, 218]), (60, .invokevirtual 398, 3, []), (63, .pop, 1, []), (64, .aload_n 0, 1, []), (65, .getfield 103, 3, [12, 12, 831]), (68, .bipush 32, 2, []), (70, .invokevirtual 402, 3, []), (73, .pop, 1, []), (74, .aload_n 0, 1, []), (75, .aload_n 0, 1, []), (76, .getfield 21, 3, [12, 1, 820]), (79, .getfield 405, 3, [3, 10, 426]), (82, .iload_n 2, 1, []), (83, .laload, 1, []), (84, .invokevirtual 409, 3, [1, 209, 1, 12, 1758, 1760, 57, 206]), (87, .aload_n 0, 1, []), (88, .getfield 103, 3, [12, 12, 831]), (91, .bipush 32, 2, []), (93, .invokevirtual 402, 3, []), (96, .pop, 1, []), (97, .aload_n 0, 1, []), (98, .getfield 103, 3, [12, 12, 831]), (101, .iload_n 3, 1, []), (102, .bipush 100, 2, []), (104, .idiv, 1, []), (105, .invokevirtual 398, 3, []), (108, .pop, 1, []), (109, .aload_n 0, 1, []), (110, .getfield 103, 3, [12, 12, 831]), (113, .bipush 46, 2, []), (115, .invokevirtual 402, 3, []), (118, .pop, 1, []), (119, .aload_n 0, 1, []), (120, .getfield 103, 3, [12, 12, 831]), (123, .bipush 48, 2, []), (125, .iload_n 3, 1, []), (126, .bipush 10, 2, []), (128, .idiv, 1, []), (129, .bipush 10, 2, []), (131, .irem, 1, []), (132, .iadd, 1, []), (133, .i2c, 1, []), (134, .invokevirtual 402, 3, []), (137, .pop, 1, []), (138, .aload_n 0, 1, []), (139, .getfield 103, 3, [12, 12, 831]), (142, .bipush 48, 2, []), (144, .iload_n 3, 1, []), (145, .bipush 10, 2, []), (147, .irem, 1, []), (148, .iadd, 1, []), (149, .i2c, 1, []), (150, .invokevirtual 402, 3, []), (153, .pop, 1, []), (154, .aload_n 0, 1, []), (155, .getfield 103, 3, [12, 12, 831]), (158, .bipush 59, 2, []), (160, .invokevirtual 402, 3, []), (163, .pop, 1, []), (164, .iinc 1 1, 3, []), (167, .goto (-157), 3, [10]), (170, .return_, 1, [])]
theorem kw_WP : rw_WP.all (q_rck q_mt 438 (q_mt nX11_writePage)) = true := by decide +kernel
noncomputable def rw_WN : List q_I := [(0, .bipush 6, 2, []), (2, .istore_n 3, 1, []), (3, .iload_n 3, 1, []), (4, .ifCond .lt 41, 3, [45]), (7, .lload_n 1, 1, []), (8, .iload_n 3, 1, []), (9, .iconst 5, 1, []), (10, .imul, 1, []), (11, .lshr, 1, []), (12, .l2i, 1, []), (13, .bipush 31, 2, []), (15, .iand, 1, []), (16, .istore 4, 2, []), (18, .iload 4, 2, []), (20, .ifCond .le 19, 3, [39]), (23, .aload_n 0, 1, []), (24, .getfield 103, 3, [12, 12, 831]), (27, .bipush 97, 2, []), (29, .iload 4, 2, []), (31, .iadd, 1, []), (32, .iconst 1, 1, []), (33, .isub, 1, []), (34, .i2c, 1, []), (35, .invokevirtual 402, 3, []), (38, .pop, 1, []), (39, .iinc 3 (-1), 3, []), (42, .goto (-39), 3, [3]), (45, .return_, 1, [])]
theorem kw_WN : rw_WN.all (q_rck q_mt 438 (q_mt nX11_writeName)) = true := by decide +kernel
theorem q_w2_okR {mt : Nat → q_Me} {Z : q_Z} {E : q_E} {mi d rc rs : Nat} {Y : Array Value → State → Outcome → State → Prop} {Q : Option Value → q_M → Prop} {cuts : List Nat} {RW : List q_I} (hall : q_al mt) (hQ : ∀ v M', Q v M' → q_Y Z E Y v M') (hrw : RW.all (q_rck mt 438 (mt mi)) = true) : ∀ (n : Nat) (rows : List q_I) (lv : q_L) (st : List Value) (M : q_M), (∀ r ∈ rows, r ∈ RW) → q_w2 mt Z E mi d rc rs Y Q cuts n rows lv st M → ∃ r rows', rows = r :: rows' ∧ q_G mt Z E mi d rc rs Y r.1 lv st M
  | 0, [], _, _, _, _, h => by unfold q_w2 at h; exact h.elim
  | n + 1, [], _, _, _, _, h => by unfold q_w2 at h; exact h.elim
  | 0, r :: rows, lv, st, M, _, h => ⟨r, rows, rfl, h⟩
  | n + 1, r :: rows, lv, st, M, hm, h => by
    refine ⟨r, rows, rfl, ?_⟩
    have hr := List.all_eq_true.mp hrw r (hm r List.mem_cons_self)
    unfold q_rck at hr
    rw [Bool.and_eq_true, Bool.and_eq_true] at hr
    refine q_stp_ok hall (of_decide_eq_true hr.1.1) hr.1.2 hr.2 hQ ?_ (q_st2_stp h)
    intro pc' lv' st' M' q
    cases hb : (Nat.ble pc' r.1 || q_has1 pc' cuts) with
    | true => rw [hb] at q; exact q
    | false =>
      rw [hb] at q
      obtain ⟨r', rows', e, G⟩ := q_w2_okR hall hQ hrw n (q_seek pc' rows) lv' st' M' (fun x hx => hm x (List.mem_cons_of_mem _ (q_seek_mem hx))) q
      rw [← q_seek_head e]
      exact G
/-- from a place on, over rows that are brought -/
theorem w_ar {Z : q_Z} {E : q_E} {mi d rc rs : Nat} {Q : Option Value → q_M → Prop} {pc : Nat} {lv : q_L} {st : List Value} {M : q_M} {RW : List q_I} (hrw : RW.all (q_rck q_mt 438 (q_mt mi)) = true) (n : Nat) (cuts : List Nat) (h : q_w2 q_mt Z E mi d rc rs (q_Q Z E Q) Q cuts n (q_seek pc RW) lv st M) : q_G q_mt Z E mi d rc rs (q_Q Z E Q) pc lv st M := by
  obtain ⟨r, rows', e, G⟩ := q_w2_okR q_ok (fun _ _ q => q_Y_Q q) hrw n _ lv st M (fun x hx => q_seek_mem hx) h
  rw [← q_seek_head e]
  exact G
theorem zb_shp {L : Nat} {xs : Nat → Int32} : zb_Z (L, xs, q_shp) := zb_Z.of (show q_shp[268]? = some (7, 0, 4, []) by decide +kernel) (show (q_shp.take 268).all (fun h => Nat.blt h.1 5) = true by decide +kernel) (show (q_shp.drop 269).all (fun h => Nat.blt h.1 5) = true by decide +kernel)
def roc (b m : Nat) : Nat := roC m - roC b
def ros (b m : Nat) : Nat := roS m - roS b
theorem ro_2 {m m' b : Nat} (h : m ≤ m') (h' : m' ≤ b) : ∃ c s, roc b m = roc b m' + c ∧ ros b m = ros b m' + s ∧ ∀ x, (x = 16 ∨ x = 34 ∨ x = 70) → m ≤ x → x < m' → 1 ≤ c ∧ 2 * x + 2 ≤ s := by
  obtain ⟨c, s, e1, e2, e3⟩ := ro_st h
  obtain ⟨c', s', g1, g2, -⟩ := ro_st h'
  exact ⟨c, s, by unfold roc; omega, by unfold ros; omega, e3⟩
theorem ro_3 {m m' b : Nat} (h : m ≤ m') (h' : m' ≤ b) : roc b m = roc b m' + roc m' m ∧ ros b m = ros b m' + ros m' m := by
  obtain ⟨c, s, e1, e2, -⟩ := ro_st h
  obtain ⟨c', s', g1, g2, -⟩ := ro_st h'
  unfold roc ros
  exact ⟨by omega, by omega⟩
section SC
variable {L : Nat} {xs : Nat → Int32} {E : q_E} {d : Nat} {M : q_M} {mi pc b : Nat} {rest : List Value} {lv : q_L} {T : List Nat} {Y : Array Value → State → Outcome → State → Prop}
theorem w_apc {ch : Nat} {y : Int32} (hE : zb_E E) (hT : sbT M T) (hb : (T ++ [ch]).length ≤ b) (hb2 : b ≤ 142) (hch : ch < 128) (hy : y = nI ch) (h1 : Cond.methodLink (q_mt mi).1 402 j_sbc.2.1 ∈ q_wT) (hd : decode (q_mt mi).2.2.1 pc = .ok (.invokevirtual 402, 3)) (kk : ∀ M', q_fs [270] [] M M' → sbT M' (T ++ [ch]) → q_G q_mt (L, xs, q_shp) E mi (d + 6) (roc b (T ++ [ch]).length) (ros b (T ++ [ch]).length) Y (pc + 3) lv [.ref 270] M') : q_G q_mt (L, xs, q_shp) E mi (d + 6) (roc b T.length) (ros b T.length) Y pc lv [.int y, .ref 270] M := by
  subst hy
  have el : (T ++ [ch]).length = T.length + 1 := by rw [List.length_append]; rfl
  obtain ⟨c, s, e1, e2, hr⟩ := ro_2 (m := T.length) (m' := (T ++ [ch]).length) (b := b) (by omega) hb
  rw [e1, e2]
  rw [el] at hr hb
  exact q_invS (as := [.int (nI ch)]) (rest := []) (mj := j_sbc) zb_shp (j_sbc_ok (d := d) hE zb_shp hT.1 hT.2.1 (by omega) hch hr) rfl h1 (q_in_mem (j := 1727) (by decide +kernel)) (q_in_mem (j := 1728) (by decide +kernel)) (q_in_mem (j := 1729) (by decide +kernel)) (show q_yok j_sbc 1 = true by decide +kernel) (Nat.le_of_ble_eq_true rfl) (Nat.zero_le _) hd (fun v M1 hq => ⟨some (.ref 270), hq.1, by rw [hq.2]; exact kk _ zbM_fs hT.app⟩)
theorem w_api {v : Nat} {y : Int32} (hE : zb_E E) (hT : sbT M T) (hb : (T ++ dgL v).length ≤ b) (hb2 : b ≤ 142) (hv : v < 1100) (hy : y = nI v) (h1 : Cond.methodLink (q_mt mi).1 398 j_sbn.2.1 ∈ q_wT) (hd : decode (q_mt mi).2.2.1 pc = .ok (.invokevirtual 398, 3)) (kk : ∀ M', q_fs [270] [] M M' → sbT M' (T ++ dgL v) → q_G q_mt (L, xs, q_shp) E mi (d + 6) (roc b (T ++ dgL v).length) (ros b (T ++ dgL v).length) Y (pc + 3) lv [.ref 270] M') : q_G q_mt (L, xs, q_shp) E mi (d + 6) (roc b T.length) (ros b T.length) Y pc lv [.int y, .ref 270] M := by
  subst hy
  have el : (T ++ dgL v).length = T.length + (dgL v).length := by rw [List.length_append]
  obtain ⟨c, s, e1, e2, hr⟩ := ro_2 (m := T.length) (m' := (T ++ dgL v).length) (b := b) (by omega) hb
  rw [e1, e2]
  rw [el] at hr hb
  exact q_invS (as := [.int (nI v)]) (rest := []) (mj := j_sbn) zb_shp (j_sbn_ok (d := d) hE zb_shp hT.1 hT.2.1 hv (by omega) hr) rfl h1 (q_in_mem (j := 1690) (by decide +kernel)) (q_in_mem (j := 1691) (by decide +kernel)) (q_in_mem (j := 1692) (by decide +kernel)) (show q_yok j_sbn 1 = true by decide +kernel) (Nat.le_of_ble_eq_true rfl) (Nat.zero_le _) hd (fun w M1 hq => ⟨some (.ref 270), hq.1, by rw [hq.2]; exact kk _ zbM_fs hT.app⟩)
theorem w_clr {rc rs : Nat} (hE : zb_E E) (h0 : M.1 270 0 = 1) (h1 : Cond.methodLink (q_mt mi).1 395 j_sbs.2.1 ∈ q_wT) (hd : decode (q_mt mi).2.2.1 pc = .ok (.invokevirtual 395, 3)) (kk : ∀ M', q_fs [270] [] M M' → sbT M' [] → q_G q_mt (L, xs, q_shp) E mi (d + 6) rc rs Y (pc + 3) lv [] M') : q_G q_mt (L, xs, q_shp) E mi (d + 6) rc rs Y pc lv [.int 0, .ref 270] M :=
  q_invS (as := [.int 0]) (rest := []) (c1 := 0) (s1 := 0) (mj := j_sbs) zb_shp (j_sbs_ok (d := d + 3) hE zb_shp h0) rfl h1 (q_in_mem (j := 1636) (by decide +kernel)) (q_in_mem (j := 1637) (by decide +kernel)) (q_in_mem (j := 1638) (by decide +kernel)) (show q_yok j_sbs 1 = true by decide +kernel) (Nat.le_of_ble_eq_true rfl) (Nat.zero_le _) hd (fun v M1 hq => ⟨none, hq.1, by
    rw [hq.2]
    exact kk _ (q_fs.si rfl) ⟨(q_si_n (by omega)).trans h0, q_si_s, fun i hi => absurd hi (Nat.not_lt_zero _)⟩⟩)
theorem w_sln {rc rs : Nat} (hE : zb_E E) (hT : sbT M T) (h1 : Cond.methodLink (q_mt mi).1 386 j_sbl.2.1 ∈ q_wT) (hroom : (rest.map fun v => v.category).sum ≤ 8) (hd : decode (q_mt mi).2.2.1 pc = .ok (.invokevirtual 386, 3)) (kk : q_G q_mt (L, xs, q_shp) E mi (d + 6) rc rs Y (pc + 3) lv (.int (nI T.length) :: rest) M) : q_G q_mt (L, xs, q_shp) E mi (d + 6) rc rs Y pc lv (.ref 270 :: rest) M :=
  q_invS (as := []) (rest := rest) (c1 := 0) (s1 := 0) (mj := j_sbl) zb_shp (j_sbl_ok (d := d + 4) hE zb_shp hT.1 hT.2.1) rfl h1 (q_in_mem (j := 1763) (by decide +kernel)) (q_in_mem (j := 1764) (by decide +kernel)) (q_in_mem (j := 1765) (by decide +kernel)) (show q_yok j_sbl 0 = true by decide +kernel) (Nat.le_of_ble_eq_true rfl) hroom hd (fun v M1 hq => ⟨some (.int (nI T.length)), hq.1, by rw [hq.2]; exact kk⟩)
theorem w_sca {rc rs i : Nat} (hE : zb_E E) (hT : sbT M T) (hl : T.length ≤ 142) (hi : i < T.length) (hc : T.getD i 0 < 128) (h1 : Cond.methodLink (q_mt mi).1 388 j_sba.2.1 ∈ q_wT) (hd : decode (q_mt mi).2.2.1 pc = .ok (.invokevirtual 388, 3)) (kk : q_G q_mt (L, xs, q_shp) E mi (d + 6) rc rs Y (pc + 3) lv [.int (nI (T.getD i 0))] M) : q_G q_mt (L, xs, q_shp) E mi (d + 6) rc rs Y pc lv [.int (nI i), .ref 270] M :=
  q_invS (as := [.int (nI i)]) (rest := []) (c1 := 0) (s1 := 0) (mj := j_sba) zb_shp (j_sba_ok (d := d + 2) hE zb_shp hT.1 hT.2.1 hl hi hc (hT.2.2 i hi)) rfl h1 (q_in_mem (j := 1770) (by decide +kernel)) (q_in_mem (j := 1771) (by decide +kernel)) (q_in_mem (j := 1772) (by decide +kernel)) (show q_yok j_sba 1 = true by decide +kernel) (Nat.le_of_ble_eq_true rfl) (Nat.zero_le _) hd (fun v M1 hq => ⟨some (.int (nI (T.getD i 0))), hq.1, by rw [hq.2]; exact kk⟩)
end SC
