/-! THE WHOLE, out of what is still owed (open: the class's constructor, the calls) -/
/-- the class's constructor, from a place with nothing but the new object in it -/
def w_ctor (L : Nat) (xs : Nat → Int32) (E : q_E) (I0 : q_M → Prop) (d rc rs : Nat) : Prop := q_CK q_mt (q_more (L, xs, []) (0, 12, 17, List.replicate 17 none)) E nX11_init d rc rs [.ref 2] (fun _ _ => 0, fun _ _ => 0) (fun Z' E' M' => Z' = (L, xs, q_shp.take 269) ∧ E'.2 = E.2 ∧ q_zero M' 271 ∧ I0 M')
def w_Y : Array Value → State → Outcome → State → Prop := fun _ _ o _ => o = .returned (some (.int 1))
/-- memory behind the reference's constructor -/
def w_M (M : q_M) : q_M := M
section WO
variable {L : Nat} {xs : Nat → Int32} {E : q_E} {I0 : q_M → Prop} {I : Nat → q_M → Prop}
theorem w_goL {Z : q_Z} {d rc rs pc : Nat} {lv : q_L} {st : List Value} {M : q_M} {Y : Array Value → State → Outcome → State → Prop} (n c : Nat) (h : q_wp q_mt Z E nL_law d rc rs Y (fun _ _ => False) [c] n (q_seek pc rL_law) lv st M) : q_G q_mt Z E nL_law d rc rs Y pc lv st M :=
  q_goY q_ok (fun _ _ h => h.elim) kaL_law n [c] h
set_option maxRecDepth 1000000 in
set_option maxHeartbeats 10000000 in
theorem w_body {d rc rs : Nat} (hL : L ≤ 3072) (hE : E.2.2.2.2.1 = 270) (hctor : ∀ E', E'.2 = E.2 → w_ctor L xs E' I0 (d + 1) 600 30000)
    (hmod : ∀ E' M, E'.2 = E.2 → I0 M → q_zero M 271 → q_CK q_mt (q_more (L, xs, q_shp.take 269) (0, 13, 49, List.replicate 49 none)) E' nX12_init (d + 1) 28 27182 [.ref 271] M (fun Z' E'' M' => Z' = (L, xs, q_shp) ∧ E''.2 = E.2 ∧ I 0 M'))
    (hskip : ∀ t, 6 * t + 6 ≤ L → ∀ M, I t M → I (t + 1) M) (hops : ∀ E', E'.2 = E.2 → ∀ t, 6 * t + 6 ≤ L → q_ops (L, xs, q_shp) E' (I t) (I (t + 1)) (d + 1)) :
    q_G q_mt (L, xs, []) E nL_law (d + 2) (rc + 4 * 512 + 28 + 1 + 600 + 1) (rs + 600 * 512 + 27182 + 49 + 30000 + 17) w_Y 0 (q_lv0 4 [.ref 0]) [] (fun _ _ => 0, fun _ _ => 0) := by
  refine q_new (rc := rc + 4 * 512 + 28 + 1 + 600) (rs := rs + 600 * 512 + 27182 + 49 + 30000) (show vwCl[12]? = some (RX11, TX11, 17) from rfl) (q_in_mem (j := 231) (by decide +kernel)) (q_in_mem (j := 232) (by decide +kernel)) (q_in_mem (j := 206) (by decide +kernel)) ⟨rfl, rfl, (fun h hh => by cases hh), by rw [hE]; show ¬ (270 : Nat) = 2; decide, fun _ _ _ => ⟨rfl, rfl⟩⟩ (q_decL (List.mem_of_getElem? (i := 0) rfl)) (fun E1 e1 => ?_)
  refine w_goL 1 4 ?_
  refine q_ini (rc := rc + 4 * 512 + 28 + 1) (rs := rs + 600 * 512 + 27182 + 49) (c1 := 600) (s1 := 30000) (as := []) (r := 2) (hctor E1 e1.2) rfl rfl (q_in_mem (j := 233) (by decide +kernel)) (q_in_mem (j := 234) (by decide +kernel)) (q_in_mem (j := 206) (by decide +kernel)) (q_ok.1 nX11_init (Nat.le_of_ble_eq_true rfl)).2.2.1 (q_yok.el (show q_yok (q_mt nX11_init) 0 = true by decide +kernel)) (q_ok.1 nX11_init (Nat.le_of_ble_eq_true rfl)).2.2.2.1 (Nat.le_of_ble_eq_true rfl) rfl rfl (q_decL (List.mem_of_getElem? (i := 2) rfl)) (fun Z' E2 M2 e2 hq => ?_)
  obtain ⟨rfl, e2', hz2, hI2⟩ := hq
  have e20 : E2.2 = E.2 := e2'.trans e1.2
  refine q_ast (k := 1) (q_decL (List.mem_of_getElem? (i := 3) rfl)) (by decide) ?_
  refine q_new (rc := rc + 4 * 512 + 28) (rs := rs + 600 * 512 + 27182) (show vwCl[13]? = some (RX12, TX12, 49) from rfl) (q_in_mem (j := 1962) (by decide +kernel)) (q_in_mem (j := 1963) (by decide +kernel)) (q_in_mem (j := 224) (by decide +kernel)) ⟨rfl, rfl, ?_, by rw [e20, hE]; show ¬ (270 : Nat) = 271; decide, hz2⟩ (q_decL (List.mem_of_getElem? (i := 4) rfl)) (fun E3 e3 => ?_)
  · show ∀ h ∈ q_shp.take 269, q_wr 271 h.2.2.2 = true
    decide +kernel
  refine w_goL 1 12 ?_
  refine q_ini (rc := rc + 4 * 512) (rs := rs + 600 * 512) (c1 := 28) (s1 := 27182) (as := []) (r := 271) (hmod E3 M2 (e3.2.trans e20) hI2 hz2) rfl rfl (q_in_mem (j := 1964) (by decide +kernel)) (q_in_mem (j := 1965) (by decide +kernel)) (q_in_mem (j := 224) (by decide +kernel)) (q_ok.1 nX12_init (Nat.le_of_ble_eq_true rfl)).2.2.1 (q_yok.el (show q_yok (q_mt nX12_init) 0 = true by decide +kernel)) (q_ok.1 nX12_init (Nat.le_of_ble_eq_true rfl)).2.2.2.1 (Nat.le_of_ble_eq_true rfl) rfl rfl (q_decL (List.mem_of_getElem? (i := 6) rfl)) (fun Z'' E4 M4 e4 hq4 => ?_)
  obtain ⟨rfl, e4', hI4⟩ := hq4
  refine q_ast (k := 2) (q_decL (List.mem_of_getElem? (i := 7) rfl)) (by decide) ?_
  refine w_goL 2 18 ?_
  exact law_loop hL (fun M => fun _ _ _ _ _ => rfl) hskip (hops E4 e4') 512 0 M4 (by omega) (by omega) hI4
end WO
