/-! the class's constructor, put together (written by wip/whole/gen10.py) -/
set_option maxRecDepth 100000 in
set_option maxHeartbeats 4000000 in
theorem d_ctor {L : Nat} {xs : Nat → Int32} {E : q_E} {d : Nat} (hE : zb_E E) : w_ctor L xs E (fun M => M = d_M13) (d + 6) 600 30000 := by
  have h270 : E.2.2.2.2.1 = 270 := congrArg Prod.fst hE
  unfold w_ctor
  refine k_en (Nat.le_of_ble_eq_true rfl) rfl ?_
  refine k_go (Nat.le_of_ble_eq_true rfl) 1 1 ?_
  refine q_obj (q_in_mem (j := 236) (by decide +kernel)) q_ko_i q_ko_c (by decide) (q_decI (Nat.le_of_ble_eq_true rfl) (List.mem_of_getElem? (i := 1) rfl)) ?_
  refine d_s0 (M := d_M0) (rc := 597) (rs := 28755) (by skip; exact h270) d_z0 (fun E0 e0 => ?_)
  refine d_s1 (M := d_M1) (rc := 579) (rs := 27308) (by rw [e0.2]; exact h270) d_z1 (fun E1 e1 => ?_)
  refine d_s2 (M := d_M2) (rc := 561) (rs := 25861) (by rw [e1.2, e0.2]; exact h270) d_z2 (fun E2 e2 => ?_)
  refine d_s3 (M := d_M3) (rc := 560) (rs := 25859) (by rw [e2.2, e1.2, e0.2]; exact h270) d_z3 (fun E3 e3 => ?_)
  refine d_s4 (M := d_M4) (rc := 552) (rs := 25207) (by rw [e3.2, e2.2, e1.2, e0.2]; exact h270) d_z4 (fun E4 e4 => ?_)
  refine d_s5 (M := d_M5) (rc := 535) (rs := 23901) (by rw [e4.2, e3.2, e2.2, e1.2, e0.2]; exact h270) d_z5 (fun E5 e5 => ?_)
  refine d_s6 (M := d_M6) (rc := 365) (rs := 10185) (by rw [e5.2, e4.2, e3.2, e2.2, e1.2, e0.2]; exact h270) d_z6 (fun E6 e6 => ?_)
  refine d_s7 (M := d_M7) (rc := 361) (rs := 10139) (by rw [e6.2, e5.2, e4.2, e3.2, e2.2, e1.2, e0.2]; exact h270) d_z7 (fun E7 e7 => ?_)
  refine d_s8 (M := d_M8) (rc := 359) (rs := 10129) (by rw [e7.2, e6.2, e5.2, e4.2, e3.2, e2.2, e1.2, e0.2]; exact h270) d_z8 (fun E8 e8 => ?_)
  refine d_s9 (M := d_M9) (rc := 352) (rs := 4980) (by rw [e8.2, e7.2, e6.2, e5.2, e4.2, e3.2, e2.2, e1.2, e0.2]; exact h270) d_z9 (fun E9 e9 => ?_)
  refine d_s10 (M := d_M10) (rc := 347) (rs := 4131) (by rw [e9.2, e8.2, e7.2, e6.2, e5.2, e4.2, e3.2, e2.2, e1.2, e0.2]; exact h270) d_z10 (fun E10 e10 => ?_)
  refine d_s11 (M := d_M11) (rc := 333) (rs := 3431) (by rw [e10.2, e9.2, e8.2, e7.2, e6.2, e5.2, e4.2, e3.2, e2.2, e1.2, e0.2]; exact h270) d_z11 (fun E11 e11 => ?_)
  refine d_s12 (M := d_M12) (rc := 331) (rs := 3411) (by unfold zb_E; rw [e11.2, e10.2, e9.2, e8.2, e7.2, e6.2, e5.2, e4.2, e3.2, e2.2, e1.2, e0.2]; exact hE) d_z12 (fun E12 e12 => ?_)
  exact q_Y_K (Z := (L, xs, q_shp.take 269)) ⟨fun k hk => (((((((((((((e12.1 k hk).trans (e11.1 k hk)).trans (e10.1 k hk)).trans (e9.1 k hk)).trans (e8.1 k hk)).trans (e7.1 k hk)).trans (e6.1 k hk)).trans (e5.1 k hk)).trans (e4.1 k hk)).trans (e3.1 k hk)).trans (e2.1 k hk)).trans (e1.1 k hk)).trans (e0.1 k hk)), ((((((((((((e12.2.trans e11.2).trans e10.2).trans e9.2).trans e8.2).trans e7.2).trans e6.2).trans e5.2).trans e4.2).trans e3.2).trans e2.2).trans e1.2).trans e0.2)⟩ ⟨rfl, rfl⟩ ⟨rfl, ((((((((((((e12.2.trans e11.2).trans e10.2).trans e9.2).trans e8.2).trans e7.2).trans e6.2).trans e5.2).trans e4.2).trans e3.2).trans e2.2).trans e1.2).trans e0.2), d_z13, rfl⟩
