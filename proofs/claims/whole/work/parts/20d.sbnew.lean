/-! the StringBuilder is made; calls of its methods out of the pure walk -/
section S7
variable {mt : Nat → q_Me} {Z : q_Z} {E : q_E} {mi d rc rs c1 s1 : Nat} {Q1 : Option Value → q_M → Prop} {Y : Array Value → State → Outcome → State → Prop} {pc idx : Nat} {lv : q_L} {as rest st : List Value} {M : q_M}
theorem q_new7 (hE : zb_E E) (hlen : Z.2.2.length = 268) (hk : Z.2.2.all (fun h => Nat.blt h.1 5) = true) (h0 : M.1 270 0 = 0) (h1 : Cond.classLink (mt mi).1 idx sbC ∈ q_wT) (hol : q_ol 270 lv = true) (hos : q_os 270 st = true) (hw : q_wf Z.2.2 270) (hd : decode (mt mi).2.2.1 pc = .ok (.new idx, 3))
    (kk : ∀ E', q_ext 270 E E' → q_G mt (q_more Z (7, 0, 4, [])) E' mi d rc rs Y (pc + 3) lv (.ref 270 :: st) (q_si M 270 0 2)) : q_G mt Z E mi d (rc + 1) (rs + 4) Y pc lv st M := by
  intro l p e R s m args below meth c H locs cells slots ls A hl hR hcc hss
  obtain ⟨hK, ⟨sv, X, hP, hD, hSB⟩, hS, hX, hz, hEv, hN⟩ := hR
  rw [hE.P] at hSB
  obtain ⟨rfl, rfl⟩ := hSB.2.2 h0
  have hv : vwCl[0]? = some (RJ4, TJ4, 4) := rfl
  obtain ⟨ty0, hws, hty0, hnm⟩ := q_cls hv
  refine va_new (D := E.2.1) (ci := 0) A.1 A.2.1 (Ts := q_wT) (fun w h => q_word A h) hws ty0 hty0 A.2.2.2.2.1 (q_word A h1) (q_word A (q_in_mem (j := 790) (by decide +kernel))) (q_word A (q_in_mem (j := 223) (by decide +kernel))) hK hP hD hS (fun q hq => Nat.le_trans hz hq) hv (fs := zb_0) (fun j hj => ?_) (by omega) (by omega) hd (fun q H1 hP1 hD1 hS1 => ?_)
  · have e1 := q_dflt hv j hj
    rw [hty0 j hj] at e1
    have e2 : defaultValue (ty0 j) = q_fv (fun k => k) (q_fk 0 j) 0 0 none := Option.some.inj e1
    rw [e2]
    unfold vp_V
    match j, hj with
    | 0, _ => rfl
    | 1, _ => rfl
    | 2, _ => rfl
    | 3, _ => rfl
  · have he := q_put.ext (E := E) (n := 270) (q := q)
    have e1 : q_wl (q_more Z (7, 0, 4, [])) (q_put E 270 q) (q_si M 270 0 2) zb_0 = q_wl Z E M [] ++ [(q, .inr (0, zb_0))] := by
      rw [q_wl.more, hlen]
      have e2 : (q_put E 270 q).1 (268 + 2) = q := q_put.at (n := 270)
      rw [e2, q_wl.ext (by rw [hlen]; exact he) (by rw [hlen]; exact hw)]
      congr 1
      unfold q_wl
      apply List.ext_getElem?
      intro j
      rw [List.getElem?_mapIdx, List.getElem?_mapIdx]
      cases hj : Z.2.2[j]? with
      | none => rfl
      | some g =>
        have hg : g.1 < 5 := Nat.le_of_ble_eq_true (List.all_eq_true.mp hk g (List.mem_of_getElem? hj))
        have hjl := (List.getElem?_eq_some_iff.mp hj).1
        show some (E.1 (j + 2), q_ent E (q_si M 270 0 2) zb_0 (j + 2) g) = some (E.1 (j + 2), q_ent E M [] (j + 2) g)
        rw [zb_ent (M' := M) (sv' := []) hg (q_si_ne (by omega)).symm rfl]
    have e0 : (q_put E 270 q).1 0 = E.1 0 := he.1 0 (by omega)
    have hM' : (q_si M 270 0 2).1 270 0 = 2 := zb_ss
    have hR' : q_R (q_more Z (7, 0, 4, [])) (q_put E 270 q) (q_si M 270 0 2) s H1 locs := by
      refine ⟨hK, ⟨zb_0, [], ?_, ?_, ?_⟩, hS1, ?_, hz, ⟨?_, hEv.2.1, fun h hc => ?_⟩, hN⟩
      · rw [e1, List.append_nil]
        rw [List.append_nil] at hP1
        exact hP1
      · rw [e1, List.append_nil]
        rw [List.append_nil] at hD1
        exact hD1
      · show E.2.2.2.2.2 (q_si M 270 0 2) zb_0 []
        rw [hE.P]
        refine ⟨fun h => ?_, fun _ => ⟨rfl, rfl⟩, fun h => ?_⟩
        · rw [hM'] at h
          exact absurd h (by decide)
        · rw [hM'] at h
          exact absurd h (by decide)
      · exact q_X.ext hX e0 (he.1 1 (by omega)) he.2 rfl rfl
      · rw [e0]
        exact hEv.1
      · rcases q_cell.more hc with h1 | h1
        · exact hEv.2.2 h h1
        · rw [h1.2]
    have K := kk _ he l p e R s m args below meth c H1 locs (cells + 1) (slots + 4) ls A (q_has.ext he hol hl) hR' (by omega) (by omega)
    rw [show (cells + 1 + rc) = cells + (rc + 1) by omega, show (slots + 4 + rs) = slots + (rs + 4) by omega, List.map_cons, q_os.vm he hos] at K
    have e3 : q_vm (q_put E 270 q).1 (.ref 270) = .ref q := by
      show Value.ref ((q_put E 270 q).1 270) = _
      rw [q_put.at]
    rw [e3] at K
    exact K
/-- a constructor of the JDK's -/
theorem q_iniD {mj : q_Me} {r : Nat} (hM : q_D mj Z E d c1 s1 (.ref (E.1 r) :: as.map (q_vm E.1)) M Q1) (hn1 : mj.2.1.name = "<init>") (hrn : mj.2.2.2.2.1 = none)
    (h1 : Cond.methodLink (mt mi).1 idx mj.2.1 ∈ q_wT) (h2 : Cond.instanceMethod mj.2.1 ∈ q_wT) (h4 : Cond.initialized mj.2.1.cls ∈ q_wT) (h5 : Cond.code mj.2.1 mj.2.2.1 mj.2.2.2.1 mj.2.2.2.2.1 ∈ q_wT)
    (hy : q_yok mj as.length = true) (hL : mj.2.2.2.1 ≤ 45) (hroom : (rest.map fun v => v.category).sum ≤ 8) (hd : decode (mt mi).2.2.1 pc = .ok (.invokespecial idx, 3))
    (kk : ∀ (v : Option Value) (M1 : q_M), Q1 v M1 → v = none ∧ q_G mt Z E mi (d + 1) rc rs Y (pc + 3) lv rest M1) : q_G mt Z E mi (d + 1) (rc + c1) (rs + s1) Y pc lv (as.reverse ++ .ref r :: rest) M := by
  intro l p e R s m args below meth c H locs cells slots ls A hl hR hcc hss
  have hcat : ((rest.map (q_vm E.1)).map fun v => v.category).sum ≤ 8 := by
    rw [List.map_map, show ((fun v => Value.category v) ∘ q_vm E.1) = (fun v => v.category) from funext (fun v => q_vm_cat E.1 v)]
    exact hroom
  have h := q_D.ini (me := mt mi) (b := E.1 r) (as := as.map (q_vm E.1)) (rest := rest.map (q_vm E.1)) (l := l) (e := e) (below := below) (meth := meth) (cells := cells) (slots := slots) (Q' := MQ below Y args s (cells + (rc + c1)) (slots + (rs + s1)) (q_A E)) A hl.1 hR hM hn1 hrn h1 h2 h4 h5 (by rw [List.length_map]; exact hy) hL hcat hd ⟨by omega, by omega⟩ (fun v M1 H1 locs1 hq hR1 => by
    obtain ⟨rfl, K⟩ := kk v M1 hq
    have K := K l p e R s m args below meth c H1 locs1 (cells + c1) (slots + s1) ls A hl hR1 (by omega) (by omega)
    rw [show (cells + c1 + rc) = cells + (rc + c1) by omega, show (slots + s1 + rs) = slots + (rs + s1) by omega] at K
    exact K)
  rw [List.map_append, List.map_reverse]
  exact h
/-- a call of one of the StringBuilder's methods; cells may come -/
theorem q_invS {mj : q_Me} (hz : zb_Z Z) (hM : q_D mj Z E d c1 s1 (.ref (E.1 270) :: as.map (q_vm E.1)) M Q1) (hC : mj.2.1.cls = sbC)
    (h1 : Cond.methodLink (mt mi).1 idx mj.2.1 ∈ q_wT) (h2 : Cond.instanceMethod mj.2.1 ∈ q_wT) (h3 : Cond.selects sbC mj.2.1 mj.2.1 ∈ q_wT) (h5 : Cond.code mj.2.1 mj.2.2.1 mj.2.2.2.1 mj.2.2.2.2.1 ∈ q_wT)
    (hy : q_yok mj as.length = true) (hL : mj.2.2.2.1 ≤ 45) (hroom : (rest.map fun v => v.category).sum ≤ 8) (hd : decode (mt mi).2.2.1 pc = .ok (.invokevirtual idx, 3))
    (kk : ∀ (v : Option Value) (M1 : q_M), Q1 v M1 → ∃ w : Option Value, v = w.map (q_vm E.1) ∧ q_G mt Z E mi (d + 1) rc rs Y (pc + 3) lv (w.toList ++ rest) M1) : q_G mt Z E mi (d + 1) (rc + c1) (rs + s1) Y pc lv (as.reverse ++ .ref 270 :: rest) M := by
  intro l p e R s m args below meth c H locs cells slots ls A hl hR hcc hss
  have hcat : ((rest.map (q_vm E.1)).map fun v => v.category).sum ≤ 8 := by
    rw [List.map_map, show ((fun v => Value.category v) ∘ q_vm E.1) = (fun v => v.category) from funext (fun v => q_vm_cat E.1 v)]
    exact hroom
  have h := q_D.inv (me := mt mi) (C := sbC) (b := E.1 270) (as := as.map (q_vm E.1)) (rest := rest.map (q_vm E.1)) (l := l) (e := e) (below := below) (meth := meth) (cells := cells) (slots := slots) (Q' := MQ below Y args s (cells + (rc + c1)) (slots + (rs + s1)) (q_A E)) A hl.1 hR hM (zb_rec hR hz) hC h1 h2 h3 (q_in_mem (j := 223) (by decide +kernel)) h5 (by rw [List.length_map]; exact hy) hL hcat hd ⟨by omega, by omega⟩ (fun v M1 H1 locs1 hq hR1 => by
    obtain ⟨w, rfl, K⟩ := kk v M1 hq
    have K := K l p e R s m args below meth c H1 locs1 (cells + c1) (slots + s1) ls A hl hR1 (by omega) (by omega)
    rw [show (cells + c1 + rc) = cells + (rc + c1) by omega, show (slots + s1 + rs) = slots + (rs + s1) by omega, List.map_append] at K
    cases w <;> exact K)
  rw [List.map_append, List.map_reverse]
  exact h
end S7
