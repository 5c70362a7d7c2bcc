/-- the law from its entry: what is still owed are the invariant behind the two constructors (hI) and the 52 calls (hops) -/
theorem whole_open {p : Program} {e : Env} {s : State} {m : MethodId} {below : List Frame} {meth : Method} {c : Code} (l : Launch) {a v b L : Nat} {xs : Nat → Int32} (hL : L ≤ 3072) (hJ : q_J (fun q => s.heap.size ≤ q) a v s s.heap) (C0 : lw_At p s m meth c b L xs) {I : Nat → q_M → Prop}
    (hI : I 0 (w_modM d_M13)) (hskip : ∀ t, 6 * t + 6 ≤ L → ∀ M, I t M → I (t + 1) M) (hops : ∀ E : q_E, zb_E E → ∀ t, 6 * t + 6 ≤ L → q_ops (L, xs, q_shp) E (I t) (I (t + 1)) 1299) :
    W p l e room_1 s m #[Value.ref b] below meth c s.heap [] 0 0 (lw_Z below #[Value.ref b] s) (entryFrame m ([Value.ref b] : List Value).toArray 4) := by
  obtain ⟨hx, hcode, hret, hml, hown, hts, hX, hbl, hlocks, hgv⟩ := C0
  obtain ⟨E, e0, e1, e2, hR⟩ := w_env hJ hts hX hbl
  have hsb : ∀ E' : q_E, E'.2 = E.2 → zb_E E' := fun E' h => by
    unfold zb_E
    rw [h]
    exact e2
  have h270 : E.2.2.2.2.1 = 270 := congrArg Prod.fst e2
  have K := w_body (rc := 597322) (rs := 6937802) (d := 1298) (I0 := fun M => M = d_M13) (I := I) (E := E) hL h270 (fun E' h => d_ctor (d := 1293) (hsb E' h)) (fun E' M h h1 h2 => (by
    subst h1
    exact (w_mod (d := 1298) (L := L) (xs := xs) (by rw [h]; exact h270) h2).mono (fun Z' E'' M' q => ⟨q.1, q.2.1.trans h, by rw [q.2.2]; exact hI⟩))) hskip (fun E' h => hops E' (hsb E' h))
  rw [lg_entry_eq]
  have hl := lv_entry ([Value.ref b]) (n := 4) (Nat.le_of_ble_eq_true rfl)
  have eb : ([Value.ref 0].map (q_vm E.1)) = [Value.ref b] := by
    show [Value.ref (E.1 0)] = _
    rw [e0]
  refine w_mono (fun t ht => w_mq (E := E) (C := 0 + 600000) (S := 0 + 7302250) e1 (by decide) (by decide) ht) ?_
  exact K l p e room_1 s m #[Value.ref b] below meth c s.heap [] 0 0 _ ⟨hx, hcode, hret, hml, hown, w_wT hts, ⟨hlocks, fun h => absurd h (by decide)⟩, by decide, by decide⟩ (q_has0 (as := [.ref 0]) (by rw [eb]; exact hl)) hR (by decide) (by decide)
