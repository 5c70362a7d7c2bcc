/-- the law from its entry: what is still owed are the class's constructor (hctor), what the reference's constructor leaves (hmod), and the 52 calls (hops) -/
theorem whole_open {p : Program} {e : Env} {s : State} {m : MethodId} {below : List Frame} {meth : Method} {c : Code} (l : Launch) {a v b L : Nat} {xs : Nat → Int32} (hL : L ≤ 3072) (hJ : q_J (fun q => s.heap.size ≤ q) a v s s.heap) (C0 : lw_At p s m meth c b L xs)
    (SB : q_M → List Value → va_W → Prop) (hSB : ∀ M, SB M [] []) (hSBc : ∀ (M M' : q_M) (sv : List Value) (X : va_W), (∀ i, M'.1 270 i = M.1 270 i) → SB M sv X → SB M' sv X) {I0 I : q_M → Prop}
    (hctor : ∀ E : q_E, E.2.2.2.2 = (270, SB) → w_ctor L xs E I0 1299 600 30000)
    (hmod : ∀ (E : q_E) (M : q_M), E.2.2.2.2 = (270, SB) → I0 M → q_zero M 271 → q_CK q_mt (q_more (L, xs, q_shp.take 269) (0, 13, 49, List.replicate 49 none)) E nX12_init 1299 28 27182 [.ref 271] M (fun Z' E'' M' => Z' = (L, xs, q_shp) ∧ E''.2 = E.2 ∧ I M'))
    (hops : ∀ E : q_E, E.2.2.2.2 = (270, SB) → q_ops (L, xs, q_shp) E I 1299) :
    W p l e room_1 s m #[Value.ref b] below meth c s.heap [] 0 0 (lw_Z below #[Value.ref b] s) (entryFrame m ([Value.ref b] : List Value).toArray 4) := by
  obtain ⟨hx, hcode, hret, hml, hown, hts, hX, hbl, hlocks, hgv⟩ := C0
  obtain ⟨E, e0, e1, e2, hR⟩ := w_env hJ hts hX hbl SB hSB hSBc
  have K := w_body (rc := 599370) (rs := 7245002) (d := 1298) (I0 := I0) (I := I) (E := E) hL (by rw [e2]) (fun E' h => hctor E' (by rw [h]; exact e2)) (fun E' M h h1 h2 => (by
    have h3 := hmod E' M (by rw [h]; exact e2) h1 h2
    rw [h] at h3
    exact h3)) (fun E' h => hops E' (by rw [h]; exact e2))
  rw [lg_entry_eq]
  have hl := lv_entry ([Value.ref b]) (n := 4) (Nat.le_of_ble_eq_true rfl)
  have eb : ([Value.ref 0].map (q_vm E.1)) = [Value.ref b] := by
    show [Value.ref (E.1 0)] = _
    rw [e0]
  refine w_mono (fun t ht => w_mq (E := E) (C := 0 + 600000) (S := 0 + 7302250) e1 (by decide) (by decide) ht) ?_
  exact K l p e room_1 s m #[Value.ref b] below meth c s.heap [] 0 0 _ ⟨hx, hcode, hret, hml, hown, w_wT hts, ⟨hlocks, fun h => absurd h (by decide)⟩, by decide, by decide⟩ (q_has0 (as := [.ref 0]) (by rw [eb]; exact hl)) (hR _) (by decide) (by decide)
