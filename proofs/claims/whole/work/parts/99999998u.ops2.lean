/-! what the calls owe: ways way best order, undo, wins, keep, back -/
def kK (r : Nat) : Bool := c_rng 52 67 r || c_rng 287 288 r
section WU
variable {L : Nat} {xs : Nat → Int32} {E : q_E} {d : Nat} {M : q_M} {t : q_T} {n : sN} {Q : Option Value → q_M → Prop} {P : q_M → Prop}
variable {p s : Nat} {H : Nat → sN} {kp : Nat → Option sN} {M' : q_M}
theorem i_tape.eq (it : i_tape M) (e1 : M'.1 3 2 = M.1 3 2) (e2 : M'.1 271 1 = M.1 271 1) (e3 : ∀ i, M'.1 4 i = M.1 4 i) (e4 : ∀ i, M'.1 272 i = M.1 272 i) : i_tape M' := by
  obtain ⟨k, hk, ⟨t1, t2, t3⟩, tb⟩ := it
  refine ⟨k, hk, ⟨e1.trans t1, e2.trans t2, fun i hi => (e3 i).trans ((t3 i hi).trans (e4 i).symm)⟩, fun i hi => ?_⟩
  obtain ⟨b, hb, e⟩ := tb i hi
  exact ⟨b, hb, (e3 i).trans e⟩
theorem g_Kp.eq (h : g_Kp M t kp) (e13 : M'.1 2 13 = M.1 2 13) (z : ∀ r i, kK r = true → M'.1 r i = M.1 r i) : g_Kp M' t kp := by
  intro k hk
  obtain ⟨h0, h1⟩ := h k hk
  refine ⟨fun e => ⟨by rw [e13]; exact (h0 e).1, (z 288 k rfl).trans (h0 e).2⟩, fun m e => ?_⟩
  obtain ⟨a1, a2, a3, a4⟩ := h1 m e
  refine ⟨by rw [e13]; exact a1, (z 288 k rfl).trans a2, ?_, fun j hj => (z 287 _ rfl).trans (a4 j hj)⟩
  obtain rfl | rfl : k = 0 ∨ k = 1 := by omega
  · exact a3.eq (funext fun i => z 52 i rfl) (funext fun i => z 53 i rfl) (funext fun i => z 54 i rfl) (funext fun i => z 55 i rfl) (funext fun i => z 56 i rfl) (funext fun i => z 57 i rfl) (funext fun i => z 58 i rfl) (funext fun i => z 59 i rfl)
  · exact a3.eq (funext fun i => z 60 i rfl) (funext fun i => z 61 i rfl) (funext fun i => z 62 i rfl) (funext fun i => z 63 i rfl) (funext fun i => z 64 i rfl) (funext fun i => z 65 i rfl) (funext fun i => z 66 i rfl) (funext fun i => z 67 i rfl)
theorem iH.f3 {l : List Nat} {f : List (Nat × Nat)} (h : iH M t n p s H) (hf : q_fs l f M M') (o1 : (l.all (fun a => !(c_mt a)) && f.all (fun q => !(c_mt q.1))) = true) (o1' : (l.all (fun a => !(c_rng 43 (43 + 7) a)) && f.all (fun q => !(c_rng 43 (43 + 7) q.1))) = true) (o8 : ∀ i, q_scr l f 280 i = false) (o9 : ∀ i, q_scr l f 284 i = false) (o2 : (l.all (fun a => !(c_rng 68 237 a)) && f.all (fun q => !(c_rng 68 237 q.1))) = true) (o3 : q_scr l f 271 28 = false) (o4 : ∀ i, q_scr l f 286 i = false) : iH M' t n p s H := by
  obtain ⟨⟨g, hJ⟩, hR, hH, hb⟩ := h
  exact ⟨⟨g.f3 hf o1 o1' o8 o9, hJ⟩, hR.fs hf o2, hH.eq (hf 271 28 o3).1 (hf.c1 286 o4), hb⟩
/-- behind a call that learns ways -/
theorem iX.mo {l : List Nat} {f : List (Nat × Nat)} (h : iX M t n p s H kp) (hf : q_fs l f M M') (mo : g_Mo M' t) (o1 : (l.all (fun a => !(c_mt a)) && f.all (fun q => !(c_mt q.1))) = true := by exact rfl) (o1' : (l.all (fun a => !(c_rng 43 (43 + 7) a)) && f.all (fun q => !(c_rng 43 (43 + 7) q.1))) = true := by exact rfl) (o8 : ∀ i, q_scr l f 280 i = false := by intro i; exact rfl) (o9 : ∀ i, q_scr l f 284 i = false := by intro i; exact rfl) (o2 : (l.all (fun a => !(c_rng 68 237 a)) && f.all (fun q => !(c_rng 68 237 q.1))) = true := by exact rfl) (o3 : q_scr l f 271 28 = false := by exact rfl) (o4 : ∀ i, q_scr l f 286 i = false := by intro i; exact rfl) (oY : (l.all (fun a => !(kY a)) && f.all (fun q => !(kY q.1))) = true := by exact rfl) (oK : (l.all (fun a => !(kK a)) && f.all (fun q => !(kK q.1))) = true := by exact rfl) (a0 : q_scr l f 2 13 = false := by exact rfl) (a1 : q_scr l f 3 2 = false := by exact rfl) (a2 : q_scr l f 271 1 = false := by exact rfl) (a3 : q_scr l f 2 14 = false := by exact rfl) (a4 : q_scr l f 2 15 = false := by exact rfl) (a5 : q_scr l f 2 16 = false := by exact rfl) (a6 : q_scr l f 271 11 = false := by exact rfl) (a7 : q_scr l f 271 12 = false := by exact rfl) (a8 : q_scr l f 271 29 = false := by exact rfl) (c4 : ∀ i, q_scr l f 4 i = false := by intro i; exact rfl) (c272 : ∀ i, q_scr l f 272 i = false := by intro i; exact rfl) : iX M' t n p s H kp := h.Y (h.1.f3 hf o1 o1' o8 o9 o2 o3 o4) (hf.fY oY) (h.2.1.1.eq (hf 3 2 a1).1 (hf 271 1 a2).1 (fun i => (hf 4 i (c4 i)).1) (fun i => (hf 272 i (c272 i)).1)) (h.2.1.2.eq (hf 2 14 a3).1 (hf 2 15 a4).1 (hf 2 16 a5).1 (hf 271 11 a6).1 (hf 271 12 a7).1 (hf 271 29 a8).1) mo (h.2.2.2.2.2.1.eq (hf 2 13 a0).1 (fun r i hr => (hf r i (q_out (p := kK) oK hr i)).1)) h.2.2.2.2.2.2
end WU
section WV
variable {L : Nat} {xs : Nat → Int32} {E : q_E}
theorem w_ways : ∀ a : Int32, q_opOK (L, xs, q_shp) E iW iW nX11_ways nX12_ways 1299 [.int a] := fun a M ⟨t, n, p, s, H, kp, h⟩ => o_ways (d := 1289) h.1.1.1 h.2.2.1.1 h.2.2.1.2.1 h.2.2.2.2.1 (fun M' hf mo => ⟨t, n, p, s, H, kp, h.mo hf mo⟩)
theorem w_way : ∀ a b c : Int32, q_opOK (L, xs, q_shp) E iW iW nX11_way nX12_way 1299 [.int a, .int b, .int c] := fun a b c M ⟨t, n, p, s, H, kp, h⟩ => o_way (d := 1289) h.1.1.1 h.2.2.1.1 h.2.2.1.2.1 h.2.2.2.2.1 (fun M' hf mo => ⟨t, n, p, s, H, kp, h.mo hf mo⟩)
theorem w_best : ∀ a b : Int32, q_opOK (L, xs, q_shp) E iW iW nX11_best nX12_best 1299 [.int a, .int b] := fun a b M ⟨t, n, p, s, H, kp, h⟩ => o_best (d := 1287) h.1.1.1 h.2.2.1.1 h.2.2.1.2.1 h.2.2.2.2.1 (fun M' hf mo => ⟨t, n, p, s, H, kp, h.mo hf mo⟩)
theorem w_order : ∀ a b : Int32, q_opOK (L, xs, q_shp) E iW iW nX11_order nX12_order 1299 [.int a, .int b] := fun a b M ⟨t, n, p, s, H, kp, h⟩ => o_order (d := 1287) h.1.1.1 h.1.1.2 h.2.2.1.1 h.2.2.1.2.1 h.2.2.2.2.1 (fun M' hf mo => ⟨t, n, p, s, H, kp, h.mo hf mo⟩)
theorem w_list : ∀ a b : Int32, q_opOK (L, xs, q_shp) E iW iW nX11_list nX12_list 1299 [.int a, .int b] := fun a b M ⟨t, n, p, s, H, kp, h⟩ => o_list (d := 1297) h.1.1.1.2.1 h.1.1.1.1.1 h.1.1.1.1.2.1.1 (fun e he r hr => by
  have h6 := h.1.1.1.R.e6
  have r6 := h.1.1.1.R.r6
  have e1 := h.1.1.1.2.2.1 (6 * e + r) (by omega)
  unfold lS at e1
  rw [if_pos ⟨by omega, by omega⟩] at e1
  exact e1.trans (h.1.1.1.1.at (by omega)).symm) ⟨t, n, p, s, H, kp, h⟩
theorem w_undo : q_opOK (L, xs, q_shp) E iW iW nX11_undo nX12_undo 1299 [] := fun M ⟨t, n, p, s, H, kp, h⟩ => o_undo (d := 1295) h.1.2.1 h.1.2.2.1 (fun _ => ⟨t, n, p, s, H, kp, h⟩) (fun hs M' hf gr gh gS rN => ⟨t, H (s - 1), (p + 20) % 21, s - 1, H, kp, h.Z ⟨⟨⟨⟨by have := h.1.1.1.1.1; unfold r_R at this ⊢; rw [hf.c1 280]; exact this, h.1.1.1.1.2.1, rN, (h.1.2.2.2 (s - 1) (by omega)).1.1⟩, h.1.1.1.2.1.fs hf, gS⟩, h.1.2.2.2 (s - 1) (by omega)⟩, gr, gh, fun i hi => h.1.2.2.2 i (by omega)⟩ hf.fZ (h.2.1.1.eq (hf.p1 3 2) (hf.p1 271 1) (fun i => hf.p1 4 i) (fun i => hf.p1 272 i)) (h.2.1.2.eq (hf.p1 2 14) (hf.p1 2 15) (hf.p1 2 16) (hf.p1 271 11) (hf.p1 271 12) (hf.p1 271 29))⟩)
theorem w_wins : ∀ a b c : Int32, q_opOK (L, xs, q_shp) E iW iW nX11_wins nX12_wins 1299 [.int a, .int b, .int c] := fun a b c M ⟨t, n, p, s, H, kp, h⟩ => o_wins (d := 1279) h.1.1.1 h.1.1.2 (fun M' hf gA => ⟨t, n, p, s, H, kp, h.Z ⟨⟨gA, h.1.1.2⟩, h.1.2.1.fs hf, h.1.2.2.1.eq (hf.p1 271 28) (hf.c1 286), h.1.2.2.2⟩ hf.fZ (h.2.1.1.eq (hf.p1 3 2) (hf.p1 271 1) (fun i => hf.p1 4 i) (fun i => hf.p1 272 i)) (h.2.1.2.eq (hf.p1 2 14) (hf.p1 2 15) (hf.p1 2 16) (hf.p1 271 11) (hf.p1 271 12) (hf.p1 271 29))⟩)
end WV
