/-! what the calls owe: the simple ones (written by wip/whole/gen13.py) -/
theorem i_tape.len {M : q_M} (h : i_tape M) : M.1 3 2 = M.1 271 1 := by
  obtain ⟨k, hk, ⟨t1, t2, t3⟩, tb⟩ := h
  exact t1.trans t2.symm
section WO
variable {L : Nat} {xs : Nat → Int32} {E : q_E}
theorem iX.told {M : q_M} {t : q_T} {n : sN} {p s : Nat} {H : Nat → sN} {kp : Nat → Option sN} (h : iX M t n p s H kp) : i_told M := ⟨t, h.1.1.1.2.1, h.1.1.1.1.1, h.1.1.1.1.2.1.1⟩
theorem iX.D {M : q_M} {t : q_T} {n : sN} {p s : Nat} {H : Nat → sN} {kp : Nat → Option sN} (h : iX M t n p s H kp) : b_D t n := h.1.1.2.D h.1.1.1.R.e6
theorem w_rank : ∀ a : Int32, q_opOK (L, xs, q_shp) E iW iW nX11_rank nX12_rank 1299 [.int a] := fun a M ⟨t, n, p, s, H, kp, h⟩ => o_rank (d := 1290) h.1.1.1 (fun M' hf => ⟨t, n, p, s, H, kp, h.q hf⟩)
theorem w_at0 : ∀ a : Int32, q_opOK (L, xs, q_shp) E iW iW nX11_at nX12_at 1299 [.int a] := fun a M ⟨t, n, p, s, H, kp, h⟩ => o_at (d := 1290) h.1.1.1 (fun M' hf => ⟨t, n, p, s, H, kp, h.q hf⟩)
theorem w_points : ∀ a b : Int32, q_opOK (L, xs, q_shp) E iW iW nX11_points nX12_points 1299 [.int a, .int b] := fun a b M ⟨t, n, p, s, H, kp, h⟩ => o_points (d := 1291) h.1.1.1 (fun M' hf => ⟨t, n, p, s, H, kp, h.q hf⟩)
theorem w_expected : ∀ a : Int32, q_opOK (L, xs, q_shp) E iW iW nX11_expected nX12_expected 1299 [.int a] := fun a M ⟨t, n, p, s, H, kp, h⟩ => o_expected (d := 1290) h.1.1.1 (fun M' hf => ⟨t, n, p, s, H, kp, h.q hf⟩)
theorem w_award : ∀ a b c e : Int32, q_opOK (L, xs, q_shp) E iW iW nX11_award nX12_award 1299 [.int a, .int b, .int c, .int e] := fun a b c e M ⟨t, n, p, s, H, kp, h⟩ => o_award (d := 1291) h.1.1.1 (fun M' hf => ⟨t, n, p, s, H, kp, h.q hf⟩)
theorem w_kept : ∀ a b : Int32, q_opOK (L, xs, q_shp) E iW iW nX11_kept nX12_kept 1299 [.int a, .int b] := fun a b M ⟨t, n, p, s, H, kp, h⟩ => o_kept (d := 1291) h.1.1.1 (fun M' hf => ⟨t, n, p, s, H, kp, h.q hf⟩)
theorem w_alike : ∀ a b : Int32, q_opOK (L, xs, q_shp) E iW iW nX11_alike nX12_alike 1299 [.int a, .int b] := fun a b M ⟨t, n, p, s, H, kp, h⟩ => o_alike (d := 1291) h.1.1.1 (fun M' hf => ⟨t, n, p, s, H, kp, h.q hf⟩)
theorem w_dropped : ∀ a b : Int32, q_opOK (L, xs, q_shp) E iW iW nX11_dropped nX12_dropped 1299 [.int a, .int b] := fun a b M ⟨t, n, p, s, H, kp, h⟩ => o_dropped (d := 1291) h.1.1.1 (fun M' hf => ⟨t, n, p, s, H, kp, h.q hf⟩)
theorem w_without : ∀ a b : Int32, q_opOK (L, xs, q_shp) E iW iW nX11_without nX12_without 1299 [.int a, .int b] := fun a b M ⟨t, n, p, s, H, kp, h⟩ => o_without (d := 1291) h.1.1.1 (fun M' hf => ⟨t, n, p, s, H, kp, h.q hf⟩)
theorem w_asDrop : ∀ a b : Int32, q_opOK (L, xs, q_shp) E iW iW nX11_asDrop nX12_asDrop 1299 [.int a, .int b] := fun a b M ⟨t, n, p, s, H, kp, h⟩ => o_asDrop (d := 1291) h.1.1.1 (fun M' hf => ⟨t, n, p, s, H, kp, h.q hf⟩)
theorem w_bias : ∀ a b : Int32, q_opOK (L, xs, q_shp) E iW iW nX11_bias nX12_bias 1299 [.int a, .int b] := fun a b M ⟨t, n, p, s, H, kp, h⟩ => o_bias (d := 1291) h.1.1.1 (fun M' hf => ⟨t, n, p, s, H, kp, h.q hf⟩)
theorem w_swing : ∀ a b c : Int32, q_opOK (L, xs, q_shp) E iW iW nX11_swing nX12_swing 1299 [.int a, .int b, .int c] := fun a b c M ⟨t, n, p, s, H, kp, h⟩ => o_swing (d := 1291) h.1.1.1 (fun M' hf => ⟨t, n, p, s, H, kp, h.q hf⟩)
theorem w_bribes : ∀ a b c : Int32, q_opOK (L, xs, q_shp) E iW iW nX11_bribes nX12_bribes 1299 [.int a, .int b, .int c] := fun a b c M ⟨t, n, p, s, H, kp, h⟩ => o_bribes (d := 1291) h.1.1.1 (fun M' hf => ⟨t, n, p, s, H, kp, h.q hf⟩)
theorem w_total : ∀ a b : Int32, q_opOK (L, xs, q_shp) E iW iW nX11_total nX12_total 1299 [.int a, .int b] := fun a b M ⟨t, n, p, s, H, kp, h⟩ => o_total (d := 1290) h.1.1.1 h.1.1.2.1.2.1 (fun M' hf => ⟨t, n, p, s, H, kp, h.q hf⟩)
theorem w_needs : ∀ a b : Int32, q_opOK (L, xs, q_shp) E iW iW nX11_needs nX12_needs 1299 [.int a, .int b] := fun a b M ⟨t, n, p, s, H, kp, h⟩ => o_needs (d := 1290) h.1.1.1 h.1.1.2.1.2.2.1 (fun M' hf => ⟨t, n, p, s, H, kp, h.q hf⟩)
theorem w_goes : ∀ a : Int32, q_opOK (L, xs, q_shp) E iW iW nX11_goes nX12_goes 1299 [.int a] := fun a M ⟨t, n, p, s, H, kp, h⟩ => o_goes (d := 1289) h.1.1.1 h.D (fun M' hf => ⟨t, n, p, s, H, kp, h.q hf⟩)
theorem w_worth : ∀ a b c : Int32, q_opOK (L, xs, q_shp) E iW iW nX11_worth nX12_worth 1299 [.int a, .int b, .int c] := fun a b c M ⟨t, n, p, s, H, kp, h⟩ => o_worth (d := 1295) h.1.1.1 ⟨t, n, p, s, H, kp, h⟩
theorem w_look : ∀ a : Int32, q_opOK (L, xs, q_shp) E iW iW nX11_look nX12_look 1299 [.int a] := fun a M ⟨t, n, p, s, H, kp, h⟩ => o_look (d := 1296) h.1.1.1 h.D h.2.2.1.1.1 (h.1.2.1.2.2.2.1.trans h.1.2.2.1.2.1.symm) h.2.1.1.len ⟨t, n, p, s, H, kp, h⟩
theorem w_marked : ∀ a : Int32, q_opOK (L, xs, q_shp) E iW iW nX11_marked nX12_marked 1299 [.int a] := fun a M ⟨t, n, p, s, H, kp, h⟩ => o_marked (d := 1296) h.1.1.1 h.D ⟨t, n, p, s, H, kp, h⟩
theorem w_board : ∀ a : Int32, q_opOK (L, xs, q_shp) E iW iW nX11_board nX12_board 1299 [.int a] := fun a M ⟨t, n, p, s, H, kp, h⟩ => o_board (d := 1295) h.1.1.1 h.D ⟨t, n, p, s, H, kp, h⟩
theorem iX.lq {M M' : q_M} {t : q_T} {n : sN} {p s : Nat} {H : Nat → sN} {kp : Nat → Option sN} (h : iX M t n p s H kp) (hf : q_fs lQ [] M M') : iX M' t n p s H kp := h.Z (h.1.q hf) hf.fZ (h.2.1.1.Z hf.fZ (hf.p1 3 2) (hf.p1 271 1)) (h.2.1.2.eq (hf.p1 2 14) (hf.p1 2 15) (hf.p1 2 16) (hf.p1 271 11) (hf.p1 271 12) (hf.p1 271 29))
theorem w_law : ∀ a b c : Int32, q_opOK (L, xs, q_shp) E iW iW nX11_law nX12_law 1299 [.int a, .int b, .int c] := fun a b c M ⟨t, n, p, s, H, kp, h⟩ => o_law (d := 1289) h.1.1.1 h.2.2.1.1 h.2.2.1.2.1 (fun M' hf => ⟨t, n, p, s, H, kp, h.lq hf⟩)
theorem w_breaks : ∀ a b : Int32, q_opOK (L, xs, q_shp) E iW iW nX11_breaks nX12_breaks 1299 [.int a, .int b] := fun a b M ⟨t, n, p, s, H, kp, h⟩ => o_breaks (d := 1287) h.1.1.1 h.2.2.1.1 h.2.2.1.2.1 (fun M' hf => ⟨t, n, p, s, H, kp, h.lq hf⟩)
theorem w_dive : ∀ a b : Int32, q_opOK (L, xs, q_shp) E iW iW nX11_dive nX12_dive 1299 [.int a, .int b] := fun a b M ⟨t, n, p, s, H, kp, h⟩ => o_dive (d := 1297) h.told ⟨t, n, p, s, H, kp, h⟩
theorem w_judge : ∀ a b : Int32, q_opOK (L, xs, q_shp) E iW iW nX11_judge nX12_judge 1299 [.int a, .int b] := fun a b M ⟨t, n, p, s, H, kp, h⟩ => o_judge (d := 1297) h.told ⟨t, n, p, s, H, kp, h⟩
theorem w_form : ∀ a b : Int32, q_opOK (L, xs, q_shp) E iW iW nX11_form nX12_form 1299 [.int a, .int b] := fun a b M ⟨t, n, p, s, H, kp, h⟩ => o_form (d := 1297) h.told ⟨t, n, p, s, H, kp, h⟩
theorem w_cut : ∀ a b : Int32, q_opOK (L, xs, q_shp) E iW iW nX11_cut nX12_cut 1299 [.int a, .int b] := fun a b M ⟨t, n, p, s, H, kp, h⟩ => o_cut (d := 1298) h.told ⟨t, n, p, s, H, kp, h⟩
theorem w_fault : ∀ a : Int32, q_opOK (L, xs, q_shp) E iW iW nX11_fault nX12_fault 1299 [.int a] := fun a M ⟨t, n, p, s, H, kp, h⟩ => o_fault h.2.1.2 ⟨t, n, p, s, H, kp, h⟩
theorem w_stopped : q_opOK (L, xs, q_shp) E iW iW nX11_stopped nX12_stopped 1299 [] := fun M ⟨t, n, p, s, H, kp, h⟩ => o_stopped h.2.1.2 ⟨t, n, p, s, H, kp, h⟩
theorem w_balk : q_opOK (L, xs, q_shp) E iW iW nX11_balk nX12_balk 1299 [] := fun M ⟨t, n, p, s, H, kp, h⟩ => o_balk (d := 1279) h.1 (fun M' m p' s' H' i hf => ⟨t, m, p', s', H', kp, h.o i hf⟩)
theorem w_fail : q_opOK (L, xs, q_shp) E iW iW nX11_fail nX12_fail 1299 [] := fun M ⟨t, n, p, s, H, kp, h⟩ => o_fail (d := 1279) h.1 (fun M' m p' s' H' i hf => ⟨t, m, p', s', H', kp, h.o i hf⟩)
theorem w_give : q_opOK (L, xs, q_shp) E iW iW nX11_give nX12_give 1299 [] := fun M ⟨t, n, p, s, H, kp, h⟩ => o_give (d := 1279) h.1 (fun M' m p' s' H' i hf => ⟨t, m, p', s', H', kp, h.o i hf⟩)
theorem w_out : ∀ a : Int32, q_opOK (L, xs, q_shp) E iW iW nX11_out nX12_out 1299 [.int a] := fun a M ⟨t, n, p, s, H, kp, h⟩ => o_out (d := 1279) h.1 (fun M' m p' s' H' i hf => ⟨t, m, p', s', H', kp, h.o i hf⟩)
theorem w_cap : ∀ a : Int32, q_opOK (L, xs, q_shp) E iW iW nX11_cap nX12_cap 1299 [.int a] := fun a M ⟨t, n, p, s, H, kp, h⟩ => o_cap (d := 1279) h.1 (fun M' m p' s' H' i hf => ⟨t, m, p', s', H', kp, h.o i hf⟩)
theorem w_half : ∀ a : Int32, q_opOK (L, xs, q_shp) E iW iW nX11_half nX12_half 1299 [.int a] := fun a M ⟨t, n, p, s, H, kp, h⟩ => o_half (d := 1279) h.1 (fun M' m p' s' H' i hf => ⟨t, m, p', s', H', kp, h.o i hf⟩)
theorem w_mark : ∀ a b : Int32, q_opOK (L, xs, q_shp) E iW iW nX11_mark nX12_mark 1299 [.int a, .int b] := fun a b M ⟨t, n, p, s, H, kp, h⟩ => o_mark (d := 1279) h.1 (fun M' m p' s' H' i hf => ⟨t, m, p', s', H', kp, h.o i hf⟩)
theorem w_script : q_opOK (L, xs, q_shp) E iW iW nX11_script nX12_script 1299 [] := fun M ⟨t, n, p, s, H, kp, h⟩ => o_script (d := 1273) h.1 h.2.1.1 h.2.2.2.1.1 h.2.2.2.1.2.1 h.2.2.1.2.2 (fun M' m p' s' H' i z e1 e2 ft => ⟨t, m, p', s', H', kp, h.Z i z (i_tape.no e1 e2) ft⟩)
theorem w_meet : q_opOK (L, xs, q_shp) E iW iW nX11_meet nX12_meet 1299 [] := fun M ⟨t, n, p, s, H, kp, h⟩ => o_meet (d := 1215) h.1 h.2.1.1 h.2.1.2 h.2.2.2.1.1 h.2.2.2.1.2.1 (fun M' i z e1 e2 ft => ⟨t, n, p, s, H, kp, h.Z i z (i_tape.no e1 e2) ft⟩) (fun M' t' n' hf i w bl nm e244 e213 k0 k1 e32 e71 ft => ⟨t', n', 0, 0, H, fun _ => none, h.mt hf i w bl nm e244 e213 k0 k1 e32 e71 ft⟩)
theorem w_named : ∀ a : Int32, q_opOK (L, xs, q_shp) E iW iW nX11_named nX12_named 1299 [.int a] := fun a M ⟨t, n, p, s, H, kp, h⟩ => o_named (d := 1293) h.1.1.1 h.2.1.1 h.2.2.2.1.1 h.2.2.1.2.2 (fun M' hf e1 e2 => ⟨t, n, p, s, H, kp, h.Z (h.1.fs hf) hf.fZ (i_tape.no e1 e2) (h.2.1.2.eq (hf.p1 2 14) (hf.p1 2 15) (hf.p1 2 16) (hf.p1 271 11) (hf.p1 271 12) (hf.p1 271 29))⟩)
end WO
