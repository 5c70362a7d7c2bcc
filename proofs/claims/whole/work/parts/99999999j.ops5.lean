/-! what the calls owe: feed, end, sheet -/
def kG (r : Nat) : Bool := c_rng 5 19 r || c_rng 21 23 r || Nat.beq r 278 || Nat.beq r 280 || Nat.beq r 282 || Nat.beq r 2 || Nat.beq r 244 || c_rng 246 247 r || c_rng 287 288 r || c_rng 52 67 r || Nat.beq r 9 || Nat.beq r 12
section W5
variable {L : Nat} {xs : Nat → Int32} {E : q_E} {d : Nat} {M : q_M} {t : q_T} {n : sN} {Q : Option Value → q_M → Prop} {P : q_M → Prop}
variable {p s : Nat} {H : Nat → sN} {kp : Nat → Option sN} {M' : q_M}
theorem g_Kp.G (h : g_Kp M t kp) (z : ∀ r i, kG r = true → M'.1 r i = M.1 r i) : g_Kp M' t kp := by
  intro k hk
  obtain ⟨h0, h1⟩ := h k hk
  have e13 := z 2 13 rfl
  refine ⟨fun e => ⟨by rw [e13]; exact (h0 e).1, (z 288 k rfl).trans (h0 e).2⟩, fun m e => ?_⟩
  obtain ⟨a1, a2, a3, a4⟩ := h1 m e
  refine ⟨by rw [e13]; exact a1, (z 288 k rfl).trans a2, ?_, fun j hj => (z 287 _ rfl).trans (a4 j hj)⟩
  obtain rfl | rfl : k = 0 ∨ k = 1 := by omega
  · exact a3.eq (funext fun i => z 52 i rfl) (funext fun i => z 53 i rfl) (funext fun i => z 54 i rfl) (funext fun i => z 55 i rfl) (funext fun i => z 56 i rfl) (funext fun i => z 57 i rfl) (funext fun i => z 58 i rfl) (funext fun i => z 59 i rfl)
  · exact a3.eq (funext fun i => z 60 i rfl) (funext fun i => z 61 i rfl) (funext fun i => z 62 i rfl) (funext fun i => z 63 i rfl) (funext fun i => z 64 i rfl) (funext fun i => z 65 i rfl) (funext fun i => z 66 i rfl) (funext fun i => z 67 i rfl)
theorem g_Mo.G (mo : g_Mo M t) (h10 : t 5 0 ≤ 10) (z : ∀ r i, kG r = true → M'.1 r i = M.1 r i) : g_Mo M' t := fun pr hp hb => by
  rw [z 244 8 rfl] at hb
  exact (mo pr hp hb).eq hp h10 (fun i _ _ => ⟨z 246 i rfl, z 247 i rfl⟩)
theorem iX.G {l : List Nat} {f : List (Nat × Nat)} (h : iX M t n p s H kp) (hf : q_fs l f M M') (i' : iH M' t n p s H) (it : i_tape M') (ft : i_fault M') (sb' : M'.1 270 0 = 1) (o : (l.all (fun a => !(kG a)) && f.all (fun q => !(kG q.1))) = true := by exact rfl) : iX M' t n p s H kp := by
  have z : ∀ r i, kG r = true → M'.1 r i = M.1 r i ∧ M'.2 r i = M.2 r i := fun r i hr => hf r i (q_out (p := kG) o hr i)
  obtain ⟨h1, -, ⟨w, bl, nm⟩, ⟨gl, go, -⟩, mo, kpp, kj⟩ := h
  exact ⟨i', ⟨it, ft⟩, ⟨⟨(z 17 5 rfl).1.trans w.1, fun l hl => ⟨(z 19 l rfl).1.trans (w.2 l hl).1, (z 280 _ rfl).1.trans (w.2 l hl).2.1, fun i hi => ⟨(z 18 _ rfl).1.trans ((w.2 l hl).2.2 i hi).1, (z 280 _ rfl).1.trans ((w.2 l hl).2.2 i hi).2⟩⟩⟩, bl, ⟨fun i hi => ⟨(nm.1 i hi).1, (z 9 i rfl).2.trans (nm.1 i hi).2.1, (z 282 i rfl).2.trans (nm.1 i hi).2.2⟩, fun e he => ⟨(nm.2 e he).1, (z 12 e rfl).2.trans (nm.2 e he).2.1, (z 282 _ rfl).2.trans (nm.2 e he).2.2⟩⟩⟩, ⟨fun q hq => (z 5 q rfl).2.trans (gl q hq), fun q hq => (z 278 q rfl).2.trans (go q hq), sb'⟩, mo.G h1.1.1.R.d10 (fun r i hr => (z r i hr).1), kpp.G (fun r i hr => (z r i hr).1), kj⟩
theorem p_push_fs {l : List Nat} {f : List (Nat × Nat)} {o a k : Nat} {b : Int32} (h : q_fs l f M M') (h1 : ∀ i, q_scr l f a i = true) (h2 : q_scr l f o k = true) : q_fs l f M (p_push o a k M' b) := (h.tr (q_fs.si (h1 _))).tr (q_fs.si h2)
theorem p_feed_fs {l : List Nat} {f : List (Nat × Nat)} {o a k : Nat} {b c e g i : Int32} (h : q_fs l f M M') (h1 : ∀ i, q_scr l f a i = true) (h2 : q_scr l f o k = true) : q_fs l f M (p_feed o a k M' b c e g i) := by
  have four : ∀ {M1 : q_M} {v : Int32}, q_fs l f M M1 → q_fs l f M (p_four o a k M1 v) := fun h => p_push_fs (p_push_fs (p_push_fs (p_push_fs h h1 h2) h1 h2) h1 h2) h1 h2
  exact four (four (four (four (four h))))
theorem iX.tp (h : iX M t n p s H kp) (hf : q_fs [4, 272] [(3, 2), (271, 1)] M M') (it : i_tape M') : iX M' t n p s H kp := h.G hf (h.1.fs hf) it (h.2.1.2.eq (hf.p1 2 14) (hf.p1 2 15) (hf.p1 2 16) (hf.p1 271 11) (hf.p1 271 12) (hf.p1 271 29)) ((hf.p1 270 0).trans h.2.2.2.1.2.2)
theorem w_feed : ∀ a b c e f : Int32, q_opOK (L, xs, q_shp) E iW iW nX11_feed nX12_feed 1299 [.int a, .int b, .int c, .int e, .int f] := fun a b c e f M ⟨t, n, p, s, H, kp, h⟩ => o_feed (d := 1298) h.2.1.1 ⟨t, n, p, s, H, kp, h⟩ (fun it => ⟨t, n, p, s, H, kp, h.tp (p_feed_fs (p_feed_fs q_fs.rf (fun _ => rfl) rfl) (fun _ => rfl) rfl) it⟩)
theorem w_end : ∀ a : Int32, q_opOK (L, xs, q_shp) E iW iW nX11_end nX12_end 1299 [.int a] := fun a M ⟨t, n, p, s, H, kp, h⟩ => o_end (d := 1299) h.2.1.1 ⟨t, n, p, s, H, kp, h⟩ (fun it => ⟨t, n, p, s, H, kp, h.tp (q_fs.rf.s1.s1) it⟩)
theorem iX.sh (h : iX M t n p s H kp) (hf : q_fs (270 :: lSh) fSh M M') (sb' : M'.1 270 0 = 1) : iX M' t n p s H kp := by
  refine h.G hf (h.1.fs hf) ?_ (h.2.1.2.eq (hf.p1 2 14) (hf.p1 2 15) (hf.p1 2 16) (hf.p1 271 11) (hf.p1 271 12) (hf.p1 271 29)) sb'
  obtain ⟨k, hk, ⟨t1, t2, t3⟩, tb⟩ := h.2.1.1
  refine ⟨k, hk, ⟨(hf.p1 3 2).trans t1, (hf.p1 271 1).trans t2, fun i hi => (hf.p1 4 i).trans ((t3 i hi).trans (hf.p1 272 i).symm)⟩, fun i hi => ?_⟩
  obtain ⟨b, hb, e⟩ := tb i hi
  exact ⟨b, hb, (hf.p1 4 i).trans e⟩
theorem w_sheet (hE : zb_E E) : ∀ a : Int32, q_opR (L, xs, q_shp) E iW iW nX11_sheet nX12_sheet 1299 4 600 [.int a] := fun a M ⟨t, n, p, s, H, kp, h⟩ => o_sheet (d := 1279) hE h.1.1.1 h.2.2.1.2.2 h.2.2.2.1.2.2 (fun M' hf e => ⟨t, n, p, s, H, kp, h.sh hf e⟩)
end W5
