/-! the call meet -/
theorem lsW_of {t : q_T} {f : Nat → Int} {i : Nat} (b : bD t i) (w : whP t) (r1 : 1 ≤ t 0 0) (hf : ∀ e, e < t 8 0 → ∀ r, r < t 0 0 → f (6 * e + r) = (t 11 (6 * e + r) : Int) - 1) : lsW t f := by
  obtain ⟨bt, -, -, -, bl, -⟩ := b
  have b0 := bt.1
  have b8 := bt.2.2.2.2.1
  refine ⟨⟨r1, b0⟩, ⟨w.1, b8⟩, fun e he r hr => ⟨hf e he r hr, ?_, bl.1 _ (by omega)⟩, fun e he r r' hr hr' hn => ((bl.2.2 e he).2 (w.2 e he).1).2.1 r r' hr hr' hn, fun s hs hn => ?_⟩
  · have := ((bl.2.2 e he).2 (w.2 e he).1).1 r hr
    omega
  · by_cases q : s / 6 < t 8 0
    · have := ((bl.2.2 (s / 6) q).2 (w.2 (s / 6) q).1).2.2 (s % 6) (by omega) (by omega)
      rw [show 6 * (s / 6) + s % 6 = s by omega] at this
      exact this
    · exact (bl.2.1 s hs (by omega)).1
theorem soN_ex {t : q_T} {s : Nat} (h : 0 < soN t s) : ∃ j, j < t 2 0 ∧ t 4 j = s := by
  obtain ⟨j, hj, e⟩ := fb_ct_pos.mp h
  exact ⟨j, hj, of_decide_eq_true e⟩
theorem b_T2_of {t : q_T} {i : Nat} (b : bD t i) (w : whP t) (r1 : 1 ≤ t 0 0) : b_T2 t := by
  obtain ⟨-, bc, -, bf, -, -⟩ := b
  refine ⟨bf, bc.1, bc.2, ⟨fun _ => r1, fun _ => w.1⟩, fun e he => ⟨fun z => soN_ex ((w.2 e he).2.2 (by omega)), fun z s s1 s3 => ?_⟩⟩
  have y := (w.2 e he).2.1 z
  obtain rfl | rfl | rfl : s = 1 ∨ s = 2 ∨ s = 3 := by omega
  · exact soN_ex y.1
  · exact soN_ex y.2.1
  · exact soN_ex y.2.2
theorem r_R.mv {t : q_T} {M M' : q_M} (h : r_R 279 M t) (bt : b_T t) (e : ∀ k, k < 1685 → M'.1 280 k = M.1 279 k) : r_R 280 M' t := by
  obtain ⟨a0, a1, a2, a5, a9, a16, a17, aJ, aD, aE, aF, aC⟩ := h
  obtain ⟨b0, b1, b2, b5, b8, b13, b17, -⟩ := bt
  exact ⟨(e 0 (by omega)).trans a0, (e 1 (by omega)).trans a1, (e 2 (by omega)).trans a2, (e 3 (by omega)).trans a5, (e 4 (by omega)).trans a9, (e 6 (by omega)).trans a16, (e 5 (by omega)).trans a17, fun j hj => ⟨(e _ (by omega)).trans (aJ j hj).1, (e _ (by omega)).trans (aJ j hj).2⟩, fun j hj => ⟨(e _ (by omega)).trans (aD j hj).1, (e _ (by omega)).trans (aD j hj).2⟩, fun j hj => ⟨(e _ (by omega)).trans (aE j hj).1, (e _ (by omega)).trans (aE j hj).2⟩, fun o ho g hg => (e _ (by omega)).trans (aF o ho g hg), fun c hc => ⟨(e _ (by omega)).trans (aC c hc).1, (e _ (by omega)).trans (aC c hc).2.1, (e _ (by omega)).trans (aC c hc).2.2⟩⟩
abbrev lMe : List Nat := [6, 7, 8, 9, 10, 11, 12, 13, 14, 15, 16, 17, 18, 19, 21, 22, 23, 24, 25, 26, 27, 28, 29, 30, 31, 32, 33, 34, 35, 36, 37, 39, 40, 41, 43, 44, 45, 46, 47, 48, 49, 50, 273, 274, 275, 276, 277, 279, 280, 281, 282, 283, 284, 288]
abbrev fMe : List (Nat × Nat) := [(2, 13), (2, 14), (2, 15), (3, 2), (3, 3), (3, 4), (3, 5), (3, 6), (3, 7), (3, 8), (3, 9), (3, 10), (68, 1), (68, 2), (244, 8), (271, 1), (271, 7), (271, 8), (271, 9), (271, 10), (271, 11), (271, 12), (271, 19), (271, 20), (271, 21), (271, 22), (271, 28)]
abbrev lM0 : List Nat := [24, 25, 26, 27, 28, 29, 30, 31, 32, 33, 34, 35, 36, 37, 39, 40, 41, 273, 274, 275, 276, 277, 279, 281, 283]
abbrev fM0 : List (Nat × Nat) := [(2, 14), (2, 15), (3, 2), (3, 3), (3, 4), (3, 5), (3, 6), (3, 7), (3, 8), (3, 9), (3, 10), (271, 1), (271, 7), (271, 8), (271, 9), (271, 10), (271, 11), (271, 12), (271, 19), (271, 20), (271, 21), (271, 22)]
section OM
variable {L : Nat} {xs : Nat → Int32} {E : q_E} {d : Nat} {M : q_M} {t : q_T} {n : sN} {Q : Option Value → q_M → Prop} {P : q_M → Prop}
set_option maxRecDepth 100000 in
set_option maxHeartbeats 4000000 in
theorem o_meet {p s : Nat} {H : Nat → sN} (h : iH M t n p s H) (it : i_tape M) (ft : i_fault M) (gl : g_lx M) (go : g_ow M) (hP0 : ∀ M', iH M' t n p s H → q_fZ M M' → M'.1 3 2 = Int32.ofInt 0 → M'.1 271 1 = Int32.ofInt 0 → i_fault M' → P M') (hP1 : ∀ M' t' n', q_fs lMe fMe M M' → iH M' t' n' 0 0 H → g_W M' t' → b_L t' → g_nm M' t' → M'.1 244 8 = Int32.ofInt 0 → M'.1 2 13 = Int32.ofInt 0 → M'.1 288 0 = Int32.ofInt 0 → M'.1 288 1 = Int32.ofInt 0 → M'.1 3 2 = Int32.ofInt 0 → M'.1 271 1 = Int32.ofInt 0 → i_fault M' → P M') : zOp L xs E nX11_meet nX12_meet (d + 84) [] M P := by
  obtain ⟨x, len, gx, gy, h71⟩ := it.xx
  obtain ⟨tok, T, hT⟩ := gx.TT
  refine w_in 90 [] ?_
  refine k2_readAll3 hT gx gl (fun t1 N i M1 er hf1 n80 g1 d1 => ?_) (fun k i M1 er hf1 g1 => ?_)
  · -- it was read
    obtain ⟨b1, r1, np, wh⟩ := all_bd hT er bD_0 (fun _ => rfl) (fun z => absurd z (Nat.not_lt_zero _))
    have i12 := g1.i12
    have e37 := g1.2.2.2.2.1.1
    have e38 := g1.2.2.2.2.1.2
    refine w_in 90 [] ?_
    refine ⟨_, e37, ?_⟩
    refine ⟨_, rfl, ?_⟩
    refine ⟨_, e38, ?_⟩
    refine ⟨_, rfl, ?_⟩
    refine ⟨_, rfl, ?_⟩
    have hf2 : q_fs [] [(2, 14), (2, 15), (3, 2)] M1 (q_si (q_si (q_si M1 2 14 (Int32.ofInt 0)) 2 15 (Int32.ofInt (-1))) 3 2 (Int32.ofInt 0)) := q_fs.rf.s1.s1.s1
    have k14 : (q_si (q_si (q_si M1 2 14 (Int32.ofInt 0)) 2 15 (Int32.ofInt (-1))) 3 2 (Int32.ofInt 0)).1 2 14 = Int32.ofInt 0 := rfl
    have k15 : (q_si (q_si (q_si M1 2 14 (Int32.ofInt 0)) 2 15 (Int32.ofInt (-1))) 3 2 (Int32.ofInt 0)).1 2 15 = Int32.ofInt (-1) := rfl
    have k32 : (q_si (q_si (q_si M1 2 14 (Int32.ofInt 0)) 2 15 (Int32.ofInt (-1))) 3 2 (Int32.ofInt 0)).1 3 2 = Int32.ofInt 0 := rfl
    revert hf2 k14 k15 k32
    generalize q_si (q_si (q_si M1 2 14 (Int32.ofInt 0)) 2 15 (Int32.ofInt (-1))) 3 2 (Int32.ofInt 0) = M2
    intro hf2 k14 k15 k32
    refine z_le 0 (N : Int) (fun _ => ?_) (fun z => by omega)
    refine k2_copyMeet (fun M3 hf3 e3 => ?_)
    obtain ⟨rC, l15, n9, n12, w5, wl⟩ := (d1.fs hf2).cp b1 i12.1 e3
    refine w_in 90 [] ?_
    refine ⟨_, rfl, ?_⟩
    refine ⟨_, rfl, ?_⟩
    refine ⟨_, rfl, ?_⟩
    refine w_in 90 [] ?_
    refine ⟨_, rfl, ?_⟩
    have hf4 : q_fs [] [(68, 1), (68, 2), (2, 13), (244, 8)] M3 (q_si (q_si (q_si (q_si M3 68 1 (Int32.ofInt 0)) 68 2 (Int32.ofInt 0)) 2 13 (Int32.ofInt 0)) 244 8 (Int32.ofInt 0)) := q_fs.rf.s1.s1.s1.s1
    have k68 : (q_si (q_si (q_si (q_si M3 68 1 (Int32.ofInt 0)) 68 2 (Int32.ofInt 0)) 2 13 (Int32.ofInt 0)) 244 8 (Int32.ofInt 0)).1 68 1 = nI 0 ∧ (q_si (q_si (q_si (q_si M3 68 1 (Int32.ofInt 0)) 68 2 (Int32.ofInt 0)) 2 13 (Int32.ofInt 0)) 244 8 (Int32.ofInt 0)).1 68 2 = nI 0 := ⟨rfl, rfl⟩
    have k213 : (q_si (q_si (q_si (q_si M3 68 1 (Int32.ofInt 0)) 68 2 (Int32.ofInt 0)) 2 13 (Int32.ofInt 0)) 244 8 (Int32.ofInt 0)).1 2 13 = Int32.ofInt 0 := rfl
    have k244 : (q_si (q_si (q_si (q_si M3 68 1 (Int32.ofInt 0)) 68 2 (Int32.ofInt 0)) 2 13 (Int32.ofInt 0)) 244 8 (Int32.ofInt 0)).1 244 8 = Int32.ofInt 0 := rfl
    revert hf4 k68 k213 k244
    generalize q_si (q_si (q_si (q_si M3 68 1 (Int32.ofInt 0)) 68 2 (Int32.ofInt 0)) 2 13 (Int32.ofInt 0)) 244 8 (Int32.ofInt 0) = M4
    intro hf4 k68 k213 k244
    have w0 : lsW t1 (fun k => (t1 11 k : Int) - 1) := lsW_of b1 wh r1 (fun e he r hr => rfl)
    refine k2_begin ((hf4.p1 6 9).trans rC.2.2.2.2.1) w0 (fun s hs => (hf4.p1 15 s).trans (l15 s hs)) (fun M5 hf5 s5 => ⟨_, rfl, _, rfl, ?_⟩)
    have ff : q_fs lMe fMe M M5 := hf1.mono.tr (hf2.mono.tr (hf3.mono.tr (hf4.mono.tr hf5.mono)))
    have gy5 : g_ty M5 x len := ⟨gy.1, fun j hj => ⟨(ff.p1 272 j).trans (gy.2 j hj).1, (gy.2 j hj).2⟩⟩
    have go5 : g_ow M5 := fun j hj => (ff.p2 278 j).trans (go j hj)
    have h715 : M5.1 271 1 = nI len := (hf5.p1 271 1).trans ((hf4.p1 271 1).trans ((hf3.p1 271 1).trans ((hf2.p1 271 1).trans ((hf1.p1 271 1).trans h71))))
    refine w_in 90 [6, 30, 56, 75, 86, 113] ?_
    refine k_splits gy5 h715 (fun M6 T' hT' hsp hl e3' e4' => ?_)
    have g6 := g_sp.rt hT go5 hsp hl e3' e4'
    refine k_meetRead (d := d + 74) g6 (fun t2 N2 i2 M7 er2 hf7 g7 d7 e77 u => ?_) (fun k2 i2 M7 er2 hf7 g7 u => by rw [er] at er2; cases er2) _ rfl
    rw [er] at er2
    cases er2
    refine w_at 90 [75, 86, 113] ?_
    refine w_in 90 [] ?_
    refine ⟨_, g7.2.2.2.1, ?_⟩
    refine ⟨_, rfl, ?_⟩
    refine ⟨_, g7.2.2.2.2, ?_⟩
    refine ⟨_, rfl, ?_⟩
    have hf8 : q_fs [] [(271, 11), (271, 12)] M7 (q_si (q_si M7 271 11 (Int32.ofInt 0)) 271 12 (Int32.ofInt (-1))) := q_fs.rf.s1.s1
    have k11 : (q_si (q_si M7 271 11 (Int32.ofInt 0)) 271 12 (Int32.ofInt (-1))).1 271 11 = Int32.ofInt 0 := rfl
    have k12 : (q_si (q_si M7 271 11 (Int32.ofInt 0)) 271 12 (Int32.ofInt (-1))).1 271 12 = Int32.ofInt (-1) := rfl
    revert hf8 k11 k12
    generalize q_si (q_si M7 271 11 (Int32.ofInt 0)) 271 12 (Int32.ofInt (-1)) = M8
    intro hf8 k11 k12
    refine k_isFine1 ((hf8.p1 271 9).trans g7.2.2.2.1) ⟨z_1, bn_t (by decide) ?_⟩
    have d8 : dR M8 t1 := d7.eq (funext fun j => hf8.p1 279 j) (funext fun j => hf8.p2 281 j)
    have b5 := b1.1.2.2.2.1
    have b8 := b1.1.2.2.2.2.1
    have b0 := b1.1.1
    have b17 := b1.1.2.2.2.2.2.2.1
    have bw := b1.2.2.2.2.2
    have wf : lsW t1 (fun k => (M8.1 279 (62 + k)).toInt) := lsW_of b1 wh r1 (fun e he r hr => by
      have e1 := (d8.2.1 e he).2 (wh.2 e he).1 r hr
      have q1 := b1.2.2.2.2.1.1 (6 * e + r) (by omega)
      show (M8.1 279 (62 + (6 * e + r))).toInt = _
      rw [← Nat.add_assoc, e1, z_toInt (by omega)])
    refine k_meetEnd (t := t1) (f := fun k => (M8.1 279 (62 + k)).toInt) d8 ((hf8.p1 279 7).trans e77) b8 (fun k hk => (Int32.ofInt_toInt _).symm) (fun M9 hf9 e80 e82 rN k28 kp0 kp1 => ⟨rfl, ?_⟩) _ rfl
    have fr : q_fs [273, 274, 275, 276, 277, 279, 280, 281, 282, 283, 284, 288] [(271, 1), (271, 7), (271, 8), (271, 9), (271, 10), (271, 11), (271, 12), (271, 19), (271, 20), (271, 21), (271, 22), (271, 28)] M5 M9 := hsp.1.mono.tr (hf7.mono.tr (hf8.mono.tr hf9.mono))
    have tot : q_fs lMe fMe M M9 := ff.tr fr.mono
    have gR : g_R M9 t1 (n_0 t1 (fun k => (M8.1 279 (62 + k)).toInt)) := ⟨d8.1.mv b1.1 e80, ⟨b1.1, b_T2_of b1 wh r1⟩, rN, n0_N wf⟩
    have iH9 : iH M9 t1 (n_0 t1 (fun k => (M8.1 279 (62 + k)).toInt)) 0 0 H := ⟨⟨⟨gR, ((rC.fs hf4).fs hf5).fs fr, (s5.S wf).fs fr⟩, n0_J wf⟩, ⟨by decide, by decide, (fr.p1 68 1).trans ((hf5.p1 68 1).trans k68.1), (fr.p1 68 2).trans ((hf5.p1 68 2).trans k68.2), fun j hj => absurd hj (Nat.not_lt_zero _)⟩, ⟨by decide, k28, fun j hj => absurd hj (Nat.not_lt_zero _)⟩, fun j hj => absurd hj (Nat.not_lt_zero _)⟩
    refine hP1 M9 t1 _ tot iH9 ⟨?_, fun l hl => ⟨?_, ?_, fun j hj => ⟨?_, ?_⟩⟩⟩ ⟨b17, Nat.le_trans bw.1 i12.1, bw.2⟩ ⟨fun j hj => ⟨?_, ?_, ?_⟩, fun e he => ⟨b1.2.2.1.2 e he, ?_, ?_⟩⟩ ((fr.p1 244 8).trans ((hf5.p1 244 8).trans k244)) ((fr.p1 2 13).trans ((hf5.p1 2 13).trans k213)) kp0 kp1 ?_ ?_ ⟨?_, ?_, ?_⟩
    · exact (fr.p1 17 5).trans ((hf5.p1 17 5).trans ((hf4.p1 17 5).trans w5))
    · exact (fr.p1 19 l).trans ((hf5.p1 19 l).trans ((hf4.p1 19 l).trans (wl l hl).1))
    · exact (e80 _ (by omega)).trans (d8.2.2.2.2 l hl).1
    · exact (fr.p1 18 _).trans ((hf5.p1 18 _).trans ((hf4.p1 18 _).trans ((wl l hl).2 j hj)))
    · have c255 := (bw.2 l hl).1
      exact (e80 _ (by omega)).trans ((d8.2.2.2.2 l hl).2 j hj)
    · have := b1.2.2.1.1 j hj
      rw [Nat.zero_add] at this
      exact this
    · exact (fr.p2 9 j).trans ((hf5.p2 9 j).trans ((hf4.p2 9 j).trans (n9 j hj)))
    · exact (e82 j (by omega)).trans (d8.2.2.1 j hj)
    · exact (fr.p2 12 e).trans ((hf5.p2 12 e).trans ((hf4.p2 12 e).trans (n12 e he)))
    · exact (e82 (10 + e) (by omega)).trans (d8.2.2.2.1 e he)
    · exact (fr.p1 3 2).trans ((hf5.p1 3 2).trans ((hf4.p1 3 2).trans ((hf3.p1 3 2).trans k32)))
    · exact (hf9.p1 271 1).trans ((hf8.p1 271 1).trans ((hf7.p1 271 1).trans hsp.2.2.1))
    · exact ((fr.p1 2 14).trans ((hf5.p1 2 14).trans ((hf4.p1 2 14).trans ((hf3.p1 2 14).trans k14)))).trans ((hf9.p1 271 11).trans k11).symm
    · exact ((fr.p1 2 15).trans ((hf5.p1 2 15).trans ((hf4.p1 2 15).trans ((hf3.p1 2 15).trans k15)))).trans ((hf9.p1 271 12).trans k12).symm
    · exact (tot.p1 2 16).trans (ft.2.2.trans (tot.p1 271 29).symm)
  · -- it has a fault
    refine w_in 90 [] ?_
    refine ⟨_, g1.1, ?_⟩
    refine ⟨_, rfl, ?_⟩
    refine ⟨_, g1.2, ?_⟩
    refine ⟨_, rfl, ?_⟩
    refine ⟨_, rfl, ?_⟩
    have hf2 : q_fs [] [(2, 14), (2, 15), (3, 2)] M1 (q_si (q_si (q_si M1 2 14 (nI k)) 2 15 (nI (tkS x len i))) 3 2 (Int32.ofInt 0)) := q_fs.rf.s1.s1.s1
    have k14 : (q_si (q_si (q_si M1 2 14 (nI k)) 2 15 (nI (tkS x len i))) 3 2 (Int32.ofInt 0)).1 2 14 = nI k := rfl
    have k15 : (q_si (q_si (q_si M1 2 14 (nI k)) 2 15 (nI (tkS x len i))) 3 2 (Int32.ofInt 0)).1 2 15 = nI (tkS x len i) := rfl
    have k32 : (q_si (q_si (q_si M1 2 14 (nI k)) 2 15 (nI (tkS x len i))) 3 2 (Int32.ofInt 0)).1 3 2 = Int32.ofInt 0 := rfl
    revert hf2 k14 k15 k32
    generalize q_si (q_si (q_si M1 2 14 (nI k)) 2 15 (nI (tkS x len i))) 3 2 (Int32.ofInt 0) = M2
    intro hf2 k14 k15 k32
    refine z_le 0 (-1) (fun z => by omega) (fun _ => ⟨_, rfl, _, rfl, ?_⟩)
    have ff : q_fs lM0 fM0 M M2 := hf1.mono.tr hf2.mono
    have gy2 : g_ty M2 x len := ⟨gy.1, fun j hj => ⟨(ff.p1 272 j).trans (gy.2 j hj).1, (gy.2 j hj).2⟩⟩
    have go2 : g_ow M2 := fun j hj => (ff.p2 278 j).trans (go j hj)
    refine w_in 90 [6, 30, 56, 75, 86, 113] ?_
    refine k_splits gy2 ((hf2.p1 271 1).trans ((hf1.p1 271 1).trans h71)) (fun M6 T' hT' hsp hl e3' e4' => ?_)
    have g6 := g_sp.rt hT go2 hsp hl e3' e4'
    refine k_meetRead (d := d + 74) g6 (fun t2 N2 i2 M7 er2 hf7 g7 d7 e77 u => by rw [er] at er2; cases er2) (fun k2 i2 M7 er2 hf7 g7 u => ?_) _ rfl
    rw [er] at er2
    cases er2
    refine w_at 90 [75, 86, 113] ?_
    refine w_in 90 [] ?_
    refine ⟨_, g7.2.2.2.1, ?_⟩
    refine ⟨_, rfl, ?_⟩
    refine ⟨_, g7.2.2.2.2, ?_⟩
    refine ⟨_, rfl, ?_⟩
    have hf8 : q_fs [] [(271, 11), (271, 12)] M7 (q_si (q_si M7 271 11 (nI k)) 271 12 (nI (tkS x len i))) := q_fs.rf.s1.s1
    have k11 : (q_si (q_si M7 271 11 (nI k)) 271 12 (nI (tkS x len i))).1 271 11 = nI k := rfl
    have k12 : (q_si (q_si M7 271 11 (nI k)) 271 12 (nI (tkS x len i))).1 271 12 = nI (tkS x len i) := rfl
    revert hf8 k11 k12
    generalize q_si (q_si M7 271 11 (nI k)) 271 12 (nI (tkS x len i)) = M8
    intro hf8 k11 k12
    refine k_isFine0 ((hf8.p1 271 9).trans g7.2.2.2.1) g7.2.1 ⟨z_0, bn_f rfl ⟨_, rfl, rfl, ?_⟩⟩
    have tot : q_fs lM0 fM0 M M8 := ff.tr (hsp.1.mono.tr (hf7.mono.tr hf8.mono))
    refine hP0 M8 (h.fs tot) tot.fZ ?_ ?_ ⟨?_, ?_, ?_⟩
    · exact (hf8.p1 3 2).trans ((hf7.p1 3 2).trans ((hsp.1.p1 3 2).trans k32))
    · exact (hf8.p1 271 1).trans ((hf7.p1 271 1).trans hsp.2.2.1)
    · exact ((hf8.p1 2 14).trans ((hf7.p1 2 14).trans ((hsp.1.p1 2 14).trans k14))).trans k11.symm
    · exact ((hf8.p1 2 15).trans ((hf7.p1 2 15).trans ((hsp.1.p1 2 15).trans k15))).trans k12.symm
    · exact (tot.p1 2 16).trans (ft.2.2.trans (tot.p1 271 29).symm)
end OM
