/-! how the reference reads a LAW: behind a fact -/
section LT
variable {L : Nat} {xs : Nat → Int32} {E : q_E} {d : Nat} {M : q_M} {t : q_T} {n : sN} {Q : Option Value → q_M → Prop} {P : q_M → Prop}
variable {x : Nat → Nat} {len : Nat} {tok : Nat → Tok} {T : Nat}
-- behind a fact: and
set_option maxRecDepth 100000 in
set_option maxHeartbeats 4000000 in
theorem k_atAnd {l i o v D : Nat} {P0 pend cs : List Nat} (m : mS M x len tok T l i (pend ++ P0) o v cs 3) (e : tok i = (1, 19)) (h0 : ¬ tp P0 = 28) (hpe : ∀ a, a ∈ pend → a = 28) (hl : cs.length + pend.length ≤ 255) (h99 : P0.length ≤ 99) (hok : ∀ M', q_fs lLr fLr M M' → lowD l M M' → mS M' x len tok T l (i + 1) (28 :: P0) o v (cs ++ pend) 0 → hdL L xs E D Q l 1 M') : hdL L xs E D Q l 1 M := by
  obtain ⟨g, hcd, hp, ⟨ho, o6⟩, ⟨hv, v40⟩, hr⟩ := m
  have G : ∀ (Q2 : Option Value → q_M → Prop), (∀ M', hdL L xs E D Q l 1 M' → Q2 (some (.int 1)) M') → ∀ {pend cs : List Nat} {M1 : q_M}, plR M1 (pend ++ P0) → cdR M1 l cs → cs.length + pend.length ≤ 255 → (∀ a, a ∈ pend → a = 28) → q_fs [279] [(271, 19)] M M1 → lowD l M M1 → (∀ M', q_fs lLr fLr M M' → lowD l M M' → mS M' x len tok T l (i + 1) (28 :: P0) o v (cs ++ pend) 0 → hdL L xs E D Q l 1 M') → q_G q_mt (L, xs, q_shp) E nX12_behindFact (D + 5) 0 0 (q_Q (L, xs, q_shp) E Q2) 10 [some (.ref 271)] [] M1 := by
    intro Q2 hQ2 pend
    induction pend with
    | nil =>
      intro cs M1 p1 c1 hl1 hpe1 hf1 lo1 hok1
      have p1 : plR M1 P0 := p1
      have tb : tp P0 ≤ 99 := tp_b p1
      have en : nn (tp P0) = if tp P0 = 99 then -1 else (tp P0 : Int) := rfl
      have rg : -2147483648 ≤ nn (tp P0) ∧ nn (tp P0) < 2147483648 := by rw [en]; split <;> omega
      have n8 : ¬ nn (tp P0) = 28 := by rw [en]; split <;> omega
      have g1 := g.fs hf1
      refine w_at 90 [10] ?_
      refine k_top p1 ?_
      refine z_ne (nn (tp P0)) 28 (fun _ => ?_) (fun z => absurd z n8)
      refine k_piles g1 (by rw [e]; decide) p1 h99 (a := 28) (by omega) (fun M3 hf3 g3 p3 => ?_)
      refine ⟨_, rfl, ?_⟩
      have hf4 : q_fs [] [(271, 22)] M3 (q_si M3 271 22 (Int32.ofInt 0)) := q_fs.rf.s1
      refine ⟨z_1, hQ2 _ (hok1 _ ((hf1.mono.tr hf3.mono).tr hf4.mono) ((lo1.tr (lowD.of hf3)).tr (lowD.of hf4)) ⟨g3.fs hf4, ?_, p3.of (hf4.c1 283) (hf4.p1 271 19), ⟨(hf4.p1 271 20).trans ((hf3.p1 271 20).trans ((hf1.p1 271 20).trans ho)), o6⟩, ⟨(hf4.p1 271 21).trans ((hf3.p1 271 21).trans ((hf1.p1 271 21).trans hv)), v40⟩, q_si_s⟩)⟩
      rw [List.append_nil]
      exact (c1.of (hf3.c1 279)).of (hf4.c1 279)
    | cons a pend ih =>
      intro cs M1 p1 c1 hl1 hpe1 hf1 lo1 hok1
      obtain rfl := hpe1 a List.mem_cons_self
      have p1 : plR M1 (28 :: (pend ++ P0)) := p1
      rw [List.length_cons] at hl1
      have en : nn (tp (28 :: (pend ++ P0))) = 28 := if_neg (show ¬ 28 = 99 by decide)
      refine w_at 90 [10] ?_
      refine k_top p1 ?_
      rw [en]
      refine z_ne 28 28 (fun z => absurd rfl z) (fun _ => ?_)
      refine k_drops p1 c1 (by omega) (fun M2 hf2 lo2 p2 c2 => ?_)
      refine ih p2 c2 (by rw [List.length_append]; show cs.length + 1 + _ ≤ _; omega) (fun b hb => hpe1 b (List.mem_cons_of_mem _ hb)) (hf1.tr hf2) (lo1.tr lo2) (fun M' hf' lo' m' => hok1 M' hf' lo' ?_)
      rw [List.append_assoc] at m'
      exact m'
  refine w_at 90 [49] ?_
  refine ⟨fun z => absurd z (by decide), fun _ => ?_⟩
  refine k_isFine1 g.2.2.2.1 (br_f (by decide) ?_)
  refine ⟨_, hr, ?_⟩
  refine ⟨fun _ => ?_, sw_no (Or.inr (by decide))⟩
  refine w_in 90 [10] ?_
  refine k_isWordHere g 19 (by omega) (by decide +kernel) (fun _ => br_f (by decide) ?_) (fun z => absurd e z)
  exact G _ (fun _ h => h) hp hcd hl hpe q_fs.rf lowD.rf hok
-- behind a fact: anything else
set_option maxRecDepth 100000 in
set_option maxHeartbeats 4000000 in
theorem k_atElse {l i o v D : Nat} {P0 pend cs : List Nat} (m : mS M x len tok T l i (pend ++ P0) o v cs 3) (e : ¬ tok i = (1, 19)) (h0 : ¬ tp P0 = 28 ∧ ¬ tp P0 = 29) (hpe : ∀ a, a ∈ pend → a = 28 ∨ a = 29) (hl : cs.length + pend.length ≤ 255) (h99 : P0.length ≤ 99) (hor : tok i = (1, 18) → ∀ M', q_fs lLr fLr M M' → lowD l M M' → mS M' x len tok T l (i + 1) (29 :: P0) o v (cs ++ pend) 0 → hdL L xs E D Q l 1 M') (hend : ¬ tok i = (1, 18) → ¬ tp P0 = 41 → ∀ M', q_fs lLr fLr M M' → lowD l M M' → mS M' x len tok T l i P0 o v (cs ++ pend) 3 → hdL L xs E D Q l 0 M') (hk : ¬ tok i = (1, 18) → tp P0 = 41 → ∃ k P2, P0 = 41 :: (nts k ++ P2) ∧ ¬ tp P2 = 30 ∧ k + 1 ≤ o ∧ cs.length + pend.length + k ≤ 255 ∧ (¬ tok i = (1, 18) → tok i = (4, 93) → ∀ M', q_fs lLr fLr M M' → lowD l M M' → mS M' x len tok T l (i + 1) P2 (o - 1 - k) v (cs ++ pend ++ nts k) 3 → hdL L xs E D Q l 1 M') ∧ (¬ tok i = (1, 18) → ¬ tok i = (4, 93) → ∀ M', q_fs lLr fLr M M' → g_rb M' x len tok T 1 i → hdL L xs E D Q l 0 M')) : hdL L xs E D Q l 1 M := by
  obtain ⟨g, hcd, hp, ⟨ho, o6⟩, ⟨hv, v40⟩, hr⟩ := m
  refine w_at 90 [49] ?_
  refine ⟨fun z => absurd z (by decide), fun _ => ?_⟩
  refine k_isFine1 g.2.2.2.1 (br_f (by decide) ?_)
  refine ⟨_, hr, ?_⟩
  refine ⟨fun _ => ?_, sw_no (Or.inr (by decide))⟩
  refine w_in 90 [10] ?_
  refine k_isWordHere g 19 (by omega) (by decide +kernel) (fun z => absurd z e) (fun _ => br_t (by decide) ?_)
  refine k_settlesTests h0 hp hcd hl hpe (fun M2 hf2 lo2 p2 c2 => ?_)
  have g2 := g.fs hf2
  have i12 := g2.i12
  have t99 := tp_b p2
  have en : nn (tp P0) = if tp P0 = 99 then -1 else (tp P0 : Int) := rfl
  have rg : -2147483648 ≤ nn (tp P0) ∧ nn (tp P0) < 2147483648 := by rw [en]; split <;> omega
  have ho2 : M2.1 271 20 = nI o := (hf2.p1 271 20).trans ho
  have hv2 : M2.1 271 21 = nI v := (hf2.p1 271 21).trans hv
  have hr2 : M2.1 271 22 = nI 3 := (hf2.p1 271 22).trans hr
  refine k_isWordHere g2 18 (by omega) (by decide +kernel) (fun e1 => br_f (by decide) ?_) (fun e1 => br_t (by decide) ?_)
  · refine k_piles g2 (by rw [e1]; decide) p2 h99 (a := 29) (by omega) (fun M3 hf3 g3 p3 => ?_)
    refine ⟨_, rfl, ?_⟩
    have hf4 : q_fs [] [(271, 22)] M3 (q_si M3 271 22 (Int32.ofInt 0)) := q_fs.rf.s1
    exact ⟨z_1, hor e1 _ ((hf2.mono.tr hf3.mono).tr hf4.mono) ((lo2.tr (lowD.of hf3)).tr (lowD.of hf4)) ⟨g3.fs hf4, (c2.of (hf3.c1 279)).of (hf4.c1 279), p3.of (hf4.c1 283) (hf4.p1 271 19), ⟨(hf4.p1 271 20).trans ((hf3.p1 271 20).trans ho2), o6⟩, ⟨(hf4.p1 271 21).trans ((hf3.p1 271 21).trans hv2), v40⟩, q_si_s⟩⟩
  · refine k_top p2 ?_
    refine z_eq (nn (tp P0)) 41 (fun z => ?_) (fun z => ?_)
    · have t41 : tp P0 = 41 := by
        rw [en] at z
        split at z <;> omega
      obtain ⟨k, P2, rfl, k30, ko, kl, hsq, hbad⟩ := hk e1 t41
      obtain ⟨p19, p100, pp⟩ := p2
      rw [List.length_cons] at p19 p100
      refine k_isSignHere g2 93 (by decide) (fun e2 => bn_t (by decide) ?_) (fun e2 => bn_f rfl ?_)
      · refine ⟨_, p19, ?_⟩
        refine ⟨nI (nts k ++ P2).length, by (first | assumption | (simp only [z_nat, z_lit, ← Int32.ofInt_add, ← Int32.ofInt_sub, ← Int32.ofInt_mul]; exact congrArg Int32.ofInt (by omega)) | (simp only [z_nat, z_lit, ← Int32.ofInt_add, ← Int32.ofInt_sub, ← Int32.ofInt_mul]; done) | exact congrArg Int32.ofInt (by omega) | rfl), ?_⟩
        refine ⟨_, ho2, ?_⟩
        refine ⟨nI (o - 1), by (first | assumption | (simp only [z_nat, z_lit, ← Int32.ofInt_add, ← Int32.ofInt_sub, ← Int32.ofInt_mul]; exact congrArg Int32.ofInt (by omega)) | (simp only [z_nat, z_lit, ← Int32.ofInt_add, ← Int32.ofInt_sub, ← Int32.ofInt_mul]; done) | exact congrArg Int32.ofInt (by omega) | rfl), ?_⟩
        refine ⟨_, g2.2.2.1, ?_⟩
        refine ⟨nI (i + 1), by (first | assumption | (simp only [z_nat, z_lit, ← Int32.ofInt_add, ← Int32.ofInt_sub, ← Int32.ofInt_mul]; exact congrArg Int32.ofInt (by omega)) | (simp only [z_nat, z_lit, ← Int32.ofInt_add, ← Int32.ofInt_sub, ← Int32.ofInt_mul]; done) | exact congrArg Int32.ofInt (by omega) | rfl), ?_⟩
        have hf3 : q_fs [] [(271, 19), (271, 20)] M2 (q_si (q_si M2 271 19 (nI (nts k ++ P2).length)) 271 20 (nI (o - 1))) := q_fs.rf.s1.s1
        have hf4 : q_fs [] [(271, 8), (271, 19), (271, 20)] M2 (q_si (q_si (q_si M2 271 19 (nI (nts k ++ P2).length)) 271 20 (nI (o - 1))) 271 8 (nI (i + 1))) := q_fs.rf.s1.s1.s1
        have g4 := (g2.fs hf3).nx (v := nI (i + 1)) (by rw [e2]; decide) rfl
        refine k_closesNots k30 (k := k) (o := o - 1) ⟨rfl, by omega, pp.2.2.eq (fun q _ => hf4.p1 283 q)⟩ (c2.of (hf4.c1 279)) (by rw [List.length_append]; exact kl) rfl (by omega) (by omega) (fun M5 hf5 lo5 p5 c5 o5 => ⟨z_1, ?_⟩)
        exact hsq e1 e2 M5 ((hf2.mono.tr hf4.mono).tr hf5.mono) ((lo2.tr (lowD.of hf4)).tr lo5) ⟨g4.fs hf5, c5, p5, ⟨o5, by omega⟩, ⟨(hf5.p1 271 21).trans ((hf4.p1 271 21).trans hv2), v40⟩, (hf5.p1 271 22).trans ((hf4.p1 271 22).trans hr2)⟩
      · exact k_wrongs g2 1 (by omega) (fun M3 hf3 g3 => ⟨z_0, hbad e1 e2 M3 (hf2.mono.tr hf3.mono) g3⟩)
    · have t41 : ¬ tp P0 = 41 := fun y => z (by rw [y]; rfl)
      exact ⟨z_0, hend e1 t41 M2 hf2.mono lo2 ⟨g2, c2, p2, ⟨ho2, o6⟩, ⟨hv2, v40⟩, hr2⟩⟩
end LT
