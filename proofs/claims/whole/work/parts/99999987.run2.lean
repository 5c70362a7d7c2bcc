/-! all acts of a SCRIPT: the class's run, the reference's run -/
section RB
variable {L : Nat} {xs : Nat → Int32} {E : q_E} {d : Nat} {M : q_M} {t : q_T} {n : sN} {Q : Option Value → q_M → Prop} {P : q_M → Prop}
variable {x : Nat → Nat} {len : Nat} {tok : Nat → Tok} {T : Nat}
/-- N acts: their tokens a, details V, times Tm -/
def acS (t : q_T) (x : Nat → Nat) (len : Nat) (tok : Nat → Tok) (N : Nat) (a V Tm : Nat → Nat) : Prop := a 0 = 0 ∧ ∀ k, k < N → isA tok (a k) ∧ actP t x len tok (a k) = .inr ((V k, Tm k), a (k + 1))
def mmC (M : q_M) (tok : Nat → Tok) (N : Nat) (a V Tm : Nat → Nat) : Prop := ∀ k, k < N → newS k M tok (a k) (V k) ∧ M.1 254 k = nI (Tm k)
def mmR (M : q_M) (tok : Nat → Tok) (N : Nat) (a V Tm : Nat → Nat) : Prop := ∀ k, k < N → newR k M tok (a k) (V k) ∧ M.1 297 k = nI (Tm k)
theorem scC.ex {N : Nat} {a : Nat → Nat} (h : scC M t x len tok N a) : ∃ V Tm, acS t x len tok N a V Tm ∧ mmC M tok N a V Tm := by
  obtain ⟨h0, h⟩ := h
  have e : ∀ k, ∃ v m, k < N → isA tok (a k) ∧ actP t x len tok (a k) = .inr ((v, m), a (k + 1)) ∧ newS k M tok (a k) v ∧ M.1 254 k = nI m := fun k => by
    by_cases q : k < N
    · obtain ⟨h1, v, m, h2, h3, h4⟩ := h k q
      exact ⟨v, m, fun _ => ⟨h1, h2, h3, h4⟩⟩
    · exact ⟨0, 0, fun z => absurd z q⟩
  refine ⟨fun k => Classical.choose (e k), fun k => Classical.choose (Classical.choose_spec (e k)), ⟨h0, fun k hk => ?_⟩, fun k hk => ?_⟩
  · have := Classical.choose_spec (Classical.choose_spec (e k)) hk
    exact ⟨this.1, this.2.1⟩
  · exact (Classical.choose_spec (Classical.choose_spec (e k)) hk).2.2
theorem acS.ok {N : Nat} {a V Tm : Nat → Nat} (h : acS t x len tok N a V Tm) {k : Nat} (hk : k < N) : okA t tok (a k) (V k) ∧ 1 ≤ Tm k ∧ Tm k ≤ 20 := actP_ok (h.2 k hk).1 (h.2 k hk).2
def isF2 (t : q_T) (tok : Nat → Tok) (N : Nat) (a V : Nat → Nat) (F : Nat → sN → aRs) : Prop := ∀ k, k < N → ∀ n, b_J t n → isDo t tok (a k) (V k) n (F k n) ∧ aOK t (F k n)
theorem isF2_ex {N : Nat} {a V Tm : Nat → Nat} (h : acS t x len tok N a V Tm) (bt : b_T t ∧ b_T2 t) : ∃ F, isF2 t tok N a V F := ⟨fun k n => Classical.epsilon (fun R => isDo t tok (a k) (V k) n R ∧ aOK t R), fun k hk n hJ => Classical.epsilon_spec (isDo_ex (h.ok hk).1 hJ ⟨bt, hJ.1.1⟩)⟩
theorem mmC.fs {N : Nat} {a V Tm : Nat → Nat} {M' : q_M} {l : List Nat} {f : List (Nat × Nat)} (h : mmC M tok N a V Tm) (hf : q_fs l f M M') (o : (l.all (fun a => !(c_rng 252 255 a)) && f.all (fun q => !(c_rng 252 255 q.1))) = true := by exact rfl) : mmC M' tok N a V Tm := fun k hk => ⟨⟨(hf 252 k (q_out o rfl k)).1.trans (h k hk).1.1, (hf 253 k (q_out o rfl k)).1.trans (h k hk).1.2.1, fun z p hp => (hf 255 _ (q_out o rfl _)).1.trans ((h k hk).1.2.2 z p hp)⟩, (hf 254 k (q_out o rfl k)).1.trans (h k hk).2⟩
theorem mmR.fs {N : Nat} {a V Tm : Nat → Nat} {M' : q_M} {l : List Nat} {f : List (Nat × Nat)} (h : mmR M tok N a V Tm) (hf : q_fs l f M M') (o : (l.all (fun a => !(c_rng 295 298 a)) && f.all (fun q => !(c_rng 295 298 q.1))) = true := by exact rfl) : mmR M' tok N a V Tm := fun k hk => ⟨⟨(hf 295 k (q_out o rfl k)).1.trans (h k hk).1.1, (hf 296 k (q_out o rfl k)).1.trans (h k hk).1.2.1, fun z p hp => (hf 298 _ (q_out o rfl _)).1.trans ((h k hk).1.2.2 z p hp)⟩, (hf 297 k (q_out o rfl k)).1.trans (h k hk).2⟩
theorem smT_b {Tm : Nat → Nat} : ∀ {k : Nat}, (∀ i, i < k → Tm i ≤ 20) → fb_sm Tm k ≤ 20 * k
  | 0, _ => Nat.le_refl _
  | k + 1, h => by
    have a := smT_b (k := k) (fun i hi => h i (by omega))
    have b := h k (by omega)
    rw [fb_sm_succ]
    omega
set_option maxRecDepth 100000 in
set_option maxHeartbeats 4000000 in
theorem k2_runAll {N : Nat} {a V Tm : Nat → Nat} {F : Nat → sN → aRs} (g : g_Z 43 M t n) (hJ : b_J t n) (hN : M.1 251 7 = nI N) (h60 : N ≤ 60) (ac : acS t x len tok N a V Tm) (mc : mmC M tok N a V Tm) (hF : isF2 t tok N a V F) (h1 : ∀ m M', rnA F Tm N 0 n = .inr m → q_fs lC_43 fC M M' → g_Z 43 M' t m → b_J t m → Q (some (.int (nI (fb_sm Tm N)))) M') (h0 : ∀ k M', rnA F Tm N 0 n = .inl k → k < N → q_fs lC_43 fC M M' → Q (some (.int (Int32.ofInt (-1)))) (q_si M' 251 8 (nI k))) : q_C q_mt (L, xs, q_shp) E nX7_runAll (d + 7) 0 0 [.ref 251] M Q := by
  have n0 := n
  have main : ∀ r k m M', k + r = N → rnA F Tm N 0 n = rnA F Tm r k m → q_fs lC_43 fC M M' → g_Z 43 M' t m → b_J t m → ∀ u1 u2 l3, u1 = nI (fb_sm Tm k) → u2 = nI k → q_G q_mt (L, xs, q_shp) E nX7_runAll (d + 7) 0 0 (q_Q (L, xs, q_shp) E Q) 4 [some (.ref 251), some (.int (u1)), some (.int (u2)), l3] [] M' := by
    intro r
    induction r with
    | zero =>
      rintro k m M' hk er hf g' hJ' u1 u2 l3 rfl rfl
      obtain rfl : k = N := by omega
      have e7 : M'.1 251 7 = nI k := (hf.p1 251 7).trans hN
      refine w_at 90 [4, 14] ?_
      refine ⟨_, e7, ?_⟩
      exact z_le (k : Int) k (fun _ => ⟨_, rfl, h1 m M' er hf g' hJ'⟩) (fun z => by omega)
    | succ r ih =>
      rintro k m M' hk er hf g' hJ' u1 u2 l3 rfl rfl
      have e7 : M'.1 251 7 = nI N := (hf.p1 251 7).trans hN
      have hkN : k < N := by omega
      obtain ⟨ok, tm1, tm2⟩ := ac.ok hkN
      have sb := smT_b (Tm := Tm) (k := k) (fun i hi => (ac.ok (by omega)).2.2)
      have er : rnA F Tm N 0 n = match inT (F k) (Tm k) m with
        | none => .inl k
        | some m' => rnA F Tm r (k + 1) m' := er
      have inner : ∀ j ti m' M2, ti + j = Tm k → inT (F k) (Tm k) m = inT (F k) j m' → q_fs lC_43 fC M M2 → g_Z 43 M2 t m' → b_J t m' → ∀ v1 v3, v1 = nI (fb_sm Tm k + ti) → v3 = nI ti → q_G q_mt (L, xs, q_shp) E nX7_runAll (d + 7) 0 0 (q_Q (L, xs, q_shp) E Q) 14 [some (.ref 251), some (.int (v1)), some (.int (nI k)), some (.int (v3))] [] M2 := by
        intro j
        induction j with
        | zero =>
          rintro ti m' M2 hti ei hf2 g2 hJ2 v1 v3 rfl rfl
          obtain rfl : ti = Tm k := by omega
          rw [ei] at er
          have e54 := ((mc.fs hf2) k hkN).2
          refine w_at 90 [4, 14] ?_
          refine ⟨k, _, by (first | assumption | (simp only [z_nat, z_lit, ← Int32.ofInt_add, ← Int32.ofInt_sub, ← Int32.ofInt_mul]; exact congrArg Int32.ofInt (by omega)) | (simp only [z_nat, z_lit, ← Int32.ofInt_add, ← Int32.ofInt_sub, ← Int32.ofInt_mul]; done) | exact congrArg Int32.ofInt (by omega) | rfl), by (dsimp only; omega), e54, ?_⟩
          refine z_le (Tm k : Int) (Tm k) (fun _ => ?_) (fun z => by omega)
          exact ih (k + 1) m' M2 (by omega) er hf2 g2 hJ2 _ _ _ (by rw [fb_sm_succ]) (by (first | assumption | (simp only [z_nat, z_lit, ← Int32.ofInt_add, ← Int32.ofInt_sub, ← Int32.ofInt_mul]; exact congrArg Int32.ofInt (by omega)) | (simp only [z_nat, z_lit, ← Int32.ofInt_add, ← Int32.ofInt_sub, ← Int32.ofInt_mul]; done) | exact congrArg Int32.ofInt (by omega) | rfl))
        | succ j ihj =>
          rintro ti m' M2 hti ei hf2 g2 hJ2 v1 v3 rfl rfl
          have mc2 := (mc.fs hf2) k hkN
          obtain ⟨hd, hok⟩ := hF k hkN m' hJ2
          have ei : inT (F k) (Tm k) m = match F k m' with
            | none => none
            | some (_, m2) => inT (F k) j m2 := ei
          refine w_at 90 [4, 14] ?_
          refine ⟨k, _, by (first | assumption | (simp only [z_nat, z_lit, ← Int32.ofInt_add, ← Int32.ofInt_sub, ← Int32.ofInt_mul]; exact congrArg Int32.ofInt (by omega)) | (simp only [z_nat, z_lit, ← Int32.ofInt_add, ← Int32.ofInt_sub, ← Int32.ofInt_mul]; done) | exact congrArg Int32.ofInt (by omega) | rfl), by (dsimp only; omega), mc2.2, ?_⟩
          refine z_le (Tm k : Int) ti (fun z => by omega) (fun _ => ?_)
          refine k2_runAct g2 hJ2 (by omega) mc2.1 ok hd ⟨fun e => ?_, fun v m2 e M3 hf3 g3 => ?_⟩
          · rw [e] at ei
            rw [ei] at er
            refine z_le 0 (-3) (fun z => by omega) (fun _ => ?_)
            refine ⟨_, rfl, ?_⟩
            exact ⟨_, rfl, h0 k M2 er hkN hf2⟩
          · obtain ⟨b1, b2, b3⟩ := hok v m2 e
            rw [e] at ei
            refine z_le 0 v (fun _ => ?_) (fun z => by omega)
            exact ihj (ti + 1) m2 M3 (by omega) ei (hf2.tr hf3) g3 b1 _ _ (by (first | assumption | (simp only [z_nat, z_lit, ← Int32.ofInt_add, ← Int32.ofInt_sub, ← Int32.ofInt_mul]; exact congrArg Int32.ofInt (by omega)) | (simp only [z_nat, z_lit, ← Int32.ofInt_add, ← Int32.ofInt_sub, ← Int32.ofInt_mul]; done) | exact congrArg Int32.ofInt (by omega) | rfl)) (by (first | assumption | (simp only [z_nat, z_lit, ← Int32.ofInt_add, ← Int32.ofInt_sub, ← Int32.ofInt_mul]; exact congrArg Int32.ofInt (by omega)) | (simp only [z_nat, z_lit, ← Int32.ofInt_add, ← Int32.ofInt_sub, ← Int32.ofInt_mul]; done) | exact congrArg Int32.ofInt (by omega) | rfl))
      refine w_at 90 [4, 14] ?_
      refine ⟨_, e7, ?_⟩
      refine z_le (N : Int) k (fun z => by omega) (fun _ => ?_)
      exact inner (Tm k) 0 m M' (by omega) rfl hf g' hJ' _ _ (by rw [Nat.add_zero]) rfl
  refine w_in 90 [4, 14] ?_
  exact main N 0 n M (by omega) rfl q_fs.rf g hJ _ _ _ rfl rfl
-- the reference's run, behind its reading
set_option maxRecDepth 100000 in
set_option maxHeartbeats 4000000 in
theorem k_runs {N : Nat} {a V Tm : Nat → Nat} {F : Nat → sN → aRs} (g : g_R M t n) (hJ : b_J t n) (hN : M.1 271 45 = nI N) (h60 : N ≤ 60) (ac : acS t x len tok N a V Tm) (mc : mmR M tok N a V Tm) (hF : isF2 t tok N a V F) (hn : ∀ k, k < 634 → M.1 285 k = Int32.ofInt (n k)) {c : Nat} {H : Nat → sN} (hH : g_H M c H) (h1 : ∀ m M', rnA F Tm N 0 n = .inr m → q_fs lG fD M M' → g_R M' t m → b_J t m → N = 0 → Q (some (.int (nI 0))) M') (h2 : ∀ m M' M'', rnA F Tm N 0 n = .inr m → q_fs lG fD M M' → g_R M' t m → b_J t m → 0 < N → q_fs [286] [(271, 28)] M' M'' → g_H M'' (min 20 (c + 1)) (hNx c H n) → Q (some (.int (nI (fb_sm Tm N)))) M'') (h0 : ∀ k M', rnA F Tm N 0 n = .inl k → k < N → q_fs lG ((271, 29) :: fD) M M' → M'.1 271 29 = nI k → r_N 284 0 M' n → Q (some (.int (Int32.ofInt (-2)))) M') : ∀ l1 l2 l3, l1 = nI 0 → l2 = nI 0 → q_G q_mt (L, xs, q_shp) E nX12_script (d + 15) 0 0 (q_Q (L, xs, q_shp) E Q) 57 [some (.ref 271), some (.int (l1)), some (.int (l2)), l3] [] M := by
  have main : ∀ r k m M', k + r = N → rnA F Tm N 0 n = rnA F Tm r k m → q_fs lG fD M M' → g_R M' t m → b_J t m → ∀ u1 u2 l3, u1 = nI (fb_sm Tm k) → u2 = nI k → q_G q_mt (L, xs, q_shp) E nX12_script (d + 15) 0 0 (q_Q (L, xs, q_shp) E Q) 57 [some (.ref 271), some (.int (u1)), some (.int (u2)), l3] [] M' := by
    intro r
    induction r with
    | zero =>
      rintro k m M' hk er hf g' hJ' u1 u2 l3 rfl rfl
      obtain rfl : k = N := by omega
      have e7 : M'.1 271 45 = nI k := (hf.p1 271 45).trans hN
      have sb := smT_b (Tm := Tm) (k := k) (fun i hi => (ac.ok (by omega)).2.2)
      have s0 : 0 < k → 0 < fb_sm Tm k := fun z => by
        obtain ⟨k', rfl⟩ : ∃ k', k = k' + 1 := ⟨k - 1, by omega⟩
        rw [fb_sm_succ]
        have := (ac.ok (k := k') (by omega)).2.1
        omega
      refine w_at 90 [57, 67] ?_
      refine ⟨_, e7, ?_⟩
      refine z_le (k : Int) k (fun _ => ?_) (fun z => by omega)
      by_cases q : k = 0
      · subst q
        refine z_le ((fb_sm Tm 0 : Nat) : Int) 0 (fun _ => ⟨_, rfl, h1 m M' er hf g' hJ' rfl⟩) (fun z => absurd (show (0 : Int) < 0 from z) (by decide))
      · have s0 := s0 (by omega)
        refine z_le ((fb_sm Tm k : Nat) : Int) 0 (fun z => by omega) (fun _ => ?_)
        exact k_remembers (hH.eq (hf.p1 271 28) (hf.c1 286)) (fun i hi => by rw [hf.c1 285]; exact hn i hi) (fun M2 hf2 hH2 => ⟨_, rfl, h2 m M' M2 er hf g' hJ' (by omega) hf2 hH2⟩)
    | succ r ih =>
      rintro k m M' hk er hf g' hJ' u1 u2 l3 rfl rfl
      have e7 : M'.1 271 45 = nI N := (hf.p1 271 45).trans hN
      have hkN : k < N := by omega
      obtain ⟨ok, tm1, tm2⟩ := ac.ok hkN
      have sb := smT_b (Tm := Tm) (k := k) (fun i hi => (ac.ok (by omega)).2.2)
      have er : rnA F Tm N 0 n = match inT (F k) (Tm k) m with
        | none => .inl k
        | some m' => rnA F Tm r (k + 1) m' := er
      have inner : ∀ j ti m' M2, ti + j = Tm k → inT (F k) (Tm k) m = inT (F k) j m' → q_fs lG fD M M2 → g_R M2 t m' → b_J t m' → ∀ v1 v3, v1 = nI (fb_sm Tm k + ti) → v3 = nI ti → q_G q_mt (L, xs, q_shp) E nX12_script (d + 15) 0 0 (q_Q (L, xs, q_shp) E Q) 67 [some (.ref 271), some (.int (v1)), some (.int (nI k)), some (.int (v3))] [] M2 := by
        intro j
        induction j with
        | zero =>
          rintro ti m' M2 hti ei hf2 g2 hJ2 v1 v3 rfl rfl
          obtain rfl : ti = Tm k := by omega
          rw [ei] at er
          have e54 := ((mc.fs hf2) k hkN).2
          refine w_at 90 [57, 67] ?_
          refine ⟨k, _, by (first | assumption | (simp only [z_nat, z_lit, ← Int32.ofInt_add, ← Int32.ofInt_sub, ← Int32.ofInt_mul]; exact congrArg Int32.ofInt (by omega)) | (simp only [z_nat, z_lit, ← Int32.ofInt_add, ← Int32.ofInt_sub, ← Int32.ofInt_mul]; done) | exact congrArg Int32.ofInt (by omega) | rfl), by (dsimp only; omega), e54, ?_⟩
          refine z_le (Tm k : Int) (Tm k) (fun _ => ?_) (fun z => by omega)
          exact ih (k + 1) m' M2 (by omega) er hf2 g2 hJ2 _ _ _ (by rw [fb_sm_succ]) (by (first | assumption | (simp only [z_nat, z_lit, ← Int32.ofInt_add, ← Int32.ofInt_sub, ← Int32.ofInt_mul]; exact congrArg Int32.ofInt (by omega)) | (simp only [z_nat, z_lit, ← Int32.ofInt_add, ← Int32.ofInt_sub, ← Int32.ofInt_mul]; done) | exact congrArg Int32.ofInt (by omega) | rfl))
        | succ j ihj =>
          rintro ti m' M2 hti ei hf2 g2 hJ2 v1 v3 rfl rfl
          have mc2 := (mc.fs hf2) k hkN
          obtain ⟨hd, hok⟩ := hF k hkN m' hJ2
          have ei : inT (F k) (Tm k) m = match F k m' with
            | none => none
            | some (_, m2) => inT (F k) j m2 := ei
          refine w_at 90 [57, 67] ?_
          refine ⟨k, _, by (first | assumption | (simp only [z_nat, z_lit, ← Int32.ofInt_add, ← Int32.ofInt_sub, ← Int32.ofInt_mul]; exact congrArg Int32.ofInt (by omega)) | (simp only [z_nat, z_lit, ← Int32.ofInt_add, ← Int32.ofInt_sub, ← Int32.ofInt_mul]; done) | exact congrArg Int32.ofInt (by omega) | rfl), by (dsimp only; omega), mc2.2, ?_⟩
          refine z_le (Tm k : Int) ti (fun z => by omega) (fun _ => ?_)
          refine k_does g2 hJ2 (by omega) mc2.1 ok hd hok ⟨fun e => bn_f rfl ?_, fun v m2 e M3 hf3 g3 => bn_t (by decide) ?_⟩
          · rw [e] at ei
            rw [ei] at er
            refine ⟨_, rfl, ?_⟩
            refine k_laysBack (n := n) (fun i hi => ?_) (fun M3 hf3 r3 => ⟨_, rfl, h0 k M3 er hkN ((hf2.mono.s1).tr hf3.mono) ((hf3.p1 271 29).trans q_si_s) r3⟩)
            exact (q_si_nn (by omega)).trans (by rw [hf2.c1 285]; exact hn i hi)
          · obtain ⟨b1, b2, b3⟩ := hok v m2 e
            rw [e] at ei
            exact ihj (ti + 1) m2 M3 (by omega) ei (hf2.tr hf3) g3 b1 _ _ (by (first | assumption | (simp only [z_nat, z_lit, ← Int32.ofInt_add, ← Int32.ofInt_sub, ← Int32.ofInt_mul]; exact congrArg Int32.ofInt (by omega)) | (simp only [z_nat, z_lit, ← Int32.ofInt_add, ← Int32.ofInt_sub, ← Int32.ofInt_mul]; done) | exact congrArg Int32.ofInt (by omega) | rfl)) (by (first | assumption | (simp only [z_nat, z_lit, ← Int32.ofInt_add, ← Int32.ofInt_sub, ← Int32.ofInt_mul]; exact congrArg Int32.ofInt (by omega)) | (simp only [z_nat, z_lit, ← Int32.ofInt_add, ← Int32.ofInt_sub, ← Int32.ofInt_mul]; done) | exact congrArg Int32.ofInt (by omega) | rfl))
      refine w_at 90 [57, 67] ?_
      refine ⟨_, e7, ?_⟩
      refine z_le (N : Int) k (fun z => by omega) (fun _ => ?_)
      exact inner (Tm k) 0 m M' (by omega) rfl hf g' hJ' _ _ (by rw [Nat.add_zero]) rfl
  rintro l1 l2 l3 rfl rfl
  exact main N 0 n M (by omega) rfl q_fs.rf g hJ _ _ _ rfl rfl
end RB
