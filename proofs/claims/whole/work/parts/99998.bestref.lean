/-! the best row of the reference; the call best -/
section BF
variable {L : Nat} {xs : Nat → Int32} {E : q_E} {d : Nat} {M : q_M} {t : q_T} {n : sN} {Q : Option Value → q_M → Prop} {P : q_M → Prop}
variable {alw : Nat → Nat → Bool} {wt : Nat → Bool}
theorem vl_row {cst : Nat → Nat → Int} {row : Nat → Nat} : ∀ {k p : Nat}, vl cst p (lrow row p k) = fb_si (fun i => cst (p + i) (row (p + i))) k
  | 0, _ => rfl
  | k + 1, p => by
    show cst p (row p) + vl cst (p + 1) (lrow row (p + 1) k) = _
    rw [vl_row (k := k) (p := p + 1), Nat.add_comm k 1, fb_si_split, show fb_si (fun i => cst (p + i) (row (p + i))) 1 = cst p (row p) by rw [fb_si_succ]; show 0 + cst (p + 0) (row (p + 0)) = _; rw [Int.zero_add, Nat.add_zero]]
    congr 1
    exact fb_si_cong (fun i _ => by rw [show p + 1 + i = p + (1 + i) by omega])
/-- the best row so far -/
def g_bR (M : q_M) (t : q_T) (b : Int) (r : List Nat) : Prop := b = -1 ∨ ∃ br : Nat → Nat, r = lrow br 0 (t 0 0) ∧ ∀ p, p < t 0 0 → M.1 292 p = nI (br p)
abbrev lB2 : List Nat := [289, 290, 292]
-- one row: its sum, the better one, the next row
set_option maxRecDepth 100000 in
set_option maxHeartbeats 4000000 in
theorem k_bestStep (g : g_R M t n) (wl : g_W M t) (bl : b_L t) (hs : g_st M t alw) {e : Nat} (he : e < t 8 0) (hN : 0 < t 0 0) (pl : Int32) (hpl : ∀ p, p < t 0 0 → bt pl p = wt p) {row : Nat → Nat} {b : Int} {r : List Nat} {M' : q_M} (hd : dst row (t 0 0) (t 5 0)) (hal : ∀ i, i < t 0 0 → alw i (row i) = true) (hrow : g_Y M' row (t 0 0)) (hb1 : -1 ≤ b) (hb2 : b ≤ 108000) (hbr : g_bR M' t b r) (hf : q_fs lB2 [] M M') (nx : ∀ b2 r2, bB (vl (cstE t e wt) 0) [lrow row 0 (t 0 0)] b r = (b2, r2) → -1 ≤ b2 → b2 ≤ 108000 → (∀ M3, remP (cWy t (t 9 e) alw) (t 5 0) (t 0 0) row (t 0 0) = [] → q_fs lB2 [] M M3 → g_bR M3 t b2 r2 → ∀ x y, q_G q_mt (L, xs, q_shp) E nX12_bestPoints (d + 6) 0 0 (q_Q (L, xs, q_shp) E Q) 13 [some (.ref 271), some (.int (nI e)), some (.int (pl)), some (.int (Int32.ofInt b2)), some (.int (Int32.ofInt 0)), x, y] [] M3) ∧ ∀ r' M3, remP (cWy t (t 9 e) alw) (t 5 0) (t 0 0) row (t 0 0) = lrow r' 0 (t 0 0) :: remP (cWy t (t 9 e) alw) (t 5 0) (t 0 0) r' (t 0 0) → dst r' (t 0 0) (t 5 0) → (∀ i, i < t 0 0 → alw i (r' i) = true) → g_Y M3 r' (t 0 0) → q_fs lB2 [] M M3 → g_bR M3 t b2 r2 → ∀ x y, q_G q_mt (L, xs, q_shp) E nX12_bestPoints (d + 6) 0 0 (q_Q (L, xs, q_shp) E Q) 13 [some (.ref 271), some (.int (nI e)), some (.int (pl)), some (.int (Int32.ofInt b2)), some (.int (Int32.ofInt 1)), x, y] [] M3) : ∀ x y, q_G q_mt (L, xs, q_shp) E nX12_bestPoints (d + 6) 0 0 (q_Q (L, xs, q_shp) E Q) 13 [some (.ref 271), some (.int (nI e)), some (.int (pl)), some (.int (Int32.ofInt b)), some (.int (Int32.ofInt 1)), x, y] [] M' := by
  have h6 := g.r6
  have h10 := g.d10
  have be := (g.be he).1
  have c18 := cst_18 (wt := wt) (e := e) g.A
  have c0 := cst_0 (t := t) (e := e) (wt := wt)
  have g' := g.fs hf
  have ev : vl (cstE t e wt) 0 (lrow row 0 (t 0 0)) = fb_si (fun p => cstE t e wt p (row p)) (t 0 0) := by
    rw [vl_row]
    exact fb_si_cong (fun i _ => by rw [Nat.zero_add])
  have sb : ∀ m, m ≤ t 0 0 → 0 ≤ fb_si (fun p => cstE t e wt p (row p)) m ∧ fb_si (fun p => cstE t e wt p (row p)) m ≤ m * 18000 := fun m hm => si_b (fun p hp => ⟨c0 p (row p), c18 p (row p) (hd.1 p (by omega))⟩)
  have sN := sb (t 0 0) (Nat.le_refl _)
  -- the next row, whichever is the better
  have go : ∀ (M2 : q_M) (b2 : Int) (r2 : List Nat), bB (vl (cstE t e wt) 0) [lrow row 0 (t 0 0)] b r = (b2, r2) → -1 ≤ b2 → b2 ≤ 108000 → q_fs lB2 [] M M2 → g_Y M2 row (t 0 0) → g_bR M2 t b2 r2 → ∀ l5 l6 : Int32, q_G q_mt (L, xs, q_shp) E nX12_bestPoints (d + 6) 0 0 (q_Q (L, xs, q_shp) E Q) 114 [some (.ref 271), some (.int (nI e)), some (.int (pl)), some (.int (Int32.ofInt b2)), some (.int (Int32.ofInt 1)), some (.int (l5)), some (.int (l6))] [] M2 := by
    intro M2 b2 r2 hbb hb3 hb4 hf2 hrow2 hbr2 l5 l6
    obtain ⟨n0, n1⟩ := nx b2 r2 hbb hb3 hb4
    have g2 := g.fs hf2
    refine w_at 90 [13, 24, 83] ?_
    refine ⟨0, _, by (first | assumption | (simp only [z_nat, z_lit, ← Int32.ofInt_add, ← Int32.ofInt_sub, ← Int32.ofInt_mul]; exact congrArg Int32.ofInt (by omega)) | (simp only [z_nat, z_lit, ← Int32.ofInt_add, ← Int32.ofInt_sub, ← Int32.ofInt_mul]; done) | exact congrArg Int32.ofInt (by omega) | rfl), by (dsimp only; omega), g2.R0, ?_⟩
    refine k_pairOf g2 e he ?_
    refine k_goesToNext g2 (wl.fs hf2) bl (hs.eq (hf2.c1 291) (by rw [hf2.c1 271])) be hN hd hal hrow2 (fun hz M3 hf3 => ?_) (fun r' M3 z1 z2 z3 z4 hf3 => ?_)
    · exact n0 M3 hz (hf2.tr hf3.mono) (by unfold g_bR at hbr2 ⊢; rw [hf3.c1 292]; exact hbr2) _ _
    · exact n1 r' M3 z1 z2 z3 z4 (hf2.tr hf3.mono) (by unfold g_bR at hbr2 ⊢; rw [hf3.c1 292]; exact hbr2) _ _
  have S := lp_up (W := fun m => ∀ u v, u = Int32.ofInt (fb_si (fun p => cstE t e wt p (row p)) m) → v = nI m → q_G q_mt (L, xs, q_shp) E nX12_bestPoints (d + 6) 0 0 (q_Q (L, xs, q_shp) E Q) 24 [some (.ref 271), some (.int (nI e)), some (.int (pl)), some (.int (Int32.ofInt b)), some (.int (Int32.ofInt 1)), some (.int (u)), some (.int (v))] [] M') (t 0 0) ?_ ?_ 0 (Nat.zero_le _)
  · intro x y
    refine w_at 90 [13, 24, 83] ?_
    refine z_eq 1 0 (fun z => by omega) (fun _ => ?_)
    exact S _ _ rfl rfl
  · rintro u v rfl rfl
    refine w_at 90 [13, 24, 83, 114] ?_
    refine ⟨0, _, by (first | assumption | (simp only [z_nat, z_lit, ← Int32.ofInt_add, ← Int32.ofInt_sub, ← Int32.ofInt_mul]; exact congrArg Int32.ofInt (by omega)) | (simp only [z_nat, z_lit, ← Int32.ofInt_add, ← Int32.ofInt_sub, ← Int32.ofInt_mul]; done) | exact congrArg Int32.ofInt (by omega) | rfl), by (dsimp only; omega), g'.R0, ?_⟩
    refine z_le (t 0 0) (t 0 0) (fun _ => ?_) (fun z => by omega)
    refine z_le (fb_si (fun p => cstE t e wt p (row p)) (t 0 0)) b (fun hle => ?_) (fun hgt => ?_)
    · refine go M' b r ?_ hb1 hb2 hf hrow hbr _ _
      show (if b < vl (cstE t e wt) 0 (lrow row 0 (t 0 0)) then _ else _) = _
      rw [ev, if_neg (by omega)]
      rfl
    · -- it is the better one: its dives are laid
      have C := lp_m (W := fun i M2 => ∀ v, v = nI i → q_G q_mt (L, xs, q_shp) E nX12_bestPoints (d + 6) 0 0 (q_Q (L, xs, q_shp) E Q) 83 [some (.ref 271), some (.int (nI e)), some (.int (pl)), some (.int (Int32.ofInt (fb_si (fun p => cstE t e wt p (row p)) (t 0 0)))), some (.int (Int32.ofInt 1)), some (.int (Int32.ofInt (fb_si (fun p => cstE t e wt p (row p)) (t 0 0)))), some (.int (v))] [] M2) (J := fun i M2 => q_fs [292] [] M' M2 ∧ ∀ p, p < i → M2.1 292 p = nI (row p)) (t 0 0) ?_ ?_ 0 M' (Nat.zero_le _) ⟨q_fs.rf, fun p hp => by omega⟩
      · exact C _ rfl
      · rintro M2 ⟨hf2, hm2⟩ v rfl
        have g2 := g'.fs hf2
        refine w_at 90 [13, 24, 83, 114] ?_
        refine ⟨0, _, by (first | assumption | (simp only [z_nat, z_lit, ← Int32.ofInt_add, ← Int32.ofInt_sub, ← Int32.ofInt_mul]; exact congrArg Int32.ofInt (by omega)) | (simp only [z_nat, z_lit, ← Int32.ofInt_add, ← Int32.ofInt_sub, ← Int32.ofInt_mul]; done) | exact congrArg Int32.ofInt (by omega) | rfl), by (dsimp only; omega), g2.R0, ?_⟩
        refine z_le (t 0 0) (t 0 0) (fun _ => ?_) (fun z => by omega)
        refine go M2 _ (lrow row 0 (t 0 0)) ?_ (by omega) (by omega) (hf.tr hf2.mono) (fun p hp => by rw [hf2.c1 289]; exact hrow p hp) (Or.inr ⟨row, rfl, hm2⟩) _ _
        show (if b < vl (cstE t e wt) 0 (lrow row 0 (t 0 0)) then _ else _) = _
        rw [ev, if_pos (by omega)]
        rfl
      · rintro i M2 hi ⟨hf2, hm2⟩ ih v rfl
        have g2 := g'.fs hf2
        have e89 : M2.1 289 i = nI (row i) := by rw [hf2.c1 289]; exact hrow i hi
        refine w_at 90 [13, 24, 83, 114] ?_
        refine ⟨0, _, by (first | assumption | (simp only [z_nat, z_lit, ← Int32.ofInt_add, ← Int32.ofInt_sub, ← Int32.ofInt_mul]; exact congrArg Int32.ofInt (by omega)) | (simp only [z_nat, z_lit, ← Int32.ofInt_add, ← Int32.ofInt_sub, ← Int32.ofInt_mul]; done) | exact congrArg Int32.ofInt (by omega) | rfl), by (dsimp only; omega), g2.R0, ?_⟩
        refine z_le (t 0 0) (i : Int) (fun z => by omega) (fun _ => ?_)
        refine ⟨i, _, by (first | assumption | (simp only [z_nat, z_lit, ← Int32.ofInt_add, ← Int32.ofInt_sub, ← Int32.ofInt_mul]; exact congrArg Int32.ofInt (by omega)) | (simp only [z_nat, z_lit, ← Int32.ofInt_add, ← Int32.ofInt_sub, ← Int32.ofInt_mul]; done) | exact congrArg Int32.ofInt (by omega) | rfl), by (dsimp only; omega), e89, ?_⟩
        refine ⟨i, _, by (first | assumption | (simp only [z_nat, z_lit, ← Int32.ofInt_add, ← Int32.ofInt_sub, ← Int32.ofInt_mul]; exact congrArg Int32.ofInt (by omega)) | (simp only [z_nat, z_lit, ← Int32.ofInt_add, ← Int32.ofInt_sub, ← Int32.ofInt_mul]; done) | exact congrArg Int32.ofInt (by omega) | rfl), by (dsimp only; omega), rfl, ?_⟩
        refine ih _ ⟨hf2.s1, fun p hp => ?_⟩ _ (by (first | assumption | (simp only [z_nat, z_lit, ← Int32.ofInt_add, ← Int32.ofInt_sub, ← Int32.ofInt_mul]; exact congrArg Int32.ofInt (by omega)) | (simp only [z_nat, z_lit, ← Int32.ofInt_add, ← Int32.ofInt_sub, ← Int32.ofInt_mul]; done) | exact congrArg Int32.ofInt (by omega) | rfl))
        by_cases q : p = i
        · rw [q, q_si_s]
        · rw [q_si_n q]
          exact hm2 p (by omega)
  · rintro m hm ih u v rfl rfl
    have sm := sb m (by omega)
    have cm := c18 m (row m) (hd.1 m hm)
    have cm0 := c0 m (row m)
    refine w_at 90 [13, 24, 83, 114] ?_
    refine ⟨0, _, by (first | assumption | (simp only [z_nat, z_lit, ← Int32.ofInt_add, ← Int32.ofInt_sub, ← Int32.ofInt_mul]; exact congrArg Int32.ofInt (by omega)) | (simp only [z_nat, z_lit, ← Int32.ofInt_add, ← Int32.ofInt_sub, ← Int32.ofInt_mul]; done) | exact congrArg Int32.ofInt (by omega) | rfl), by (dsimp only; omega), g'.R0, ?_⟩
    refine z_le (t 0 0) (m : Int) (fun z => by omega) (fun _ => ?_)
    refine k_has pl m (by omega) (fun hh => br_f (by decide) ?_) (fun hh => br_t (by decide) ?_)
    · rw [hpl m hm] at hh
      refine ⟨m, _, by (first | assumption | (simp only [z_nat, z_lit, ← Int32.ofInt_add, ← Int32.ofInt_sub, ← Int32.ofInt_mul]; exact congrArg Int32.ofInt (by omega)) | (simp only [z_nat, z_lit, ← Int32.ofInt_add, ← Int32.ofInt_sub, ← Int32.ofInt_mul]; done) | exact congrArg Int32.ofInt (by omega) | rfl), by (dsimp only; omega), hrow m hm, ?_⟩
      refine k_formPoints g' e (row m) he (hd.1 m hm) ?_
      refine ih _ _ ?_ (by (first | assumption | (simp only [z_nat, z_lit, ← Int32.ofInt_add, ← Int32.ofInt_sub, ← Int32.ofInt_mul]; exact congrArg Int32.ofInt (by omega)) | (simp only [z_nat, z_lit, ← Int32.ofInt_add, ← Int32.ofInt_sub, ← Int32.ofInt_mul]; done) | exact congrArg Int32.ofInt (by omega) | rfl))
      rw [fb_si_succ, show cstE t e wt m (row m) = fpt t e (row m) from if_pos hh, ← Int32.ofInt_add]
    · rw [hpl m hm] at hh
      refine ih _ _ ?_ (by (first | assumption | (simp only [z_nat, z_lit, ← Int32.ofInt_add, ← Int32.ofInt_sub, ← Int32.ofInt_mul]; exact congrArg Int32.ofInt (by omega)) | (simp only [z_nat, z_lit, ← Int32.ofInt_add, ← Int32.ofInt_sub, ← Int32.ofInt_mul]; done) | exact congrArg Int32.ofInt (by omega) | rfl))
      rw [fb_si_succ, show cstE t e wt m (row m) = 0 from if_neg (by rw [hh]; decide), ← Int32.ofInt_add]
set_option maxRecDepth 100000 in
set_option maxHeartbeats 4000000 in
theorem k_bestLoop (g : g_R M t n) (wl : g_W M t) (bl : b_L t) (hs : g_st M t alw) {e : Nat} (he : e < t 8 0) (hN : 0 < t 0 0) (pl : Int32) (hpl : ∀ p, p < t 0 0 → bt pl p = wt p) (F : Int × List Nat) (hQ : ∀ M', q_fs lB2 [] M M' → g_bR M' t F.1 F.2 → Q (some (.int (Int32.ofInt F.1))) M') : ∀ (Lr : List (List Nat)) (row : Nat → Nat) (b : Int) (r : List Nat) (M' : q_M), remP (cWy t (t 9 e) alw) (t 5 0) (t 0 0) row (t 0 0) = Lr → bB (vl (cstE t e wt) 0) (lrow row 0 (t 0 0) :: Lr) b r = F → -1 ≤ b → b ≤ 108000 → dst row (t 0 0) (t 5 0) → (∀ i, i < t 0 0 → alw i (row i) = true) → g_Y M' row (t 0 0) → g_bR M' t b r → q_fs lB2 [] M M' → ∀ x y, q_G q_mt (L, xs, q_shp) E nX12_bestPoints (d + 6) 0 0 (q_Q (L, xs, q_shp) E Q) 13 [some (.ref 271), some (.int (nI e)), some (.int (pl)), some (.int (Int32.ofInt b)), some (.int (Int32.ofInt 1)), x, y] [] M' := by
  intro Lr
  induction Lr with
  | nil =>
    intro row b r M' hL hB hb1 hb2 hd hal hrow hbr hf x y
    refine k_bestStep g wl bl hs he hN pl hpl hd hal hrow hb1 hb2 hbr hf (fun b2 r2 hbb hb3 hb4 => ⟨fun M3 _ hf3 hbr3 x y => ?_, fun r' M3 z => by rw [hL] at z; cases z⟩) x y
    rw [hbb] at hB
    subst hB
    refine w_at 90 [13, 24, 83] ?_
    exact z_eq 0 0 (fun _ => ⟨_, rfl, hQ M3 hf3 hbr3⟩) (fun z => absurd rfl z)
  | cons z Lr ih =>
    intro row b r M' hL hB hb1 hb2 hd hal hrow hbr hf x y
    refine k_bestStep g wl bl hs he hN pl hpl hd hal hrow hb1 hb2 hbr hf (fun b2 r2 hbb hb3 hb4 => ⟨fun M3 w => (by rw [hL] at w; cases w), fun r' M3 z1 z2 z3 z4 hf3 hbr3 x y => ?_⟩) x y
    rw [hL] at z1
    obtain ⟨y1, y2⟩ := List.cons.inj z1
    refine ih r' b2 r2 M3 y2.symm ?_ hb3 hb4 z2 z3 z4 hbr3 hf3 x y
    rw [← hB, ← y1]
    have := bB_app (w := vl (cstE t e wt) 0) (X := [lrow row 0 (t 0 0)]) (Y := z :: Lr) (b := b) (r := r)
    rw [hbb] at this
    exact this.symm
set_option maxRecDepth 100000 in
set_option maxHeartbeats 4000000 in
theorem k_bestPoints (g : g_R M t n) (wl : g_W M t) (bl : b_L t) (hs : g_st M t alw) {a pl : Int32} (e : Nat) (he : e < t 8 0) (hpl : ∀ p, p < t 0 0 → bt pl p = wt p) (hQ : ∀ M', q_fs lB2 [] M M' → g_bR M' t (mx (vl (cstE t e wt) 0) (AL t (t 9 e) alw)) (ar (vl (cstE t e wt) 0) (AL t (t 9 e) alw)) → Q (some (.int (Int32.ofInt (mx (vl (cstE t e wt) 0) (AL t (t 9 e) alw))))) M') (ha : a = nI e := by (first | assumption | (simp only [z_nat, z_lit, ← Int32.ofInt_add, ← Int32.ofInt_sub, ← Int32.ofInt_mul]; exact congrArg Int32.ofInt (by omega)) | (simp only [z_nat, z_lit, ← Int32.ofInt_add, ← Int32.ofInt_sub, ← Int32.ofInt_mul]; done) | exact congrArg Int32.ofInt (by omega) | rfl)) : q_C q_mt (L, xs, q_shp) E nX12_bestPoints (d + 6) 0 0 [.ref 271, .int (a), .int (pl)] M Q := by
  subst ha
  have be := (g.be he).1
  have hN : 0 < t 0 0 := g.b2.2.2.2.1.mp (by omega)
  refine w_in 90 [13, 24, 83] ?_
  refine k_pairOf g e he ?_
  refine k_goesToFirst g wl bl hs be hN (fun hz M2 hf2 => ?_) (fun r' M2 z1 z2 z3 z4 hf2 => ?_)
  · have hz : AL t (t 9 e) alw = [] := hz
    have em : mx (vl (cstE t e wt) 0) (AL t (t 9 e) alw) = -1 := by rw [hz]; rfl
    refine w_at 90 [13, 24, 83] ?_
    refine z_eq 0 0 (fun _ => ⟨_, rfl, ?_⟩) (fun z => absurd rfl z)
    have := hQ M2 hf2.mono (Or.inl em)
    rw [em] at this
    exact this
  · refine k_bestLoop g wl bl hs he hN pl hpl (bB (vl (cstE t e wt) 0) (AL t (t 9 e) alw) (-1) []) (fun M' hf hbr => hQ M' hf hbr) _ r' (-1) [] M2 rfl (by rw [← z1]) (by omega) (by omega) z2 z3 z4 (Or.inl rfl) hf2.mono _ _
end BF
