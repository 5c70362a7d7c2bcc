/-! the call change, whole -/
/-- what change leaves alone -/
def aO2 (r i : Nat) : Bool := aO r i && !(Nat.beq r 20 || Nat.beq r 245 || Nat.beq r 289 || Nat.beq r 290)
def q_f2 (M M' : q_M) : Prop := ∀ r i, aO2 r i = true → M'.1 r i = M.1 r i ∧ M'.2 r i = M.2 r i
theorem q_f2.tr {M M' M'' : q_M} (h : q_f2 M M') (h' : q_f2 M' M'') : q_f2 M M'' := fun r i hr => ⟨(h' r i hr).1.trans (h r i hr).1, (h' r i hr).2.trans (h r i hr).2⟩
theorem q_fo.f2 {M M' : q_M} (h : q_fo M M') : q_f2 M M' := fun r i hr => h r i (by
  unfold aO2 at hr
  rw [Bool.and_eq_true] at hr
  exact hr.1)
theorem q_fs.f2 {l : List Nat} {M M' : q_M} (h : q_fs l [] M M') (o : l.all (fun a => Nat.beq a 20 || Nat.beq a 245 || Nat.beq a 289 || Nat.beq a 290) = true := by exact rfl) : q_f2 M M' := fun r i hr => h r i (by
  rw [List.all_eq_true] at o
  unfold q_scr
  rw [show q_has2 r i [] = false from rfl, Bool.or_false]
  refine Bool.eq_false_iff.mpr (fun z => ?_)
  have a := o r (q_has1_in.mp z)
  unfold aO2 at hr
  rw [a] at hr
  rw [Bool.not_true, Bool.and_false] at hr
  cases hr)
section C2
variable {L : Nat} {xs : Nat → Int32} {E : q_E} {d : Nat} {M : q_M} {t : q_T} {n : sN} {Q : Option Value → q_M → Prop} {P : q_M → Prop}
theorem iH.q {p s : Nat} {H : Nat → sN} {M' : q_M} (h : iH M t n p s H) (hf : q_fs lQ [] M M') : iH M' t n p s H := by
  obtain ⟨⟨g, hJ⟩, hR, hH, hb⟩ := h
  exact ⟨⟨g.f3 hf, hJ⟩, hR.fs hf, hH.eq (by rw [hf.c1 271]) (hf.c1 286), hb⟩
def isCh (t : q_T) (n : sN) (e r x : Nat) (R : aRs) : Prop := (¬ (isFr t n e r ∧ ¬ lsd t n e x ∧ allOb t (roE (up n (6 * e + r) x) e) (t 9 e)) ∧ R = none) ∨ ((isFr t n e r ∧ ¬ lsd t n e x ∧ allOb t (roE (up n (6 * e + r) x) e) (t 9 e)) ∧ R = some (n (6 * e + r), up n (6 * e + r) x))
theorem ro_up {e r x p : Nat} (hp : p < 6) : roE (up n (6 * e + r) (x : Int)) e p = if p = r then x else roE n e p := by
  show (up n (6 * e + r) (x : Int) (6 * e + p)).toNat = _
  by_cases q : p = r
  · rw [q, up_s, if_pos rfl]
    rfl
  · rw [up_n (by omega), if_neg q]
set_option maxRecDepth 100000 in
set_option maxHeartbeats 4000000 in
theorem k_changeBy {R : aRs} (g : g_R M t n) (hJ : b_J t n) (wl : g_W M t) (bl : b_L t) {a b c : Int32} (e r x : Nat) (he : e < t 8 0) (hr : r < t 0 0) (hx : x < t 5 0) (hR : isCh t n e r x R) (h0 : R = none → ∀ M', q_fs [289, 290] [] M M' → Q (some (.int (Int32.ofInt (-3)))) M') (h1 : ∀ v m, R = some (v, m) → ∀ M', q_fs [284, 289, 290] [] M M' → g_R M' t m → Q (some (.int (Int32.ofInt v))) M') (ha : a = nI e := by (first | assumption | (simp only [z_nat, z_lit, ← Int32.ofInt_add, ← Int32.ofInt_sub, ← Int32.ofInt_mul]; exact congrArg Int32.ofInt (by omega)) | (simp only [z_nat, z_lit, ← Int32.ofInt_add, ← Int32.ofInt_sub, ← Int32.ofInt_mul]; done) | exact congrArg Int32.ofInt (by omega) | rfl)) (hb : b = nI (r + 1) := by (first | assumption | (simp only [z_nat, z_lit, ← Int32.ofInt_add, ← Int32.ofInt_sub, ← Int32.ofInt_mul]; exact congrArg Int32.ofInt (by omega)) | (simp only [z_nat, z_lit, ← Int32.ofInt_add, ← Int32.ofInt_sub, ← Int32.ofInt_mul]; done) | exact congrArg Int32.ofInt (by omega) | rfl)) (hc : c = nI x := by (first | assumption | (simp only [z_nat, z_lit, ← Int32.ofInt_add, ← Int32.ofInt_sub, ← Int32.ofInt_mul]; exact congrArg Int32.ofInt (by omega)) | (simp only [z_nat, z_lit, ← Int32.ofInt_add, ← Int32.ofInt_sub, ← Int32.ofInt_mul]; done) | exact congrArg Int32.ofInt (by omega) | rfl)) : q_C q_mt (L, xs, q_shp) E nX12_changeBy (d + 6) 0 0 [.ref 271, .int (a), .int (b), .int (c)] M Q := by
  subst ha hb hc
  have h6 := g.e6
  have h7 := g.r6
  have h10 := g.d10
  have t0 : ¬ t 0 0 = 0 := by omega
  have fin : ¬ (isFr t n e r ∧ ¬ lsd t n e x ∧ allOb t (roE (up n (6 * e + r) x) e) (t 9 e)) → ∀ M', q_fs [289, 290] [] M M' → Q (some (.int (Int32.ofInt (-3)))) M' := fun z M' hf => by
    rcases hR with ⟨-, rfl⟩ | ⟨y, -⟩
    · exact h0 rfl M' hf
    · exact absurd y z
  have hd := ro_d g.A he
  have h33 := hJ.2.1.1
  have tail : ∀ (f : Int32), (f = Int32.ofInt 1 ∧ (isB t n ∧ bE n = e ∧ bR n = r)) ∨ (f = Int32.ofInt 0 ∧ ¬ (isB t n ∧ bE n = e ∧ bR n = r)) → q_G q_mt (L, xs, q_shp) E nX12_changeBy (d + 6) 0 0 (q_Q (L, xs, q_shp) E Q) 50 [some (.ref 271), some (.int (nI e)), some (.int (nI (r + 1))), some (.int (nI x)), some (.int (f)), none] [] M := by
    intro f hfl
    refine w_at 90 [] ?_
    refine k_isInStill g e he (fun hi => br_f (by decide) ?_) (fun hi => br_t (by decide) ⟨_, rfl, fin (fun z => by have y := z.1.1; rw [hi] at y; cases y) M q_fs.rf⟩)
    refine k_isGiven g e r he hr (fun hg => bn_t (by decide) ⟨_, rfl, fin (fun z => by have y := z.1.2.2.1; omega) M q_fs.rf⟩) (fun hg => bn_f (by decide) ?_)
    rcases hfl with ⟨rfl, hb⟩ | ⟨rfl, hb⟩
    · exact z_ne 1 0 (fun _ => ⟨_, rfl, fin (fun z => z.1.2.2.2 hb.2) M q_fs.rf⟩) (fun z => by omega)
    · refine z_ne 0 0 (fun z => absurd rfl z) (fun _ => ?_)
      refine ⟨633, _, by (first | assumption | (simp only [z_nat, z_lit, ← Int32.ofInt_add, ← Int32.ofInt_sub, ← Int32.ofInt_mul]; exact congrArg Int32.ofInt (by omega)) | (simp only [z_nat, z_lit, ← Int32.ofInt_add, ← Int32.ofInt_sub, ← Int32.ofInt_mul]; done) | exact congrArg Int32.ofInt (by omega) | rfl), by (dsimp only; omega), g.at (by omega), ?_⟩
      refine z_ne (n 633) 1 (fun q33 => ?_) (fun q33 => ⟨_, rfl, fin (fun z => z.1.2.1.2 q33) M q_fs.rf⟩)
      have q : isB t n := ⟨t0, q33⟩
      refine k_laysRow g e he (fun M1 hf1 hm1 => ?_)
      have g1 := g.fs hf1
      refine ⟨0, _, by (first | assumption | (simp only [z_nat, z_lit, ← Int32.ofInt_add, ← Int32.ofInt_sub, ← Int32.ofInt_mul]; exact congrArg Int32.ofInt (by omega)) | (simp only [z_nat, z_lit, ← Int32.ofInt_add, ← Int32.ofInt_sub, ← Int32.ofInt_mul]; done) | exact congrArg Int32.ofInt (by omega) | rfl), by (dsimp only; omega), g1.R0, ?_⟩
      refine k_isAhead g1 x (t 0 0) h7 (by omega) hm1 (fun p hp => by have := hd.1 p hp; omega) (fun hl => br_f (by decide) ⟨_, rfl, fin (fun z => z.2.1 hl) M1 hf1.mono⟩) (fun hl => br_t (by decide) ?_)
      have bsl := (g.bs he hr).1
      have e0 : M1.1 289 r = Int32.ofInt (n (6 * e + r)) := by
        rw [hm1 r hr, z_nat]
        exact congrArg Int32.ofInt (by show ((n (6 * e + r)).toNat : Int) = _; omega)
      have hng : n (576 + (6 * e + r)) = 0 := hg
      have hJ' := lst_J hJ g.A he hr hx hng (fun p hp z => hl ⟨p, hp, z⟩)
      have ba' : b_A t (up n (6 * e + r) x) := ⟨g.A.1, hJ'.1.1⟩
      refine ⟨r, _, by (first | assumption | (simp only [z_nat, z_lit, ← Int32.ofInt_add, ← Int32.ofInt_sub, ← Int32.ofInt_mul]; exact congrArg Int32.ofInt (by omega)) | (simp only [z_nat, z_lit, ← Int32.ofInt_add, ← Int32.ofInt_sub, ← Int32.ofInt_mul]; done) | exact congrArg Int32.ofInt (by omega) | rfl), by (dsimp only; omega), e0, ?_⟩
      refine ⟨r, _, by (first | assumption | (simp only [z_nat, z_lit, ← Int32.ofInt_add, ← Int32.ofInt_sub, ← Int32.ofInt_mul]; exact congrArg Int32.ofInt (by omega)) | (simp only [z_nat, z_lit, ← Int32.ofInt_add, ← Int32.ofInt_sub, ← Int32.ofInt_mul]; done) | exact congrArg Int32.ofInt (by omega) | rfl), by (dsimp only; omega), rfl, ?_⟩
      have hf2 : q_fs [289] [] M (q_si M1 289 r (nI x)) := hf1.s1
      have g2 := g.fs hf2
      have hm2 : g_Y (q_si M1 289 r (nI x)) (roE (up n (6 * e + r) x) e) (t 0 0) := fun p hp => by
        rw [ro_up (by omega)]
        by_cases z : p = r
        · rw [z, q_si_s, if_pos rfl]
        · rw [q_si_n z, if_neg z]
          exact hm1 p hp
      refine k_firstBroken g2 (wl.fs hf2) bl e he hm2 (ro_d ba' he) (fun M3 p hf3 hp => ?_) (fun M3 hf3 hp => ?_)
      · have := hp.1
        exact z_eq (p : Int) (-1) (fun z => by omega) (fun _ => ⟨_, rfl, fin (fun z => hp.2.1 (z.2.2 p hp.1)) M3 (hf2.mono.tr hf3.mono)⟩)
      · refine z_eq (-1) (-1) (fun _ => ?_) (fun z => absurd rfl z)
        refine k_slot e r ?_
        refine ⟨6 * e + r, _, by (first | assumption | (simp only [z_nat, z_lit, ← Int32.ofInt_add, ← Int32.ofInt_sub, ← Int32.ofInt_mul]; exact congrArg Int32.ofInt (by omega)) | (simp only [z_nat, z_lit, ← Int32.ofInt_add, ← Int32.ofInt_sub, ← Int32.ofInt_mul]; done) | exact congrArg Int32.ofInt (by omega) | rfl), by (dsimp only; omega), rfl, ?_⟩
        refine ⟨_, rfl, ?_⟩
        rcases hR with ⟨y, -⟩ | ⟨-, rfl⟩
        · exact absurd ⟨⟨hi, q, hng, fun z => hb ⟨q, z⟩⟩, fun z => hl z, hp⟩ y
        · have g3 := g2.fs hf3
          exact h1 _ _ rfl _ ((hf2.mono.tr hf3.mono).s1) (g3.up hJ'.1.1 rfl)
  refine w_in 90 [50] ?_
  refine c_X12_isEntrant g.1 g.b (fun _ _ _ => br_f (by decide) ?_) (fun z => absurd ⟨e, he, rfl⟩ z)
  refine c_X12_isRound g.1 g.b (fun _ _ _ _ => br_f (by decide) ?_) (fun z => absurd ⟨r + 1, by omega, by omega, rfl⟩ z)
  refine c_X12_isDive g.1 g.b (fun _ _ _ => bn_t (by decide) ?_) (fun z => absurd ⟨x, hx, rfl⟩ z)
  by_cases q : isB t n
  · have hB := hJ.B h6 q
    have hbe := hB.2.1
    have hbr := hB.2.2.1
    have h31 := hB.2.2.2.1
    refine k_board g hJ q ?_
    refine z_ne (bE n : Int) (e : Int) (fun z => ?_) (fun z => ?_)
    · exact tail _ (Or.inr ⟨rfl, fun y => z (by rw [y.2.1])⟩)
    · refine k_roundNow g ?_
      refine z_ne (n 631) ((r + 1 : Nat) : Int) (fun z2 => ?_) (fun z2 => ?_)
      · exact tail _ (Or.inr ⟨rfl, fun y => z2 (by have := y.2.2; omega)⟩)
      · exact tail _ (Or.inl ⟨rfl, q, by omega, by omega⟩)
  · refine k_noBoard g hJ q ?_
    refine z_ne (-1) (e : Int) (fun z => ?_) (fun z => by omega)
    exact tail _ (Or.inr ⟨rfl, fun y => q y.1⟩)
set_option maxRecDepth 100000 in
set_option maxHeartbeats 4000000 in
theorem k_changeBad (g : g_R M t n) {a b c : Int32} (h : ¬ (aCell t a b ∧ ∃ x, x < t 5 0 ∧ c = nI x)) (hQ : Q (some (.int (Int32.ofInt (-2)))) M) : q_C q_mt (L, xs, q_shp) E nX12_changeBy (d + 6) 0 0 [.ref 271, .int (a), .int (b), .int (c)] M Q := by
  refine w_in 90 [50] ?_
  refine c_X12_isEntrant g.1 g.b (fun e he e1 => br_f (by decide) ?_) (fun z => br_t (by decide) ⟨_, rfl, hQ⟩)
  refine c_X12_isRound g.1 g.b (fun r r1 r2 e2 => br_f (by decide) ?_) (fun z => br_t (by decide) ⟨_, rfl, hQ⟩)
  exact c_X12_isDive g.1 g.b (fun x hx e3 => absurd ⟨⟨e, r - 1, he, by omega, e1, by rw [e2, show r - 1 + 1 = r by omega]⟩, x, hx, e3⟩ h) (fun z => bn_f (by decide) ⟨_, rfl, hQ⟩)
end C2
