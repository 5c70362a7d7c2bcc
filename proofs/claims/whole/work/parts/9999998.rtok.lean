/-! tokens as the reference holds them -/
abbrev W8 (w : Nat) : Int64 := Int64.ofInt (w8E (lx w) 0 (lxK w) : Nat)
theorem lx_80 : ∀ w, w < 34 → ¬ w8E (lx w) 0 (lxK w) = 0 ∧ w8E (lx w) 0 (lxK w) < 9223372036854775808 := by decide +kernel
theorem lx_l8 {w p : Nat} (hw : w < 34) (hp : p < lxK w) : 97 ≤ lx w (0 + p) ∧ lx w (0 + p) ≤ 122 := lx_l w hw p (by have := lx_8 w hw; omega) hp
theorem W8_inj {w v : Nat} (hw : w < 34) (hv : v < 34) (h : W8 w = W8 v) : w = v := by
  have h := (y_inj (lx_80 w hw).2 (lx_80 v hv).2).mp h
  exact lx_un w hw v hv ((w58 (lx_8 w hw).2 (lx_8 v hv).2 (fun p hp => lx_l8 hw hp) (fun p hp => lx_l8 hv hp)).mpr h)
theorem w5E_12 {x : Nat → Nat} {i : Nat} : ∀ {k : Nat}, 12 ≤ k → w5E x i k = w5E x i 12
  | 0, h => by omega
  | k + 1, h => by
    by_cases q : k + 1 = 12
    · rw [q]
    · have e : w5E x i (k + 1) = w5E x i k := if_neg (by omega)
      rw [e]
      exact w5E_12 (by omega)
theorem isW.len {x : Nat → Nat} {s L w : Nat} (h : isW x s L w) (hl : ∀ p, p < L → 97 ≤ x (s + p) ∧ x (s + p) ≤ 122) : L = lxK w ∧ ∀ p, p < L → x (s + p) = lx w (0 + p) := by
  have b := lx_8 w h.1
  rcases Nat.lt_or_ge 12 L with z | z
  · have e := h.2
    rw [w5E_12 (by omega : 12 ≤ L)] at e
    have := (w5E_inj (by omega) (by omega) (fun p hp => lx_l8 h.1 hp) (fun p hp => hl p (by omega)) e).1
    omega
  · exact w5E_inj z (by omega) hl (fun p hp => lx_l8 h.1 hp) h.2.symm
theorem nW8 {x : Nat → Nat} {s L w : Nat} (hw : w < 34) (hn : ∀ w, ¬ isW x s L w) (hl : ∀ p, p < L → 97 ≤ x (s + p) ∧ x (s + p) ≤ 122) : ¬ Int64.ofInt (w8E x s L : Nat) = W8 w := fun z => by
  have b := lx_8 w hw
  rcases Nat.lt_or_ge 8 L with q | q
  · rw [w8E_0 q, y_inj (by omega) (lx_80 w hw).2] at z
    exact (lx_80 w hw).1 z.symm
  · have z := (y_inj (w8E_63 q hl) (lx_80 w hw).2).mp z
    exact hn w ⟨hw, ((w58 q b.2 hl (fun p hp => lx_l8 hw hp)).mpr z).symm⟩
section RT
variable {L : Nat} {xs : Nat → Int32} {E : q_E} {d : Nat} {M : q_M} {t : q_T} {n : sN} {Q : Option Value → q_M → Prop} {P : q_M → Prop}
variable {x : Nat → Nat} {len : Nat} {tok : Nat → Tok} {T : Nat}
def kR (M : q_M) (x : Nat → Nat) (len k : Nat) (p : Tok) : Prop := M.1 274 k = nI (tkS x len k) ∧ (p.1 = 0 → M.1 273 k = Int32.ofInt 0) ∧ (p.1 = 1 → M.1 273 k = Int32.ofInt 1 ∧ M.2 276 k = W8 p.2 ∧ M.1 277 k = nI (lxK p.2)) ∧ (p.1 = 2 → M.1 273 k = Int32.ofInt 1 ∧ M.2 276 k = Int64.ofInt (w8E x (tkS x len k) ((tkR x len (tkS x len k) - tkS x len k)) : Nat) ∧ (M.1 277 k = nI ((tkR x len (tkS x len k) - tkS x len k)) ∧ (tkR x len (tkS x len k) - tkS x len k) ≤ 7) ∧ ∀ w, w < 34 → ¬ M.2 276 k = W8 w) ∧ (p.1 = 3 → M.1 273 k = Int32.ofInt 2 ∧ M.1 275 k = nI p.2) ∧ (p.1 = 4 → M.1 273 k = Int32.ofInt (if isSg p.2 = true then 3 else 4) ∧ M.1 275 k = nI p.2) ∧ (p.1 = 5 → M.1 273 k = Int32.ofInt 4 ∨ (M.1 273 k = Int32.ofInt 1 ∧ (M.1 277 k = nI ((tkR x len (tkS x len k) - tkS x len k)) ∧ 7 < (tkR x len (tkS x len k) - tkS x len k) ∧ (tkR x len (tkS x len k) - tkS x len k) ≤ 1200) ∧ ∀ w, w < 34 → ¬ M.2 276 k = W8 w))
theorem kR.eq {M' : q_M} {k : Nat} {p : Tok} (h : kR M x len k p) (e1 : M'.1 273 k = M.1 273 k) (e2 : M'.1 274 k = M.1 274 k) (e3 : M'.1 275 k = M.1 275 k) (e4 : M'.2 276 k = M.2 276 k) (e5 : M'.1 277 k = M.1 277 k) : kR M' x len k p := by
  unfold kR at h ⊢
  rw [e1, e2, e3, e4, e5]
  exact h
theorem g_rk.kR {k : Nat} (hT : g_T x len tok T) (hk : k < T) (h : g_rk M x len k) : kR M x len k (tok k) := by
  obtain ⟨h0, hc⟩ := h
  have un : ∀ {b : Bool}, b = true → b = false → False := fun h1 h2 => by rw [h1] at h2; cases h2
  have hl := hT.2.2.2.2 k hk
  have st := tk_step hl
  have h12 := hT.1.1
  refine ⟨h0, ?_⟩
  rcases hT.2.1 k with ⟨q, a⟩ | ⟨w, q, a1, a2, a3⟩ | ⟨q, a1, a2, a3, a4⟩ | ⟨v, q, a1, a2, a3, a4, a5⟩ | ⟨c, q, a1, a2, a3, a4⟩ | ⟨q, a1, a2⟩ <;> rw [q]
  · omega
  · rcases hc with ⟨c1, c2, c3, c4⟩ | ⟨c1, c2, c3, c4⟩ | ⟨c1, c2, c3, c4⟩
    · obtain ⟨l1, l2⟩ := a3.len (fun p hp => lt_tk a1 a2 hp)
      refine ⟨fun z => absurd z (show ¬ 1 = 0 by decide), fun _ => ⟨c2, ?_, ?_⟩, fun z => absurd z (show ¬ 1 = 2 by decide), fun z => absurd z (show ¬ 1 = 3 by decide), fun z => absurd z (show ¬ 1 = 4 by decide), fun z => absurd z (show ¬ 1 = 5 by decide)⟩
      · show M.2 276 k = W8 w
        unfold W8
        rw [c3, l1, w8E_eq (x := x) (y := lx w) (i := tkS x len k) (j := 0) (k := lxK w) (fun p hp => l2 p (by omega))]
      · show M.1 277 k = nI (lxK w)
        rw [c4, ← l1]
    · exact (un a2 c1).elim
    · exact (un a2 c1).elim
  · rcases hc with ⟨c1, c2, c3, c4⟩ | ⟨c1, c2, c3, c4⟩ | ⟨c1, c2, c3, c4⟩
    · exact ⟨fun z => absurd z (show ¬ 2 = 0 by decide), fun z => absurd z (show ¬ 2 = 1 by decide), fun _ => ⟨c2, c3, ⟨c4, a3⟩, fun w hw => by rw [c3]; exact nW8 hw a4 (fun p hp => lt_tk a1 a2 hp)⟩, fun z => absurd z (show ¬ 2 = 3 by decide), fun z => absurd z (show ¬ 2 = 4 by decide), fun z => absurd z (show ¬ 2 = 5 by decide)⟩
    · exact (un a2 c1).elim
    · exact (un a2 c1).elim
  · rcases hc with ⟨c1, c2, c3, c4⟩ | ⟨c1, c2, c3, c4⟩ | ⟨c1, c2, c3, c4⟩
    · exact (un c1 a2).elim
    · rw [if_pos a4] at c3
      exact ⟨fun z => absurd z (show ¬ 3 = 0 by decide), fun z => absurd z (show ¬ 3 = 1 by decide), fun z => absurd z (show ¬ 3 = 2 by decide), fun _ => ⟨c3, by rw [c4, a5]⟩, fun z => absurd z (show ¬ 3 = 4 by decide), fun z => absurd z (show ¬ 3 = 5 by decide)⟩
    · exact (un a3 c2).elim
  · rcases hc with ⟨c1, c2, c3, c4⟩ | ⟨c1, c2, c3, c4⟩ | ⟨c1, c2, c3, c4⟩
    · exact (un c1 a2).elim
    · exact (un c2 a3).elim
    · exact ⟨fun z => absurd z (show ¬ 4 = 0 by decide), fun z => absurd z (show ¬ 4 = 1 by decide), fun z => absurd z (show ¬ 4 = 2 by decide), fun z => absurd z (show ¬ 4 = 3 by decide), fun _ => ⟨by rw [c3, a4], by rw [c4, a4]⟩, fun z => absurd z (show ¬ 4 = 5 by decide)⟩
  · refine ⟨fun z => absurd z (show ¬ 5 = 0 by decide), fun z => absurd z (show ¬ 5 = 1 by decide), fun z => absurd z (show ¬ 5 = 2 by decide), fun z => absurd z (show ¬ 5 = 3 by decide), fun z => absurd z (show ¬ 5 = 4 by decide), fun _ => ?_⟩
    rcases a2 with a2 | a2
    · rcases hc with ⟨c1, c2, c3, c4⟩ | ⟨c1, c2, c3, c4⟩ | ⟨c1, c2, c3, c4⟩
      · exact Or.inr ⟨c2, ⟨c4, a2.2.1, by omega⟩, fun w hw => by rw [c3]; exact nW8 hw a2.2.2 (fun p hp => lt_tk a1 a2.1 hp)⟩
      · exact (un a2.1 c1).elim
      · exact (un a2.1 c1).elim
    · rcases hc with ⟨c1, c2, c3, c4⟩ | ⟨c1, c2, c3, c4⟩ | ⟨c1, c2, c3, c4⟩
      · exact (un c1 a2.1).elim
      · rw [if_neg (by have := a2.2.2; omega)] at c3
        exact Or.inl c3
      · exact (un a2.2.1 c2).elim
/-- the reference's own words -/
def g_ow (M : q_M) : Prop := ∀ k, k < 34 → M.2 278 k = W8 (if k = 25 then 26 else if k = 26 then 25 else k)
/-- all tokens -/
def g_rs (M : q_M) (x : Nat → Nat) (len : Nat) (tok : Nat → Tok) (T : Nat) : Prop := g_T x len tok T ∧ g_ow M ∧ ∀ k, k ≤ T → kR M x len k (tok k)
/-- the i-th token is here, and no fault -/
def g_rt (M : q_M) (x : Nat → Nat) (len : Nat) (tok : Nat → Tok) (T i : Nat) : Prop := g_rs M x len tok T ∧ i ≤ T ∧ M.1 271 8 = nI i ∧ M.1 271 9 = Int32.ofInt 0 ∧ M.1 271 10 = Int32.ofInt (-1)
/-- a fault of kind k at the i-th token -/
def g_rb (M : q_M) (x : Nat → Nat) (len : Nat) (tok : Nat → Tok) (T k i : Nat) : Prop := g_rs M x len tok T ∧ (1 ≤ k ∧ k ≤ 5) ∧ (∃ h, M.1 271 8 = nI h ∧ h ≤ 1200) ∧ M.1 271 9 = nI k ∧ M.1 271 10 = nI (tkS x len i)
abbrev fHr : List (Nat × Nat) := [(271, 8), (271, 9), (271, 10)]
theorem g_rs.fs {l : List Nat} {f : List (Nat × Nat)} {M' : q_M} (h : g_rs M x len tok T) (hf : q_fs l f M M') (o : (l.all (fun a => !(c_rng 273 278 a)) && f.all (fun q => !(c_rng 273 278 q.1))) = true := by exact rfl) : g_rs M' x len tok T := by
  have e1 : ∀ r j, c_rng 273 278 r = true → M'.1 r j = M.1 r j := fun r j hr => (hf r j (q_out o hr j)).1
  have e2 : ∀ r j, c_rng 273 278 r = true → M'.2 r j = M.2 r j := fun r j hr => (hf r j (q_out o hr j)).2
  exact ⟨h.1, fun k hk => (e2 278 k rfl).trans (h.2.1 k hk), fun k hk => (h.2.2 k hk).eq (e1 273 k rfl) (e1 274 k rfl) (e1 275 k rfl) (e2 276 k rfl) (e1 277 k rfl)⟩
theorem g_rt.fs {l : List Nat} {f : List (Nat × Nat)} {M' : q_M} {i : Nat} (h : g_rt M x len tok T i) (hf : q_fs l f M M') (o : (l.all (fun a => !(c_rng 273 278 a)) && f.all (fun q => !(c_rng 273 278 q.1))) = true := by exact rfl) (o8 : q_scr l f 271 8 = false := by exact rfl) (o9 : q_scr l f 271 9 = false := by exact rfl) (o10 : q_scr l f 271 10 = false := by exact rfl) : g_rt M' x len tok T i := ⟨h.1.fs hf o, h.2.1, (hf 271 8 o8).1.trans h.2.2.1, (hf 271 9 o9).1.trans h.2.2.2.1, (hf 271 10 o10).1.trans h.2.2.2.2⟩
theorem g_rb.fs {l : List Nat} {f : List (Nat × Nat)} {M' : q_M} {k i : Nat} (h : g_rb M x len tok T k i) (hf : q_fs l f M M') (o : (l.all (fun a => !(c_rng 273 278 a)) && f.all (fun q => !(c_rng 273 278 q.1))) = true := by exact rfl) (o8 : q_scr l f 271 8 = false := by exact rfl) (o9 : q_scr l f 271 9 = false := by exact rfl) (o10 : q_scr l f 271 10 = false := by exact rfl) : g_rb M' x len tok T k i := ⟨h.1.fs hf o, h.2.1, ⟨h.2.2.1.choose, (hf 271 8 o8).1.trans h.2.2.1.choose_spec.1, h.2.2.1.choose_spec.2⟩, (hf 271 9 o9).1.trans h.2.2.2.1, (hf 271 10 o10).1.trans h.2.2.2.2⟩
theorem g_rt.tt {i : Nat} (g : g_rt M x len tok T i) : g_T x len tok T := g.1.1
theorem g_rt.i12 {i : Nat} (g : g_rt M x len tok T i) : i ≤ 1200 := by
  have := g.tt.1.1
  have := g.tt.2.2.1
  have := g.2.1
  omega
theorem g_rt.k {i : Nat} (g : g_rt M x len tok T i) : kR M x len i (tok i) := g.1.2.2 i g.2.1
/-- the next token is here -/
theorem g_rt.nx {i : Nat} {v : Int32} (g : g_rt M x len tok T i) (hn : ¬ (tok i).1 = 0) (hv : v = nI (i + 1)) : g_rt (q_si M 271 8 v) x len tok T (i + 1) := by
  have l := g.tt.lt g.2.1 hn
  have hf : q_fs [] fHr M (q_si M 271 8 v) := q_fs.rf.s1
  exact ⟨g.1.fs hf, by omega, q_si_s.trans hv, (q_si_n (by decide)).trans g.2.2.2.1, (q_si_n (by decide)).trans g.2.2.2.2⟩
set_option maxRecDepth 100000 in
set_option maxHeartbeats 4000000 in
theorem k_isFine1 (h : M.1 271 9 = Int32.ofInt 0) (h1 : Q (some (.int 1)) M) : q_C q_mt (L, xs, q_shp) E nX12_isFine (d) 0 0 [.ref 271] M Q := by
  refine w_in 90 [] ?_
  refine ⟨_, h, ?_⟩
  exact z_ne 0 0 (fun z => absurd rfl z) (fun _ => ⟨z_1, h1⟩)
set_option maxRecDepth 100000 in
set_option maxHeartbeats 4000000 in
theorem k_isFine0 {k : Nat} (h : M.1 271 9 = nI k) (hk : 1 ≤ k ∧ k ≤ 5) (h1 : Q (some (.int 0)) M) : q_C q_mt (L, xs, q_shp) E nX12_isFine (d) 0 0 [.ref 271] M Q := by
  refine w_in 90 [] ?_
  refine ⟨_, h, ?_⟩
  exact z_ne (k : Int) 0 (fun _ => ⟨z_0, h1⟩) (fun z => by omega)
set_option maxRecDepth 100000 in
set_option maxHeartbeats 4000000 in
theorem k_wrongs {i : Nat} (g : g_rt M x len tok T i) {a : Int32} (k : Nat) (hk : 1 ≤ k ∧ k ≤ 5) (hQ : ∀ M', q_fs [] fHr M M' → g_rb M' x len tok T k i → Q none M') (ha : a = nI k := by (first | assumption | (simp only [z_nat, z_lit, ← Int32.ofInt_add, ← Int32.ofInt_sub, ← Int32.ofInt_mul]; exact congrArg Int32.ofInt (by omega)) | (simp only [z_nat, z_lit, ← Int32.ofInt_add, ← Int32.ofInt_sub, ← Int32.ofInt_mul]; done) | exact congrArg Int32.ofInt (by omega) | rfl)) : q_C q_mt (L, xs, q_shp) E nX12_wrongs (d + 1) 0 0 [.ref 271, .int (a)] M Q := by
  subst ha
  have i12 := g.i12
  have ht := g.k.1
  refine w_in 90 [] ?_
  refine ⟨_, g.2.2.1, ?_⟩
  refine ⟨i, _, by (first | assumption | (simp only [z_nat, z_lit, ← Int32.ofInt_add, ← Int32.ofInt_sub, ← Int32.ofInt_mul]; exact congrArg Int32.ofInt (by omega)) | (simp only [z_nat, z_lit, ← Int32.ofInt_add, ← Int32.ofInt_sub, ← Int32.ofInt_mul]; done) | exact congrArg Int32.ofInt (by omega) | rfl), by (dsimp only; omega), ht, ?_⟩
  refine w_in 90 [] ?_
  refine ⟨_, g.2.2.2.1, ?_⟩
  refine z_ne 0 0 (fun z => absurd rfl z) (fun _ => ?_)
  refine ⟨_, rfl, ?_⟩
  refine ⟨_, rfl, ?_⟩
  have hf : q_fs [] fHr M (q_si (q_si M 271 9 (nI k)) 271 10 (nI (tkS x len i))) := q_fs.rf.s1.s1
  exact hQ _ hf ⟨g.1.fs hf, hk, ⟨i, g.2.2.1, i12⟩, rfl, rfl⟩
-- behind a fault nothing more is wrong
set_option maxRecDepth 100000 in
set_option maxHeartbeats 4000000 in
theorem k_wrongs0 {k i : Nat} (g : g_rb M x len tok T k i) {a : Int32} (hQ : Q none M) : q_C q_mt (L, xs, q_shp) E nX12_wrongs (d + 1) 0 0 [.ref 271, .int (a)] M Q := by
  obtain ⟨g1, hk, ⟨h, h8, h12⟩, h9, h10⟩ := g
  refine w_in 90 [] ?_
  refine ⟨_, h8, ?_⟩
  refine ⟨h, _, by (first | assumption | (simp only [z_nat, z_lit, ← Int32.ofInt_add, ← Int32.ofInt_sub, ← Int32.ofInt_mul]; exact congrArg Int32.ofInt (by omega)) | (simp only [z_nat, z_lit, ← Int32.ofInt_add, ← Int32.ofInt_sub, ← Int32.ofInt_mul]; done) | exact congrArg Int32.ofInt (by omega) | rfl), by (dsimp only; omega), rfl, ?_⟩
  refine w_in 90 [] ?_
  refine ⟨_, h9, ?_⟩
  exact z_ne (k : Int) 0 (fun _ => hQ) (fun z => by omega)
set_option maxRecDepth 100000 in
set_option maxHeartbeats 4000000 in
theorem k_isWordHere {i : Nat} (g : g_rt M x len tok T i) {v : Int64} (w : Nat) (hw : w < 34) (hv : v = W8 w) (h1 : tok i = (1, w) → Q (some (.int 1)) M) (h0 : ¬ tok i = (1, w) → Q (some (.int 0)) M) : q_C q_mt (L, xs, q_shp) E nX12_isWordHere (d) 0 0 [.ref 271, .long (v)] M Q := by
  subst hv
  have i12 := g.i12
  obtain ⟨r4, r0, r1, r2, r3, rs, r5⟩ := g.k
  have no : ∀ a : Int, 0 ≤ a → a ≤ 4 → ¬ a = 1 → M.1 273 i = Int32.ofInt a → ¬ tok i = (1, w) → q_C q_mt (L, xs, q_shp) E nX12_isWordHere (d) 0 0 [.ref 271, .long (W8 w)] M Q := by
    intro a a0 a4 a1 e hn
    refine w_in 90 [] ?_
    refine ⟨_, g.2.2.1, ?_⟩
    refine ⟨i, _, by (first | assumption | (simp only [z_nat, z_lit, ← Int32.ofInt_add, ← Int32.ofInt_sub, ← Int32.ofInt_mul]; exact congrArg Int32.ofInt (by omega)) | (simp only [z_nat, z_lit, ← Int32.ofInt_add, ← Int32.ofInt_sub, ← Int32.ofInt_mul]; done) | exact congrArg Int32.ofInt (by omega) | rfl), by (dsimp only; omega), e, ?_⟩
    exact z_ne a 1 (fun _ => ⟨z_0, h0 hn⟩) (fun z => absurd z a1)
  have ys : M.1 273 i = Int32.ofInt 1 → (M.2 276 i = W8 w → tok i = (1, w)) → (tok i = (1, w) → M.2 276 i = W8 w) → q_C q_mt (L, xs, q_shp) E nX12_isWordHere (d) 0 0 [.ref 271, .long (W8 w)] M Q := by
    intro e hn hn'
    refine w_in 90 [] ?_
    refine ⟨_, g.2.2.1, ?_⟩
    refine ⟨i, _, by (first | assumption | (simp only [z_nat, z_lit, ← Int32.ofInt_add, ← Int32.ofInt_sub, ← Int32.ofInt_mul]; exact congrArg Int32.ofInt (by omega)) | (simp only [z_nat, z_lit, ← Int32.ofInt_add, ← Int32.ofInt_sub, ← Int32.ofInt_mul]; done) | exact congrArg Int32.ofInt (by omega) | rfl), by (dsimp only; omega), e, ?_⟩
    refine z_ne 1 1 (fun z => absurd rfl z) (fun _ => ?_)
    refine ⟨_, g.2.2.1, ?_⟩
    refine ⟨i, _, by (first | assumption | (simp only [z_nat, z_lit, ← Int32.ofInt_add, ← Int32.ofInt_sub, ← Int32.ofInt_mul]; exact congrArg Int32.ofInt (by omega)) | (simp only [z_nat, z_lit, ← Int32.ofInt_add, ← Int32.ofInt_sub, ← Int32.ofInt_mul]; done) | exact congrArg Int32.ofInt (by omega) | rfl), by (dsimp only; omega), rfl, ?_⟩
    exact ⟨fun z => ⟨z_0, h0 (fun y => z ((lg_cmp_eq _ _).mpr (hn' y)))⟩, fun z => ⟨z_1, h1 (hn ((lg_cmp_eq _ _).mp z))⟩⟩
  have k5 := g.tt.k5 i
  have ne : ∀ {k : Nat}, (tok i).1 = k → ¬ k = 1 → ¬ tok i = (1, w) := fun h h' z => h' (by rw [← h, z])
  obtain h | h | h | h | h | h : (tok i).1 = 0 ∨ (tok i).1 = 1 ∨ (tok i).1 = 2 ∨ (tok i).1 = 3 ∨ (tok i).1 = 4 ∨ (tok i).1 = 5 := by omega
  · exact no 0 (by omega) (by omega) (by omega) (r0 h) (ne h (by decide))
  · obtain ⟨e1, e2, e3⟩ := r1 h
    have hv := g.tt.wv (tk_pr h)
    refine ys e1 (fun z => ?_) (fun z => ?_)
    · rw [tk_pr h, W8_inj hv hw (e2.symm.trans z)]
    · rw [e2, z]
  · obtain ⟨e1, e2, e3, e4⟩ := r2 h
    exact ys e1 (fun z => absurd z (e4 w hw)) (fun z => absurd z (ne h (by decide)))
  · exact no 2 (by omega) (by omega) (by omega) (r3 h).1 (ne h (by decide))
  · by_cases q : isSg (tok i).2 = true
    · exact no 3 (by omega) (by omega) (by omega) (by rw [(rs h).1, if_pos q]) (ne h (by decide))
    · exact no 4 (by omega) (by omega) (by omega) (by rw [(rs h).1, if_neg q]) (ne h (by decide))
  · rcases r5 h with e | ⟨e1, e2, e3⟩
    · exact no 4 (by omega) (by omega) (by omega) e (ne h (by decide))
    · exact ys e1 (fun z => absurd z (e3 w hw)) (fun z => absurd z (ne h (by decide)))
set_option maxRecDepth 100000 in
set_option maxHeartbeats 4000000 in
theorem k_isSignHere {i : Nat} (g : g_rt M x len tok T i) {a : Int32} (w : Nat) (hw : isSg w = true) (h1 : tok i = (4, w) → Q (some (.int 1)) M) (h0 : ¬ tok i = (4, w) → Q (some (.int 0)) M) (ha : a = nI w := by (first | assumption | (simp only [z_nat, z_lit, ← Int32.ofInt_add, ← Int32.ofInt_sub, ← Int32.ofInt_mul]; exact congrArg Int32.ofInt (by omega)) | (simp only [z_nat, z_lit, ← Int32.ofInt_add, ← Int32.ofInt_sub, ← Int32.ofInt_mul]; done) | exact congrArg Int32.ofInt (by omega) | rfl)) : q_C q_mt (L, xs, q_shp) E nX12_isSignHere (d) 0 0 [.ref 271, .int (a)] M Q := by
  subst ha
  have i12 := g.i12
  have w9 : w < 256 := by have := isSg_t.mp hw; omega
  obtain ⟨r4, r0, r1, r2, r3, rs, r5⟩ := g.k
  have no : ∀ a : Int, 0 ≤ a → a ≤ 4 → ¬ a = 3 → M.1 273 i = Int32.ofInt a → ¬ tok i = (4, w) → q_C q_mt (L, xs, q_shp) E nX12_isSignHere (d) 0 0 [.ref 271, .int (nI w)] M Q := by
    intro a a0 a4 a1 e hn
    refine w_in 90 [] ?_
    refine ⟨_, g.2.2.1, ?_⟩
    refine ⟨i, _, by (first | assumption | (simp only [z_nat, z_lit, ← Int32.ofInt_add, ← Int32.ofInt_sub, ← Int32.ofInt_mul]; exact congrArg Int32.ofInt (by omega)) | (simp only [z_nat, z_lit, ← Int32.ofInt_add, ← Int32.ofInt_sub, ← Int32.ofInt_mul]; done) | exact congrArg Int32.ofInt (by omega) | rfl), by (dsimp only; omega), e, ?_⟩
    exact z_ne a 3 (fun _ => ⟨z_0, h0 hn⟩) (fun z => absurd z a1)
  have k5 := g.tt.k5 i
  have v9 := g.tt.v9 i
  have ne : ∀ {k : Nat}, (tok i).1 = k → ¬ k = 4 → ¬ tok i = (4, w) := fun h h' z => h' (by rw [← h, z])
  obtain h | h | h | h | h | h : (tok i).1 = 0 ∨ (tok i).1 = 1 ∨ (tok i).1 = 2 ∨ (tok i).1 = 3 ∨ (tok i).1 = 4 ∨ (tok i).1 = 5 := by omega
  · exact no 0 (by omega) (by omega) (by omega) (r0 h) (ne h (by decide))
  · exact no 1 (by omega) (by omega) (by omega) (r1 h).1 (ne h (by decide))
  · exact no 1 (by omega) (by omega) (by omega) (r2 h).1 (ne h (by decide))
  · exact no 2 (by omega) (by omega) (by omega) (r3 h).1 (ne h (by decide))
  · by_cases q : isSg (tok i).2 = true
    · have e1 : M.1 273 i = Int32.ofInt 3 := by rw [(rs h).1, if_pos q]
      have e2 := (rs h).2
      refine w_in 90 [] ?_
      refine ⟨_, g.2.2.1, ?_⟩
      refine ⟨i, _, by (first | assumption | (simp only [z_nat, z_lit, ← Int32.ofInt_add, ← Int32.ofInt_sub, ← Int32.ofInt_mul]; exact congrArg Int32.ofInt (by omega)) | (simp only [z_nat, z_lit, ← Int32.ofInt_add, ← Int32.ofInt_sub, ← Int32.ofInt_mul]; done) | exact congrArg Int32.ofInt (by omega) | rfl), by (dsimp only; omega), e1, ?_⟩
      refine z_ne 3 3 (fun z => absurd rfl z) (fun _ => ?_)
      refine ⟨_, g.2.2.1, ?_⟩
      refine ⟨i, _, by (first | assumption | (simp only [z_nat, z_lit, ← Int32.ofInt_add, ← Int32.ofInt_sub, ← Int32.ofInt_mul]; exact congrArg Int32.ofInt (by omega)) | (simp only [z_nat, z_lit, ← Int32.ofInt_add, ← Int32.ofInt_sub, ← Int32.ofInt_mul]; done) | exact congrArg Int32.ofInt (by omega) | rfl), by (dsimp only; omega), e2, ?_⟩
      refine z_ne ((tok i).2 : Int) w (fun z => ⟨z_0, h0 (fun y => z (by rw [y]))⟩) (fun z => ⟨z_1, h1 ?_⟩)
      rw [tk_pr h, show (tok i).2 = w by omega]
    · exact no 4 (by omega) (by omega) (by omega) (by rw [(rs h).1, if_neg q]) (fun z => q (by rw [z]; exact hw))
  · rcases r5 h with e | ⟨e1, e2, e3⟩
    · exact no 4 (by omega) (by omega) (by omega) e (ne h (by decide))
    · exact no 1 (by omega) (by omega) (by omega) e1 (ne h (by decide))
set_option maxRecDepth 100000 in
set_option maxHeartbeats 4000000 in
theorem k_takesWord {i : Nat} (g : g_rt M x len tok T i) {v : Int64} (w : Nat) (hw : w < 34) (hv : v = W8 w) (h1 : tok i = (1, w) → ∀ M', q_fs [] fHr M M' → g_rt M' x len tok T (i + 1) → Q (some (.int 1)) M') (h0 : ¬ tok i = (1, w) → ∀ M', q_fs [] fHr M M' → g_rt M' x len tok T i → Q (some (.int 0)) M') : q_C q_mt (L, xs, q_shp) E nX12_takesWord (d + 1) 0 0 [.ref 271, .long (v)] M Q := by
  have e8 := g.2.2.1
  refine w_in 90 [] ?_
  refine k_isFine1 g.2.2.2.1 (br_f (by decide) ?_)
  refine k_isWordHere g w hw hv (fun e => br_f (by decide) ?_) (fun e => br_t (by decide) ?_)
  · refine ⟨_, e8, ?_⟩
    refine ⟨fun z => absurd z (by decide), fun _ => ?_⟩
    refine ⟨_, rfl, ?_⟩
    exact ⟨z_1, h1 e _ q_fs.rf.s1 (g.nx (tk_n0 e (by decide)) (by (first | assumption | (simp only [z_nat, z_lit, ← Int32.ofInt_add, ← Int32.ofInt_sub, ← Int32.ofInt_mul]; exact congrArg Int32.ofInt (by omega)) | (simp only [z_nat, z_lit, ← Int32.ofInt_add, ← Int32.ofInt_sub, ← Int32.ofInt_mul]; done) | exact congrArg Int32.ofInt (by omega) | rfl)))⟩
  · refine ⟨_, e8, ?_⟩
    refine ⟨fun _ => ?_, fun z => absurd (by decide) z⟩
    refine ⟨_, rfl, ?_⟩
    refine ⟨z_0, h0 e _ q_fs.rf.s1 ?_⟩
    have hf : q_fs [] fHr M (q_si M 271 8 (nI i + Int32.ofInt 0)) := q_fs.rf.s1
    exact ⟨g.1.fs hf, g.2.1, q_si_s.trans (by (first | assumption | (simp only [z_nat, z_lit, ← Int32.ofInt_add, ← Int32.ofInt_sub, ← Int32.ofInt_mul]; exact congrArg Int32.ofInt (by omega)) | (simp only [z_nat, z_lit, ← Int32.ofInt_add, ← Int32.ofInt_sub, ← Int32.ofInt_mul]; done) | exact congrArg Int32.ofInt (by omega) | rfl)), (q_si_n (by decide)).trans g.2.2.2.1, (q_si_n (by decide)).trans g.2.2.2.2⟩
set_option maxRecDepth 100000 in
set_option maxHeartbeats 4000000 in
theorem k_takesWord0 {k i : Nat} (g : g_rb M x len tok T k i) {v : Int64} (hQ : ∀ M', q_fs [] fHr M M' → g_rb M' x len tok T k i → Q (some (.int 0)) M') : q_C q_mt (L, xs, q_shp) E nX12_takesWord (d + 1) 0 0 [.ref 271, .long (v)] M Q := by
  obtain ⟨g1, hk, ⟨h, h8, h12⟩, h9, h10⟩ := g
  refine w_in 90 [] ?_
  refine k_isFine0 h9 hk (br_t (by decide) ?_)
  refine ⟨_, h8, ?_⟩
  refine ⟨fun _ => ?_, fun z => absurd (by decide) z⟩
  refine ⟨_, rfl, ?_⟩
  have hf : q_fs [] fHr M (q_si M 271 8 (nI h + Int32.ofInt 0)) := q_fs.rf.s1
  exact ⟨z_0, hQ _ hf ⟨g1.fs hf, hk, ⟨h, q_si_s.trans (by (first | assumption | (simp only [z_nat, z_lit, ← Int32.ofInt_add, ← Int32.ofInt_sub, ← Int32.ofInt_mul]; exact congrArg Int32.ofInt (by omega)) | (simp only [z_nat, z_lit, ← Int32.ofInt_add, ← Int32.ofInt_sub, ← Int32.ofInt_mul]; done) | exact congrArg Int32.ofInt (by omega) | rfl)), h12⟩, (q_si_n (by decide)).trans h9, (q_si_n (by decide)).trans h10⟩⟩
set_option maxRecDepth 100000 in
set_option maxHeartbeats 4000000 in
theorem k_mustWord {i : Nat} (g : g_rt M x len tok T i) {v : Int64} (w : Nat) (hw : w < 34) (hv : v = W8 w) (h1 : tok i = (1, w) → ∀ M', q_fs [] fHr M M' → g_rt M' x len tok T (i + 1) → Q none M') (h0 : ¬ tok i = (1, w) → ∀ M', q_fs [] fHr M M' → g_rb M' x len tok T 1 i → Q none M') : q_C q_mt (L, xs, q_shp) E nX12_mustWord (d + 2) 0 0 [.ref 271, .long (v)] M Q := by
  refine w_in 90 [] ?_
  refine k_takesWord g w hw hv (fun e M' hf g' => bn_t (by decide) (h1 e M' hf g')) (fun e M' hf g' => bn_f rfl ?_)
  exact k_wrongs g' 1 (by omega) (fun M2 hf2 g2 => h0 e M2 (hf.tr hf2) g2)
set_option maxRecDepth 100000 in
set_option maxHeartbeats 4000000 in
theorem k_mustWord0 {k i : Nat} (g : g_rb M x len tok T k i) {v : Int64} (hQ : ∀ M', q_fs [] fHr M M' → g_rb M' x len tok T k i → Q none M') : q_C q_mt (L, xs, q_shp) E nX12_mustWord (d + 2) 0 0 [.ref 271, .long (v)] M Q := by
  refine w_in 90 [] ?_
  refine k_takesWord0 g (fun M' hf g' => bn_f rfl ?_)
  exact k_wrongs0 g' (hQ M' hf g')
set_option maxRecDepth 100000 in
set_option maxHeartbeats 4000000 in
theorem k_mustSign {i : Nat} (g : g_rt M x len tok T i) {a : Int32} (w : Nat) (hw : isSg w = true) (h1 : tok i = (4, w) → ∀ M', q_fs [] fHr M M' → g_rt M' x len tok T (i + 1) → Q none M') (h0 : ¬ tok i = (4, w) → ∀ M', q_fs [] fHr M M' → g_rb M' x len tok T 1 i → Q none M') (ha : a = nI w := by (first | assumption | (simp only [z_nat, z_lit, ← Int32.ofInt_add, ← Int32.ofInt_sub, ← Int32.ofInt_mul]; exact congrArg Int32.ofInt (by omega)) | (simp only [z_nat, z_lit, ← Int32.ofInt_add, ← Int32.ofInt_sub, ← Int32.ofInt_mul]; done) | exact congrArg Int32.ofInt (by omega) | rfl)) : q_C q_mt (L, xs, q_shp) E nX12_mustSign (d + 2) 0 0 [.ref 271, .int (a)] M Q := by
  subst ha
  refine w_in 90 [] ?_
  refine k_isFine1 g.2.2.2.1 (br_f (by decide) ?_)
  refine k_isSignHere g w hw (fun e => br_f (by decide) ?_) (fun e => br_t (by decide) ?_)
  · refine ⟨_, g.2.2.1, ?_⟩
    refine ⟨_, rfl, ?_⟩
    exact h1 e _ q_fs.rf.s1 (g.nx (tk_n0 e (by decide)) (by (first | assumption | (simp only [z_nat, z_lit, ← Int32.ofInt_add, ← Int32.ofInt_sub, ← Int32.ofInt_mul]; exact congrArg Int32.ofInt (by omega)) | (simp only [z_nat, z_lit, ← Int32.ofInt_add, ← Int32.ofInt_sub, ← Int32.ofInt_mul]; done) | exact congrArg Int32.ofInt (by omega) | rfl)))
  · exact k_wrongs g 1 (by omega) (fun M2 hf2 g2 => h0 e M2 hf2 g2)
set_option maxRecDepth 100000 in
set_option maxHeartbeats 4000000 in
theorem k_mustSign0 {k i : Nat} (g : g_rb M x len tok T k i) {a : Int32} (hQ : Q none M) : q_C q_mt (L, xs, q_shp) E nX12_mustSign (d + 2) 0 0 [.ref 271, .int (a)] M Q := by
  refine w_in 90 [] ?_
  refine k_isFine0 g.2.2.2.1 g.2.1 (br_t (by decide) ?_)
  exact k_wrongs0 g hQ
set_option maxRecDepth 100000 in
set_option maxHeartbeats 4000000 in
theorem k_isNameHere {i : Nat} (g : g_rt M x len tok T i) (h1 : (tok i).1 = 2 → Q (some (.int 1)) M) (h0 : ¬ (tok i).1 = 2 → Q (some (.int 0)) M) : q_C q_mt (L, xs, q_shp) E nX12_isNameHere (d) 0 0 [.ref 271] M Q := by
  have i12 := g.i12
  have h12 := g.tt.1.1
  obtain ⟨r4, r0, r1, r2, r3, rs, r5⟩ := g.k
  have no : ∀ a : Int, 0 ≤ a → a ≤ 4 → ¬ a = 1 → M.1 273 i = Int32.ofInt a → ¬ (tok i).1 = 2 → q_C q_mt (L, xs, q_shp) E nX12_isNameHere (d) 0 0 [.ref 271] M Q := by
    intro a a0 a4 a1 e hn
    refine w_in 90 [31] ?_
    refine ⟨_, g.2.2.1, ?_⟩
    refine ⟨i, _, by (first | assumption | (simp only [z_nat, z_lit, ← Int32.ofInt_add, ← Int32.ofInt_sub, ← Int32.ofInt_mul]; exact congrArg Int32.ofInt (by omega)) | (simp only [z_nat, z_lit, ← Int32.ofInt_add, ← Int32.ofInt_sub, ← Int32.ofInt_mul]; done) | exact congrArg Int32.ofInt (by omega) | rfl), by (dsimp only; omega), e, ?_⟩
    exact z_ne a 1 (fun _ => ⟨z_0, h0 hn⟩) (fun z => absurd z a1)
  have ys : ∀ ln : Nat, ln ≤ 1200 → M.1 273 i = Int32.ofInt 1 → M.1 277 i = nI ln → (7 < ln → ¬ (tok i).1 = 2) → ((∀ w, w < 34 → ¬ M.2 276 i = W8 w) → ln ≤ 7 → (tok i).1 = 2) → (∀ w, w < 34 → M.2 276 i = W8 w → ¬ (tok i).1 = 2) → q_C q_mt (L, xs, q_shp) E nX12_isNameHere (d) 0 0 [.ref 271] M Q := by
    intro ln hL e1 e2 l1 l2 l3
    have W : ln ≤ 7 → ∀ k, k ≤ 34 → (∀ j, j < k → ¬ M.2 276 i = M.2 278 j) → ∀ u, u = nI k → q_G q_mt (L, xs, q_shp) E nX12_isNameHere (d) 0 0 (q_Q (L, xs, q_shp) E Q) 31 [some (.ref 271), some (.int (u))] [] M := by
      intro h7
      refine lp_up (W := fun k => (∀ j, j < k → ¬ M.2 276 i = M.2 278 j) → ∀ u, u = nI k → q_G q_mt (L, xs, q_shp) E nX12_isNameHere (d) 0 0 (q_Q (L, xs, q_shp) E Q) 31 [some (.ref 271), some (.int (u))] [] M) 34 ?_ ?_
      · rintro hj u rfl
        refine w_at 90 [31] ?_
        refine z_le 34 (34 : Nat) (fun _ => ⟨z_1, h1 (l2 (fun w hw z => ?_) h7)⟩) (fun z => by omega)
        by_cases q5 : w = 25
        · exact hj 26 (by omega) (by rw [z, g.1.2.1 26 (by omega), q5]; rfl)
        · by_cases q6 : w = 26
          · exact hj 25 (by omega) (by rw [z, g.1.2.1 25 (by omega), q6]; rfl)
          · exact hj w hw (by rw [z, g.1.2.1 w hw, if_neg q5, if_neg q6])
      · rintro k hk ih hj u rfl
        refine w_at 90 [31] ?_
        refine z_le 34 (k : Int) (fun z => by omega) (fun _ => ?_)
        refine ⟨_, g.2.2.1, ?_⟩
        refine ⟨i, _, by (first | assumption | (simp only [z_nat, z_lit, ← Int32.ofInt_add, ← Int32.ofInt_sub, ← Int32.ofInt_mul]; exact congrArg Int32.ofInt (by omega)) | (simp only [z_nat, z_lit, ← Int32.ofInt_add, ← Int32.ofInt_sub, ← Int32.ofInt_mul]; done) | exact congrArg Int32.ofInt (by omega) | rfl), by (dsimp only; omega), rfl, ?_⟩
        refine ⟨k, _, by (first | assumption | (simp only [z_nat, z_lit, ← Int32.ofInt_add, ← Int32.ofInt_sub, ← Int32.ofInt_mul]; exact congrArg Int32.ofInt (by omega)) | (simp only [z_nat, z_lit, ← Int32.ofInt_add, ← Int32.ofInt_sub, ← Int32.ofInt_mul]; done) | exact congrArg Int32.ofInt (by omega) | rfl), by (dsimp only; omega), rfl, ?_⟩
        refine ⟨fun z => ?_, fun z => ⟨z_0, h0 ?_⟩⟩
        · refine ih (fun j hjk y => ?_) _ (by (first | assumption | (simp only [z_nat, z_lit, ← Int32.ofInt_add, ← Int32.ofInt_sub, ← Int32.ofInt_mul]; exact congrArg Int32.ofInt (by omega)) | (simp only [z_nat, z_lit, ← Int32.ofInt_add, ← Int32.ofInt_sub, ← Int32.ofInt_mul]; done) | exact congrArg Int32.ofInt (by omega) | rfl))
          by_cases q : j = k
          · subst q
            exact z ((lg_cmp_eq _ _).mpr y)
          · exact hj j (by omega) y
        · have z := (lg_cmp_eq _ _).mp z
          rw [g.1.2.1 k hk] at z
          by_cases q5 : k = 25
          · rw [if_pos q5] at z
            exact l3 26 (by omega) z
          · rw [if_neg q5] at z
            by_cases q6 : k = 26
            · rw [if_pos q6] at z
              exact l3 25 (by omega) z
            · rw [if_neg q6] at z
              exact l3 k hk z
    refine w_in 90 [31] ?_
    refine ⟨_, g.2.2.1, ?_⟩
    refine ⟨i, _, by (first | assumption | (simp only [z_nat, z_lit, ← Int32.ofInt_add, ← Int32.ofInt_sub, ← Int32.ofInt_mul]; exact congrArg Int32.ofInt (by omega)) | (simp only [z_nat, z_lit, ← Int32.ofInt_add, ← Int32.ofInt_sub, ← Int32.ofInt_mul]; done) | exact congrArg Int32.ofInt (by omega) | rfl), by (dsimp only; omega), e1, ?_⟩
    refine z_ne 1 1 (fun z => absurd rfl z) (fun _ => ?_)
    refine ⟨_, g.2.2.1, ?_⟩
    refine ⟨i, _, by (first | assumption | (simp only [z_nat, z_lit, ← Int32.ofInt_add, ← Int32.ofInt_sub, ← Int32.ofInt_mul]; exact congrArg Int32.ofInt (by omega)) | (simp only [z_nat, z_lit, ← Int32.ofInt_add, ← Int32.ofInt_sub, ← Int32.ofInt_mul]; done) | exact congrArg Int32.ofInt (by omega) | rfl), by (dsimp only; omega), e2, ?_⟩
    refine z_le (ln : Int) 7 (fun z => ?_) (fun z => ⟨z_0, h0 (l1 (by omega))⟩)
    exact W (by omega) 0 (by omega) (fun j hj => by omega) _ rfl
  have k5 := g.tt.k5 i
  obtain h | h | h | h | h | h : (tok i).1 = 0 ∨ (tok i).1 = 1 ∨ (tok i).1 = 2 ∨ (tok i).1 = 3 ∨ (tok i).1 = 4 ∨ (tok i).1 = 5 := by omega
  · exact no 0 (by omega) (by omega) (by omega) (r0 h) (by omega)
  · obtain ⟨e1, e2, e3⟩ := r1 h
    have hv := g.tt.wv (tk_pr h)
    have l8 := lx_8 _ hv
    exact ys _ (by omega) e1 e3 (fun _ => by omega) (fun z => absurd e2 (z _ hv)) (fun _ _ _ => by omega)
  · obtain ⟨e1, e2, e3, e4⟩ := r2 h
    exact ys _ (by omega) e1 e3.1 (fun z => by omega) (fun _ _ => h) (fun w hw z => absurd z (e4 w hw))
  · exact no 2 (by omega) (by omega) (by omega) (r3 h).1 (by omega)
  · by_cases q : isSg (tok i).2 = true
    · exact no 3 (by omega) (by omega) (by omega) (by rw [(rs h).1, if_pos q]) (by omega)
    · exact no 4 (by omega) (by omega) (by omega) (by rw [(rs h).1, if_neg q]) (by omega)
  · rcases r5 h with e | ⟨e1, e2, e3⟩
    · exact no 4 (by omega) (by omega) (by omega) e (by omega)
    · exact ys _ e2.2.2 e1 e2.1 (fun _ => by omega) (fun _ z => by have := e2.2.1; omega) (fun w hw z => absurd z (e3 w hw))
set_option maxRecDepth 100000 in
set_option maxHeartbeats 4000000 in
theorem k_numberHere {i : Nat} (g : g_rt M x len tok T i) {a b : Int32} (lo hi : Int) (hlo : 0 ≤ lo ∧ lo ≤ 100) (hhi : -1 ≤ hi ∧ hi ≤ 100) (h1 : ∀ v : Nat, numP tok i lo hi = .inr (v, i + 1) → tok i = (3, v) → (lo ≤ v ∧ v ≤ hi) → ∀ M', q_fs [] fHr M M' → g_rt M' x len tok T (i + 1) → Q (some (.int (nI v))) M') (h0 : ∀ k, numP tok i lo hi = .inl (k, i) → (k = 1 ∨ k = 2) → ∀ M', q_fs [] fHr M M' → g_rb M' x len tok T k i → Q (some (.int (Int32.ofInt lo))) M') (ha : a = Int32.ofInt lo := by (first | assumption | (simp only [z_nat, z_lit, ← Int32.ofInt_add, ← Int32.ofInt_sub, ← Int32.ofInt_mul]; exact congrArg Int32.ofInt (by omega)) | (simp only [z_nat, z_lit, ← Int32.ofInt_add, ← Int32.ofInt_sub, ← Int32.ofInt_mul]; done) | exact congrArg Int32.ofInt (by omega) | rfl)) (hb : b = Int32.ofInt hi := by (first | assumption | (simp only [z_nat, z_lit, ← Int32.ofInt_add, ← Int32.ofInt_sub, ← Int32.ofInt_mul]; exact congrArg Int32.ofInt (by omega)) | (simp only [z_nat, z_lit, ← Int32.ofInt_add, ← Int32.ofInt_sub, ← Int32.ofInt_mul]; done) | exact congrArg Int32.ofInt (by omega) | rfl)) : q_C q_mt (L, xs, q_shp) E nX12_numberHere (d + 2) 0 0 [.ref 271, .int (a), .int (b)] M Q := by
  subst ha hb
  have i12 := g.i12
  obtain ⟨r4, r0, r1, r2, r3, rs, r5⟩ := g.k
  have no : ∀ a : Int, 0 ≤ a → a ≤ 4 → ¬ a = 2 → M.1 273 i = Int32.ofInt a → ¬ (tok i).1 = 3 → q_C q_mt (L, xs, q_shp) E nX12_numberHere (d + 2) 0 0 [.ref 271, .int (Int32.ofInt lo), .int (Int32.ofInt hi)] M Q := by
    intro a a0 a4 a1 e hn
    have n1 : numP tok i lo hi = .inl (1, i) := by
      unfold numP
      rw [if_neg hn]
    refine w_in 90 [] ?_
    refine k_isFine1 g.2.2.2.1 (bn_t (by decide) ?_)
    refine ⟨_, g.2.2.1, ?_⟩
    refine ⟨i, _, by (first | assumption | (simp only [z_nat, z_lit, ← Int32.ofInt_add, ← Int32.ofInt_sub, ← Int32.ofInt_mul]; exact congrArg Int32.ofInt (by omega)) | (simp only [z_nat, z_lit, ← Int32.ofInt_add, ← Int32.ofInt_sub, ← Int32.ofInt_mul]; done) | exact congrArg Int32.ofInt (by omega) | rfl), by (dsimp only; omega), e, ?_⟩
    refine z_eq a 2 (fun z => absurd z a1) (fun _ => ?_)
    exact k_wrongs g 1 (by omega) (fun M2 hf2 g2 => ⟨_, rfl, h0 1 n1 (Or.inl rfl) M2 hf2 g2⟩)
  have k5 := g.tt.k5 i
  have v9 := g.tt.v9 i
  obtain h | h | h | h | h | h : (tok i).1 = 0 ∨ (tok i).1 = 1 ∨ (tok i).1 = 2 ∨ (tok i).1 = 3 ∨ (tok i).1 = 4 ∨ (tok i).1 = 5 := by omega
  · exact no 0 (by omega) (by omega) (by omega) (r0 h) (by omega)
  · exact no 1 (by omega) (by omega) (by omega) (r1 h).1 (by omega)
  · exact no 1 (by omega) (by omega) (by omega) (r2 h).1 (by omega)
  · obtain ⟨e1, e2⟩ := r3 h
    refine w_in 90 [] ?_
    refine k_isFine1 g.2.2.2.1 (bn_t (by decide) ?_)
    refine ⟨_, g.2.2.1, ?_⟩
    refine ⟨i, _, by (first | assumption | (simp only [z_nat, z_lit, ← Int32.ofInt_add, ← Int32.ofInt_sub, ← Int32.ofInt_mul]; exact congrArg Int32.ofInt (by omega)) | (simp only [z_nat, z_lit, ← Int32.ofInt_add, ← Int32.ofInt_sub, ← Int32.ofInt_mul]; done) | exact congrArg Int32.ofInt (by omega) | rfl), by (dsimp only; omega), e1, ?_⟩
    refine z_eq 2 2 (fun _ => ?_) (fun z => absurd rfl z)
    refine ⟨_, g.2.2.1, ?_⟩
    refine ⟨i, _, by (first | assumption | (simp only [z_nat, z_lit, ← Int32.ofInt_add, ← Int32.ofInt_sub, ← Int32.ofInt_mul]; exact congrArg Int32.ofInt (by omega)) | (simp only [z_nat, z_lit, ← Int32.ofInt_add, ← Int32.ofInt_sub, ← Int32.ofInt_mul]; done) | exact congrArg Int32.ofInt (by omega) | rfl), by (dsimp only; omega), e2, ?_⟩
    refine k_isIn ((tok i).2 : Int) lo hi (by omega) (by omega) (by omega) (fun p1 p2 => bn_t (by decide) ?_) (fun p => bn_f rfl ?_)
    · have n1 : numP tok i lo hi = .inr ((tok i).2, i + 1) := by
        unfold numP
        rw [if_pos h, if_pos ⟨p1, p2⟩]
      refine ⟨_, g.2.2.1, ?_⟩
      refine ⟨_, rfl, ?_⟩
      exact ⟨_, rfl, h1 _ n1 (tk_pr h) ⟨p1, p2⟩ _ q_fs.rf.s1 (g.nx (by omega) (by (first | assumption | (simp only [z_nat, z_lit, ← Int32.ofInt_add, ← Int32.ofInt_sub, ← Int32.ofInt_mul]; exact congrArg Int32.ofInt (by omega)) | (simp only [z_nat, z_lit, ← Int32.ofInt_add, ← Int32.ofInt_sub, ← Int32.ofInt_mul]; done) | exact congrArg Int32.ofInt (by omega) | rfl)))⟩
    · have n1 : numP tok i lo hi = .inl (2, i) := by
        unfold numP
        rw [if_pos h, if_neg p]
      exact k_wrongs g 2 (by omega) (fun M2 hf2 g2 => ⟨_, rfl, h0 2 n1 (Or.inr rfl) M2 hf2 g2⟩)
  · by_cases q : isSg (tok i).2 = true
    · exact no 3 (by omega) (by omega) (by omega) (by rw [(rs h).1, if_pos q]) (by omega)
    · exact no 4 (by omega) (by omega) (by omega) (by rw [(rs h).1, if_neg q]) (by omega)
  · rcases r5 h with e | ⟨e1, e2, e3⟩
    · exact no 4 (by omega) (by omega) (by omega) e (by omega)
    · exact no 1 (by omega) (by omega) (by omega) e1 (by omega)
set_option maxRecDepth 100000 in
set_option maxHeartbeats 4000000 in
theorem k_numberHere0 {k i : Nat} (g : g_rb M x len tok T k i) {a b : Int32} (hQ : Q (some (.int a)) M) : q_C q_mt (L, xs, q_shp) E nX12_numberHere (d + 2) 0 0 [.ref 271, .int (a), .int (b)] M Q := by
  refine w_in 90 [] ?_
  exact k_isFine0 g.2.2.2.1 g.2.1 (bn_f rfl ⟨_, rfl, hQ⟩)
end RT
