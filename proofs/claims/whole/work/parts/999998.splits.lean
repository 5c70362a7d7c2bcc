/-! all tokens, as the reference cuts them -/
def isSg (b : Nat) : Bool := decide (b = 37 ∨ b = 40 ∨ b = 41 ∨ b = 42 ∨ b = 43 ∨ b = 45 ∨ b = 47 ∨ b = 59 ∨ b = 60 ∨ b = 61 ∨ b = 62 ∨ b = 91 ∨ b = 93)
theorem isSg_t {b : Nat} : isSg b = true ↔ (b = 37 ∨ b = 40 ∨ b = 41 ∨ b = 42 ∨ b = 43 ∨ b = 45 ∨ b = 47 ∨ b = 59 ∨ b = 60 ∨ b = 61 ∨ b = 62 ∨ b = 91 ∨ b = 93) := decide_eq_true_iff
theorem isSg_f {b : Nat} : isSg b = false ↔ ¬ (b = 37 ∨ b = 40 ∨ b = 41 ∨ b = 42 ∨ b = 43 ∨ b = 45 ∨ b = 47 ∨ b = 59 ∨ b = 60 ∨ b = 61 ∨ b = 62 ∨ b = 91 ∨ b = 93) := decide_eq_false_iff_not
/-- where the token at s ends; where the k-th token begins -/
def tkR (x : Nat → Nat) (len s : Nat) : Nat := if isLt (x s) = true then rnE isLt x (len - s) s else if isDg (x s) = true then rnE isDg x (len - s) s else s + 1
def tkS (x : Nat → Nat) (len : Nat) : Nat → Nat
  | 0 => rnE isBl x len 0
  | k + 1 => rnE isBl x (len - tkR x len (tkS x len k)) (tkR x len (tkS x len k))
theorem bl_1 {x : Nat → Nat} {len p : Nat} (hp : p < len) (h : isBl (x p) = true) : rnE isBl x (len - p) p = rnE isBl x (len - (p + 1)) (p + 1) := by
  rw [show len - p = (len - (p + 1)) + 1 by omega]
  exact if_pos h
theorem bl_0 {x : Nat → Nat} {len p : Nat} (hp : p < len) (h : isBl (x p) = false) : rnE isBl x (len - p) p = p := by
  rw [show len - p = (len - (p + 1)) + 1 by omega]
  exact if_neg (by rw [h]; decide)
/-- what the reference has of the k-th token -/
def g_rk (M : q_M) (x : Nat → Nat) (len k : Nat) : Prop := M.1 274 k = nI (tkS x len k) ∧ ((isLt (x (tkS x len k)) = true ∧ M.1 273 k = Int32.ofInt 1 ∧ M.2 276 k = Int64.ofInt (w8E x (tkS x len k) (tkR x len (tkS x len k) - tkS x len k) : Nat) ∧ M.1 277 k = nI (tkR x len (tkS x len k) - tkS x len k)) ∨ (isLt (x (tkS x len k)) = false ∧ isDg (x (tkS x len k)) = true ∧ M.1 273 k = nI (if tkR x len (tkS x len k) - tkS x len k ≤ 4 then 2 else 4) ∧ M.1 275 k = nI (nvE x (tkS x len k) (tkR x len (tkS x len k) - tkS x len k))) ∨ (isLt (x (tkS x len k)) = false ∧ isDg (x (tkS x len k)) = false ∧ M.1 273 k = Int32.ofInt (if isSg (x (tkS x len k)) = true then 3 else 4) ∧ M.1 275 k = nI (x (tkS x len k))))
theorem g_rk.eq {M M' : q_M} {x : Nat → Nat} {len k : Nat} (h : g_rk M x len k) (e1 : M'.1 273 k = M.1 273 k) (e2 : M'.1 274 k = M.1 274 k) (e3 : M'.1 275 k = M.1 275 k) (e4 : M'.2 276 k = M.2 276 k) (e5 : M'.1 277 k = M.1 277 k) : g_rk M' x len k := by
  unfold g_rk at h ⊢
  rw [e1, e2, e3, e4, e5]
  exact h
theorem sl_1 {M : q_M} {r i a b : Nat} {v : Int64} : (q_sl M r i v).1 a b = M.1 a b := rfl
section SS
variable {L : Nat} {xs : Nat → Int32} {E : q_E} {d : Nat} {M : q_M} {t : q_T} {n : sN} {Q : Option Value → q_M → Prop} {P : q_M → Prop}
variable {x : Nat → Nat} {len : Nat}
set_option maxRecDepth 100000 in
set_option maxHeartbeats 4000000 in
theorem k_isSignByte {a : Int32} (b : Nat) (hb : b < 256) (h1 : isSg b = true → Q (some (.int 1)) M) (h0 : isSg b = false → Q (some (.int 0)) M) (ha : a = nI b := by (first | assumption | (simp only [z_nat, z_lit, ← Int32.ofInt_add, ← Int32.ofInt_sub, ← Int32.ofInt_mul]; exact congrArg Int32.ofInt (by omega)) | (simp only [z_nat, z_lit, ← Int32.ofInt_add, ← Int32.ofInt_sub, ← Int32.ofInt_mul]; done) | exact congrArg Int32.ofInt (by omega) | rfl)) : q_C q_mt (L, xs, q_shp) E nX12_isSignByte (d) 0 0 [.int (a)] M Q := by
  subst ha
  have ht : (nI b).toInt = (b : Int) := by
    rw [z_nat]
    exact z_toInt (by omega)
  have y : ∀ c : Nat, (nI b).toInt = (c : Int) → isSg c = true → Q (some (.int 1)) M := fun c z w => h1 (by rw [show b = c by omega]; exact w)
  refine w_in 90 [] ?_
  refine ⟨fun z => ⟨z_1, y 37 z rfl⟩, fun z1 => ⟨fun z => ⟨z_1, y 40 z rfl⟩, fun z2 => ⟨fun z => ⟨z_1, y 41 z rfl⟩, fun z3 => ⟨fun z => ⟨z_1, y 42 z rfl⟩, fun z4 => ⟨fun z => ⟨z_1, y 43 z rfl⟩, fun z5 => ⟨fun z => ⟨z_1, y 45 z rfl⟩, fun z6 => ⟨fun z => ⟨z_1, y 47 z rfl⟩, fun z7 => ⟨fun z => ⟨z_1, y 59 z rfl⟩, fun z8 => ⟨fun z => ⟨z_1, y 60 z rfl⟩, fun z9 => ⟨fun z => ⟨z_1, y 61 z rfl⟩, fun z10 => ⟨fun z => ⟨z_1, y 62 z rfl⟩, fun z11 => ⟨fun z => ⟨z_1, y 91 z rfl⟩, fun z12 => ⟨fun z => ⟨z_1, y 93 z rfl⟩, fun z13 => ⟨z_0, h0 (isSg_f.mpr ?_)⟩⟩⟩⟩⟩⟩⟩⟩⟩⟩⟩⟩⟩⟩
  rw [ht] at z1 z2 z3 z4 z5 z6 z7 z8 z9 z10 z11 z12 z13
  omega
abbrev lSp : List Nat := [273, 274, 275, 276, 277]
abbrev fSp : List (Nat × Nat) := [(271, 1), (271, 7), (271, 8), (271, 9), (271, 10)]
theorem g_ty.fs {l : List Nat} {f : List (Nat × Nat)} {M' : q_M} (h : g_ty M x len) (hf : q_fs l f M M') (h1 : ∀ i, q_scr l f 272 i = false := by intro i; exact rfl) : g_ty M' x len := ⟨h.1, fun i hi => ⟨(hf 272 i (h1 i)).1.trans (h.2 i hi).1, (h.2 i hi).2⟩⟩
def g_sp (M M' : q_M) (x : Nat → Nat) (len c : Nat) : Prop := q_fs lSp fSp M M' ∧ M'.1 271 7 = nI c ∧ M'.1 271 1 = Int32.ofInt 0 ∧ M'.1 271 8 = Int32.ofInt 0 ∧ M'.1 271 9 = Int32.ofInt 0 ∧ M'.1 271 10 = Int32.ofInt (-1) ∧ ∀ k, k < c → tkS x len k < len ∧ g_rk M' x len k
set_option maxRecDepth 100000 in
set_option maxHeartbeats 4000000 in
theorem k_splits (g : g_ty M x len) (h1 : M.1 271 1 = nI len) (hQ : ∀ M' T, T ≤ len → g_sp M M' x len T → tkS x len T = len → M'.1 273 T = Int32.ofInt 0 → M'.1 274 T = nI len → Q none M') : q_C q_mt (L, xs, q_shp) E nX12_splits (d + 2) 0 0 [.ref 271] M Q := by
  have hl := g.1
  have main : ∀ m p c M', len - p ≤ m → p ≤ len → c ≤ p → rnE isBl x (len - p) p = tkS x len c → g_sp M M' x len c → ∀ u x3, u = nI p → q_G q_mt (L, xs, q_shp) E nX12_splits (d + 2) 0 0 (q_Q (L, xs, q_shp) E Q) 32 [some (.ref 271), some (.int (nI len)), some (.int (u)), x3] [] M' := by
    intro m
    induction m with
    | zero =>
      rintro p c M' hm hp hcp ht ⟨hf, e7, e1, e8, e9, e10, hk⟩ u x3 rfl
      have ep : p = len := by omega
      subst ep
      rw [Nat.sub_self] at ht
      have ht : p = tkS x p c := ht
      refine w_at 90 [32, 140] ?_
      refine z_le (p : Int) p (fun _ => ?_) (fun z => by omega)
      refine ⟨_, e7, ?_⟩
      refine ⟨c, _, by (first | assumption | (simp only [z_nat, z_lit, ← Int32.ofInt_add, ← Int32.ofInt_sub, ← Int32.ofInt_mul]; exact congrArg Int32.ofInt (by omega)) | (simp only [z_nat, z_lit, ← Int32.ofInt_add, ← Int32.ofInt_sub, ← Int32.ofInt_mul]; done) | exact congrArg Int32.ofInt (by omega) | rfl), by (dsimp only; omega), rfl, ?_⟩
      refine ⟨_, e7, ?_⟩
      refine ⟨c, _, by (first | assumption | (simp only [z_nat, z_lit, ← Int32.ofInt_add, ← Int32.ofInt_sub, ← Int32.ofInt_mul]; exact congrArg Int32.ofInt (by omega)) | (simp only [z_nat, z_lit, ← Int32.ofInt_add, ← Int32.ofInt_sub, ← Int32.ofInt_mul]; done) | exact congrArg Int32.ofInt (by omega) | rfl), by (dsimp only; omega), rfl, ?_⟩
      refine hQ _ c hcp ⟨hf.s1.s1, e7, e1, e8, e9, e10, fun k hkc => ⟨(hk k hkc).1, (hk k hkc).2.eq ?_ ?_ ?_ ?_ ?_⟩⟩ ht.symm ?_ ?_
      · rw [q_si_nn (by omega), q_si_nn (by omega)]
      · rw [q_si_nn (by omega), q_si_nn (by omega)]
      · rw [q_si_nn (by omega), q_si_nn (by omega)]
      · rfl
      · rw [q_si_nn (by omega), q_si_nn (by omega)]
      · rw [q_si_nn (by omega), q_si_s]
      · rw [q_si_s]
    | succ m ih =>
      rintro p c M' hm hp hcp ht hg u x3 rfl
      by_cases q : p = len
      · exact ih p c M' (by omega) hp hcp ht hg _ _ rfl
      · obtain ⟨hf, e7, e1, e8, e9, e10, hk⟩ := hg
        have hpl : p < len := by omega
        have g' := g.fs hf
        have hb := g'.2 p hpl
        cases hbl : isBl (x p) with
        | true =>
          have hd := isBl_t.mp hbl
          have nx : ∀ x3, q_G q_mt (L, xs, q_shp) E nX12_splits (d + 2) 0 0 (q_Q (L, xs, q_shp) E Q) 56 [some (.ref 271), some (.int (nI len)), some (.int (nI p)), x3] [] M' := by
            intro x3
            refine w_at 90 [32, 56, 140] ?_
            exact ih (p + 1) c M' (by omega) (by omega) (by omega) ((bl_1 hpl hbl).symm.trans ht) ⟨hf, e7, e1, e8, e9, e10, hk⟩ _ _ (by (first | assumption | (simp only [z_nat, z_lit, ← Int32.ofInt_add, ← Int32.ofInt_sub, ← Int32.ofInt_mul]; exact congrArg Int32.ofInt (by omega)) | (simp only [z_nat, z_lit, ← Int32.ofInt_add, ← Int32.ofInt_sub, ← Int32.ofInt_mul]; done) | exact congrArg Int32.ofInt (by omega) | rfl))
          refine w_at 90 [32, 56, 140] ?_
          refine z_le (len : Int) p (fun z => by omega) (fun _ => ?_)
          refine ⟨p, _, by (first | assumption | (simp only [z_nat, z_lit, ← Int32.ofInt_add, ← Int32.ofInt_sub, ← Int32.ofInt_mul]; exact congrArg Int32.ofInt (by omega)) | (simp only [z_nat, z_lit, ← Int32.ofInt_add, ← Int32.ofInt_sub, ← Int32.ofInt_mul]; done) | exact congrArg Int32.ofInt (by omega) | rfl), by (dsimp only; omega), hb.1, ?_⟩
          refine z_eq (x p : Int) 32 (fun z => nx _) (fun z => ?_)
          exact z_ne (x p : Int) 10 (fun z => by omega) (fun z => nx _)
        | false =>
          have hd := isBl_f.mp hbl
          have es : tkS x len c = p := ht.symm.trans (bl_0 hpl hbl)
          -- behind the token
          have t140 : ∀ M2 r x3, r = tkR x len p → p < r → r ≤ len → q_fs lSp fSp M M2 → (∀ i, M2.1 271 i = M'.1 271 i) → (∀ k, k < c → g_rk M2 x len k) → g_rk M2 x len c → q_G q_mt (L, xs, q_shp) E nX12_splits (d + 2) 0 0 (q_Q (L, xs, q_shp) E Q) 140 [some (.ref 271), some (.int (nI len)), some (.int (nI r)), x3] [] M2 := by
            intro M2 r x3 hr h1 h2 hf2 h71 hk2 hkc
            have e72 := (h71 7).trans e7
            refine w_at 90 [32, 140] ?_
            refine ⟨_, e72, ?_⟩
            refine ⟨_, rfl, ?_⟩
            refine ih r (c + 1) _ (by omega) h2 (by omega) (by rw [hr, ← es]; rfl) ⟨hf2.s1, ?_, ?_, ?_, ?_, ?_, fun k hkk => ?_⟩ _ _ rfl
            · rw [q_si_s]
              (first | assumption | (simp only [z_nat, z_lit, ← Int32.ofInt_add, ← Int32.ofInt_sub, ← Int32.ofInt_mul]; exact congrArg Int32.ofInt (by omega)) | (simp only [z_nat, z_lit, ← Int32.ofInt_add, ← Int32.ofInt_sub, ← Int32.ofInt_mul]; done) | exact congrArg Int32.ofInt (by omega) | rfl)
            · rw [q_si_n (by omega)]
              exact (h71 1).trans e1
            · rw [q_si_n (by omega)]
              exact (h71 8).trans e8
            · rw [q_si_n (by omega)]
              exact (h71 9).trans e9
            · rw [q_si_n (by omega)]
              exact (h71 10).trans e10
            · by_cases w : k = c
              · subst w
                exact ⟨by omega, hkc.eq (q_si_nn (by omega)) (q_si_nn (by omega)) (q_si_nn (by omega)) rfl (q_si_nn (by omega))⟩
              · exact ⟨(hk k (by omega)).1, (hk2 k (by omega)).eq (q_si_nn (by omega)) (q_si_nn (by omega)) (q_si_nn (by omega)) rfl (q_si_nn (by omega))⟩
          have gt : ∀ v, g_ty (q_si M' 274 c v) x len := fun v => g'.fs (show q_fs [274] [] M' (q_si M' 274 c v) from q_fs.rf.s1)
          refine w_at 90 [32, 140] ?_
          refine z_le (len : Int) p (fun z => by omega) (fun _ => ?_)
          refine ⟨p, _, by (first | assumption | (simp only [z_nat, z_lit, ← Int32.ofInt_add, ← Int32.ofInt_sub, ← Int32.ofInt_mul]; exact congrArg Int32.ofInt (by omega)) | (simp only [z_nat, z_lit, ← Int32.ofInt_add, ← Int32.ofInt_sub, ← Int32.ofInt_mul]; done) | exact congrArg Int32.ofInt (by omega) | rfl), by (dsimp only; omega), hb.1, ?_⟩
          refine z_eq (x p : Int) 32 (fun z => by omega) (fun _ => ?_)
          refine z_ne (x p : Int) 10 (fun _ => ?_) (fun z => by omega)
          refine ⟨_, e7, ?_⟩
          refine ⟨c, _, by (first | assumption | (simp only [z_nat, z_lit, ← Int32.ofInt_add, ← Int32.ofInt_sub, ← Int32.ofInt_mul]; exact congrArg Int32.ofInt (by omega)) | (simp only [z_nat, z_lit, ← Int32.ofInt_add, ← Int32.ofInt_sub, ← Int32.ofInt_mul]; done) | exact congrArg Int32.ofInt (by omega) | rfl), by (dsimp only; omega), rfl, ?_⟩
          refine k_isLetter (x p) hb.2 (fun hL => br_f (by decide) ?_) (fun hL => br_t (by decide) ?_)
          · have er : tkR x len p = rnE isLt x (len - p) p := if_pos hL
            have rs := rnE_s (f := isLt) (x := x) (k := len - p) (i := p)
            have r1 : p < rnE isLt x (len - p) p := by
              rcases Nat.lt_or_ge p (rnE isLt x (len - p) p) with z | z
              · exact z
              · have e : rnE isLt x (len - p) p = p := by omega
                have := rs.2.2.2 (by omega)
                rw [e, hL] at this
                cases this
            refine k_wordFrom (gt _) p c hp e7 (by omega) (fun r hr => ?_)
            subst hr
            refine t140 _ _ _ er.symm r1 (by omega) hf.s1.s1.s2.s1 (fun i => ?_) (fun k hkk => (hk k hkk).2.eq ?_ ?_ ?_ ?_ ?_) ⟨?_, Or.inl ⟨by rw [es]; exact hL, ?_, ?_, ?_⟩⟩
            · exact (q_si_nn (by omega)).trans (sl_1.trans ((q_si_nn (by omega)).trans (q_si_nn (by omega))))
            · exact (q_si_nn (by omega)).trans (sl_1.trans ((q_si_nn (by omega)).trans (q_si_nn (by omega))))
            · exact (q_si_nn (by omega)).trans (sl_1.trans ((q_si_nn (by omega)).trans (q_si_nn (by omega))))
            · exact (q_si_nn (by omega)).trans (sl_1.trans ((q_si_nn (by omega)).trans (q_si_nn (by omega))))
            · exact q_sl_nn (by omega)
            · exact (q_si_nn (by omega)).trans (sl_1.trans ((q_si_nn (by omega)).trans (q_si_nn (by omega))))
            · rw [es]
              exact (q_si_nn (by omega)).trans (sl_1.trans ((q_si_nn (by omega)).trans q_si_s))
            · exact (q_si_nn (by omega)).trans (sl_1.trans q_si_s)
            · rw [es, er]
              exact q_sl_s
            · rw [es, er]
              exact q_si_s
          · refine k_isDigit (x p) hb.2 (fun hD => br_f (by decide) ?_) (fun hD => br_t (by decide) ?_)
            · have er : tkR x len p = rnE isDg x (len - p) p := by
                unfold tkR
                rw [if_neg (by rw [hL]; decide), if_pos hD]
              have rs := rnE_s (f := isDg) (x := x) (k := len - p) (i := p)
              have r1 : p < rnE isDg x (len - p) p := by
                rcases Nat.lt_or_ge p (rnE isDg x (len - p) p) with z | z
                · exact z
                · have e : rnE isDg x (len - p) p = p := by omega
                  have := rs.2.2.2 (by omega)
                  rw [e, hD] at this
                  cases this
              refine k_numberFrom (gt _) p c hp e7 (by omega) (fun r hr => ?_)
              subst hr
              refine t140 _ _ _ er.symm r1 (by omega) hf.s1.s1.s1 (fun i => ?_) (fun k hkk => (hk k hkk).2.eq ?_ ?_ ?_ ?_ ?_) ⟨?_, Or.inr (Or.inl ⟨by rw [es]; exact hL, by rw [es]; exact hD, ?_, ?_⟩)⟩
              · exact (q_si_nn (by omega)).trans ((q_si_nn (by omega)).trans (q_si_nn (by omega)))
              · exact (q_si_nn (by omega)).trans ((q_si_nn (by omega)).trans (q_si_nn (by omega)))
              · exact (q_si_nn (by omega)).trans ((q_si_nn (by omega)).trans (q_si_nn (by omega)))
              · exact (q_si_nn (by omega)).trans ((q_si_nn (by omega)).trans (q_si_nn (by omega)))
              · rfl
              · exact (q_si_nn (by omega)).trans ((q_si_nn (by omega)).trans (q_si_nn (by omega)))
              · rw [es]
                exact (q_si_nn (by omega)).trans ((q_si_nn (by omega)).trans q_si_s)
              · rw [es, er]
                exact (q_si_nn (by omega)).trans q_si_s
              · rw [es, er]
                exact q_si_s
            · have er : tkR x len p = p + 1 := by
                unfold tkR
                rw [if_neg (by rw [hL]; decide), if_neg (by rw [hD]; decide)]
              have fn : ∀ w : Int32, w = Int32.ofInt (if isSg (x p) = true then 3 else 4) → ∀ r x3, r = nI (p + 1) → q_G q_mt (L, xs, q_shp) E nX12_splits (d + 2) 0 0 (q_Q (L, xs, q_shp) E Q) 140 [some (.ref 271), some (.int (nI len)), some (.int (r)), x3] [] (q_si (q_si (q_si M' 274 c (nI p)) 273 c w) 275 c (nI (x p))) := by
                rintro w hw r x3 rfl
                refine t140 _ _ _ er.symm (by omega) (by omega) hf.s1.s1.s1 (fun i => ?_) (fun k hkk => (hk k hkk).2.eq ?_ ?_ ?_ ?_ ?_) ⟨?_, Or.inr (Or.inr ⟨by rw [es]; exact hL, by rw [es]; exact hD, ?_, ?_⟩)⟩
                · exact (q_si_nn (by omega)).trans ((q_si_nn (by omega)).trans (q_si_nn (by omega)))
                · exact (q_si_nn (by omega)).trans ((q_si_nn (by omega)).trans (q_si_nn (by omega)))
                · exact (q_si_nn (by omega)).trans ((q_si_nn (by omega)).trans (q_si_nn (by omega)))
                · exact (q_si_nn (by omega)).trans ((q_si_nn (by omega)).trans (q_si_nn (by omega)))
                · rfl
                · exact (q_si_nn (by omega)).trans ((q_si_nn (by omega)).trans (q_si_nn (by omega)))
                · rw [es]
                  exact (q_si_nn (by omega)).trans ((q_si_nn (by omega)).trans q_si_s)
                · rw [es]
                  exact ((q_si_nn (by omega)).trans q_si_s).trans hw
                · rw [es]
                  exact q_si_s
              refine ⟨_, e7, ?_⟩
              refine k_isSignByte (x p) hb.2 (fun hS => br_f (by decide) ?_) (fun hS => br_t (by decide) ?_)
              · refine ⟨c, _, by (first | assumption | (simp only [z_nat, z_lit, ← Int32.ofInt_add, ← Int32.ofInt_sub, ← Int32.ofInt_mul]; exact congrArg Int32.ofInt (by omega)) | (simp only [z_nat, z_lit, ← Int32.ofInt_add, ← Int32.ofInt_sub, ← Int32.ofInt_mul]; done) | exact congrArg Int32.ofInt (by omega) | rfl), by (dsimp only; omega), rfl, ?_⟩
                refine ⟨_, e7, ?_⟩
                refine ⟨c, _, by (first | assumption | (simp only [z_nat, z_lit, ← Int32.ofInt_add, ← Int32.ofInt_sub, ← Int32.ofInt_mul]; exact congrArg Int32.ofInt (by omega)) | (simp only [z_nat, z_lit, ← Int32.ofInt_add, ← Int32.ofInt_sub, ← Int32.ofInt_mul]; done) | exact congrArg Int32.ofInt (by omega) | rfl), by (dsimp only; omega), rfl, ?_⟩
                exact fn _ (by rw [if_pos hS]) _ _ (by (first | assumption | (simp only [z_nat, z_lit, ← Int32.ofInt_add, ← Int32.ofInt_sub, ← Int32.ofInt_mul]; exact congrArg Int32.ofInt (by omega)) | (simp only [z_nat, z_lit, ← Int32.ofInt_add, ← Int32.ofInt_sub, ← Int32.ofInt_mul]; done) | exact congrArg Int32.ofInt (by omega) | rfl))
              · refine ⟨c, _, by (first | assumption | (simp only [z_nat, z_lit, ← Int32.ofInt_add, ← Int32.ofInt_sub, ← Int32.ofInt_mul]; exact congrArg Int32.ofInt (by omega)) | (simp only [z_nat, z_lit, ← Int32.ofInt_add, ← Int32.ofInt_sub, ← Int32.ofInt_mul]; done) | exact congrArg Int32.ofInt (by omega) | rfl), by (dsimp only; omega), rfl, ?_⟩
                refine ⟨_, e7, ?_⟩
                refine ⟨c, _, by (first | assumption | (simp only [z_nat, z_lit, ← Int32.ofInt_add, ← Int32.ofInt_sub, ← Int32.ofInt_mul]; exact congrArg Int32.ofInt (by omega)) | (simp only [z_nat, z_lit, ← Int32.ofInt_add, ← Int32.ofInt_sub, ← Int32.ofInt_mul]; done) | exact congrArg Int32.ofInt (by omega) | rfl), by (dsimp only; omega), rfl, ?_⟩
                exact fn _ (by rw [if_neg (by rw [hS]; decide)]) _ _ (by (first | assumption | (simp only [z_nat, z_lit, ← Int32.ofInt_add, ← Int32.ofInt_sub, ← Int32.ofInt_mul]; exact congrArg Int32.ofInt (by omega)) | (simp only [z_nat, z_lit, ← Int32.ofInt_add, ← Int32.ofInt_sub, ← Int32.ofInt_mul]; done) | exact congrArg Int32.ofInt (by omega) | rfl))
  refine w_in 90 [32, 140] ?_
  refine ⟨_, h1, ?_⟩
  refine ⟨_, rfl, ?_⟩
  refine ⟨_, rfl, ?_⟩
  refine ⟨_, rfl, ?_⟩
  refine ⟨_, rfl, ?_⟩
  refine ⟨_, rfl, ?_⟩
  exact main len 0 0 _ (by omega) (Nat.zero_le _) (Nat.le_refl _) rfl ⟨q_fs.rf.s1.s1.s1.s1.s1, rfl, rfl, rfl, rfl, rfl, fun k hk => absurd hk (Nat.not_lt_zero _)⟩ _ _ rfl
end SS
