/-! how the class reads a LAW -/
def gt : List Nat → Nat → Nat
  | [], _ => 0
  | a :: _, 0 => a
  | _ :: l, k + 1 => gt l k
theorem gt_1 : ∀ {a b : List Nat} {p : Nat}, p < a.length → gt (a ++ b) p = gt a p
  | [], _, p, h => absurd h (Nat.not_lt_zero _)
  | _ :: _, _, 0, _ => rfl
  | _ :: a, b, p + 1, h => gt_1 (a := a) (by rw [List.length_cons] at h; omega)
theorem gt_2 : ∀ {a b : List Nat} {p : Nat}, gt (a ++ b) (a.length + p) = gt b p
  | [], b, p => by rw [List.length_nil, Nat.zero_add]; rfl
  | c :: a, b, p => by
    rw [List.length_cons, show a.length + 1 + p = a.length + p + 1 by omega]
    exact gt_2 (a := a)
theorem gt_in : ∀ {a : List Nat} {p : Nat}, p < a.length → gt a p ∈ a
  | [], p, h => absurd h (Nat.not_lt_zero _)
  | c :: a, 0, _ => List.mem_cons_self
  | c :: a, p + 1, h => List.mem_cons_of_mem c (gt_in (by rw [List.length_cons] at h; omega))
section LC
variable {L : Nat} {xs : Nat → Int32} {E : q_E} {d : Nat} {M : q_M} {t : q_T} {n : sN} {Q : Option Value → q_M → Prop} {P : q_M → Prop}
variable {x : Nat → Nat} {len : Nat} {tok : Nat → Tok} {T : Nat}
/-- the law l that is being read: its steps from base on -/
def lwC (M : q_M) (l base v : Nat) (cs : List Nat) : Prop := M.1 35 3 = nI (base + cs.length) ∧ M.1 35 4 = nI v ∧ M.1 35 5 = nI (l + 1) ∧ M.1 37 l = nI (base + cs.length) ∧ ∀ p, p < cs.length → M.1 36 (base + p) = nI (cS (gt cs p))
def lowL (l base : Nat) (M M' : q_M) : Prop := (∀ q, q < base → M'.1 36 q = M.1 36 q) ∧ ∀ q, q < l → M'.1 37 q = M.1 37 q
theorem lowL.rf {l base : Nat} : lowL l base M M := ⟨fun _ _ => rfl, fun _ _ => rfl⟩
theorem lowL.tr {l base : Nat} {M' M'' : q_M} (h : lowL l base M M') (h' : lowL l base M' M'') : lowL l base M M'' := ⟨fun q hq => (h'.1 q hq).trans (h.1 q hq), fun q hq => (h'.2 q hq).trans (h.2 q hq)⟩
theorem lowL.tk {l base : Nat} {M' : q_M} {ll : List Nat} {f : List (Nat × Nat)} (hf : q_fs ll f M M') (o : (ll.all (fun a => !(c_rng 36 37 a)) && f.all (fun q => !(c_rng 36 37 q.1))) = true := by exact rfl) : lowL l base M M' := ⟨fun q _ => (hf 36 q (q_out o rfl q)).1, fun q _ => (hf 37 q (q_out o rfl q)).1⟩
theorem lwC.tk {l base v : Nat} {cs : List Nat} {M' : q_M} {ll : List Nat} {f : List (Nat × Nat)} (h : lwC M l base v cs) (hf : q_fs ll f M M') (o : (ll.all (fun a => !(c_rng 35 37 a)) && f.all (fun q => !(c_rng 35 37 q.1))) = true := by exact rfl) : lwC M' l base v cs := ⟨(hf 35 3 (q_out o rfl 3)).1.trans h.1, (hf 35 4 (q_out o rfl 4)).1.trans h.2.1, (hf 35 5 (q_out o rfl 5)).1.trans h.2.2.1, (hf 37 l (q_out o rfl l)).1.trans h.2.2.2.1, fun p hp => (hf 36 _ (q_out o rfl _)).1.trans (h.2.2.2.2 p hp)⟩
def wOK (M : q_M) (l : Nat) : Prop := (∃ W, W ≤ 1200 ∧ M.1 35 3 = nI W) ∧ M.1 35 5 = nI (l + 1)
theorem wOK.tk {l : Nat} {M' : q_M} {ll : List Nat} {f : List (Nat × Nat)} (h : wOK M l) (hf : q_fs ll f M M') (o : (ll.all (fun a => !(c_rng 35 35 a)) && f.all (fun q => !(c_rng 35 35 q.1))) = true := by exact rfl) : wOK M' l := ⟨⟨h.1.choose, h.1.choose_spec.1, (hf 35 3 (q_out o rfl 3)).1.trans h.1.choose_spec.2⟩, (hf 35 5 (q_out o rfl 5)).1.trans h.2⟩
theorem lwC.w {l base v : Nat} {cs : List Nat} (h : lwC M l base v cs) (hb : base + cs.length ≤ 1200) : wOK M l := ⟨⟨_, hb, h.1⟩, h.2.2.1⟩
abbrev lLw : List Nat := [36, 37]
abbrev fLw : List (Nat × Nat) := [(3, 3), (3, 4), (3, 5), (3, 6), (3, 7), (3, 8), (3, 9), (3, 10), (35, 3), (35, 4)]
set_option maxRecDepth 100000 in
set_option maxHeartbeats 4000000 in
theorem k2_write1 {l base v c : Nat} {cs : List Nat} {a : Int32} (h : lwC M l base v cs) (hb : base + cs.length < 1200) (hl : l < 6) (hQ : ∀ M', q_fs lLw [(35, 3)] M M' → lowL l base M M' → lwC M' l base v (cs ++ [c]) → Q none M') (ha : a = nI (cS c) := by (first | assumption | (simp only [z_nat, z_lit, ← Int32.ofInt_add, ← Int32.ofInt_sub, ← Int32.ofInt_mul]; exact congrArg Int32.ofInt (by omega)) | (simp only [z_nat, z_lit, ← Int32.ofInt_add, ← Int32.ofInt_sub, ← Int32.ofInt_mul]; done) | exact congrArg Int32.ofInt (by omega) | rfl)) : q_C q_mt (L, xs, q_shp) E nX1_write (d) 0 0 [.ref 35, .int (a)] M Q := by
  subst ha
  obtain ⟨h3, h4, h5, h7, h6⟩ := h
  refine w_in 90 [] ?_
  refine ⟨_, h3, ?_⟩
  refine z_le 1200 ((base + cs.length : Nat) : Int) (fun z => by omega) (fun _ => ?_)
  refine ⟨_, h5, ?_⟩
  refine z_le ((l + 1 : Nat) : Int) 0 (fun z => by omega) (fun _ => ?_)
  refine ⟨_, h3, ?_⟩
  refine ⟨base + cs.length, _, by (first | assumption | (simp only [z_nat, z_lit, ← Int32.ofInt_add, ← Int32.ofInt_sub, ← Int32.ofInt_mul]; exact congrArg Int32.ofInt (by omega)) | (simp only [z_nat, z_lit, ← Int32.ofInt_add, ← Int32.ofInt_sub, ← Int32.ofInt_mul]; done) | exact congrArg Int32.ofInt (by omega) | rfl), by (dsimp only; omega), rfl, ?_⟩
  refine ⟨_, h3, ?_⟩
  refine ⟨_, rfl, ?_⟩
  refine ⟨_, h5, ?_⟩
  have e3 : (q_si (q_si M 36 (base + cs.length) (nI (cS c))) 35 3 (nI (base + cs.length) + Int32.ofInt 1)).1 35 3 = nI (base + cs.length + 1) := by
    rw [q_si_s]
    (first | assumption | (simp only [z_nat, z_lit, ← Int32.ofInt_add, ← Int32.ofInt_sub, ← Int32.ofInt_mul]; exact congrArg Int32.ofInt (by omega)) | (simp only [z_nat, z_lit, ← Int32.ofInt_add, ← Int32.ofInt_sub, ← Int32.ofInt_mul]; done) | exact congrArg Int32.ofInt (by omega) | rfl)
  refine ⟨_, e3, ?_⟩
  refine ⟨l, _, by (first | assumption | (simp only [z_nat, z_lit, ← Int32.ofInt_add, ← Int32.ofInt_sub, ← Int32.ofInt_mul]; exact congrArg Int32.ofInt (by omega)) | (simp only [z_nat, z_lit, ← Int32.ofInt_add, ← Int32.ofInt_sub, ← Int32.ofInt_mul]; done) | exact congrArg Int32.ofInt (by omega) | rfl), by (dsimp only; omega), rfl, ?_⟩
  have hf : q_fs lLw [(35, 3)] M (q_si (q_si (q_si M 36 (base + cs.length) (nI (cS c))) 35 3 (nI (base + cs.length) + Int32.ofInt 1)) 37 l (nI (base + cs.length + 1))) := q_fs.rf.s1.s1.s1
  refine hQ _ hf ⟨fun q hq => ?_, fun q hq => ?_⟩ ⟨?_, (hf.p1 35 4).trans h4, (hf.p1 35 5).trans h5, ?_, fun p hp => ?_⟩
  · exact (q_si_nn (by omega)).trans ((q_si_nn (by omega)).trans (q_si_n (by omega)))
  · exact (q_si_n (by omega)).trans ((q_si_nn (by omega)).trans (q_si_nn (by omega)))
  · rw [List.length_append]
    exact (q_si_nn (by omega)).trans e3
  · rw [List.length_append]
    exact q_si_s
  · rw [List.length_append] at hp
    have hp : p < cs.length + 1 := hp
    refine (q_si_nn (by omega)).trans ((q_si_nn (by omega)).trans ?_)
    by_cases q : p = cs.length
    · subst q
      rw [q_si_s]
      have := gt_2 (a := cs) (b := [c]) (p := 0)
      rw [Nat.add_zero] at this
      rw [this]
      rfl
    · rw [q_si_n (by omega), gt_1 (by omega)]
      exact h6 p (by omega)
set_option maxRecDepth 100000 in
set_option maxHeartbeats 4000000 in
theorem k2_write0 {l : Nat} {a : Int32} (h : wOK M l) (hl : l < 6) (hQ : ∀ M', q_fs lLw [(35, 3)] M M' → wOK M' l → Q none M') : q_C q_mt (L, xs, q_shp) E nX1_write (d) 0 0 [.ref 35, .int (a)] M Q := by
  obtain ⟨⟨W, hW, h3⟩, h5⟩ := h
  by_cases q : W = 1200
  · refine w_in 90 [] ?_
    refine ⟨_, h3, ?_⟩
    exact z_le 1200 (W : Int) (fun _ => hQ M q_fs.rf ⟨⟨W, hW, h3⟩, h5⟩) (fun z => by omega)
  · refine w_in 90 [] ?_
    refine ⟨_, h3, ?_⟩
    refine z_le 1200 (W : Int) (fun z => by omega) (fun _ => ?_)
    refine ⟨_, h5, ?_⟩
    refine z_le ((l + 1 : Nat) : Int) 0 (fun z => by omega) (fun _ => ?_)
    refine ⟨_, h3, ?_⟩
    refine ⟨W, _, by (first | assumption | (simp only [z_nat, z_lit, ← Int32.ofInt_add, ← Int32.ofInt_sub, ← Int32.ofInt_mul]; exact congrArg Int32.ofInt (by omega)) | (simp only [z_nat, z_lit, ← Int32.ofInt_add, ← Int32.ofInt_sub, ← Int32.ofInt_mul]; done) | exact congrArg Int32.ofInt (by omega) | rfl), by (dsimp only; omega), rfl, ?_⟩
    refine ⟨_, h3, ?_⟩
    refine ⟨_, rfl, ?_⟩
    refine ⟨_, h5, ?_⟩
    have e3 : (q_si (q_si M 36 W a) 35 3 (nI W + Int32.ofInt 1)).1 35 3 = nI (W + 1) := by
      rw [q_si_s]
      (first | assumption | (simp only [z_nat, z_lit, ← Int32.ofInt_add, ← Int32.ofInt_sub, ← Int32.ofInt_mul]; exact congrArg Int32.ofInt (by omega)) | (simp only [z_nat, z_lit, ← Int32.ofInt_add, ← Int32.ofInt_sub, ← Int32.ofInt_mul]; done) | exact congrArg Int32.ofInt (by omega) | rfl)
    refine ⟨_, e3, ?_⟩
    refine ⟨l, _, by (first | assumption | (simp only [z_nat, z_lit, ← Int32.ofInt_add, ← Int32.ofInt_sub, ← Int32.ofInt_mul]; exact congrArg Int32.ofInt (by omega)) | (simp only [z_nat, z_lit, ← Int32.ofInt_add, ← Int32.ofInt_sub, ← Int32.ofInt_mul]; done) | exact congrArg Int32.ofInt (by omega) | rfl), by (dsimp only; omega), rfl, ?_⟩
    have hf : q_fs lLw [(35, 3)] M (q_si (q_si (q_si M 36 W a) 35 3 (nI W + Int32.ofInt 1)) 37 l (nI (W + 1))) := q_fs.rf.s1.s1.s1
    exact hQ _ hf ⟨⟨W + 1, by omega, (q_si_nn (by omega)).trans e3⟩, (hf.p1 35 5).trans h5⟩
-- a value's step
set_option maxRecDepth 100000 in
set_option maxHeartbeats 4000000 in
theorem k2_stepOfValue {i : Nat} (g : g_ct M x len tok T i) (h1 : ¬ valC (tok i) = 0 → Q (some (.int (nI (cS (valC (tok i)))))) M) (h0 : valC (tok i) = 0 → Q (some (.int (Int32.ofInt (-1)))) M) : q_C q_mt (L, xs, q_shp) E nX1_stepOfValue (d + 1) 0 0 [.ref 3] M Q := by
  have k5 := g.tt.k5 i
  have v9 := g.tt.v9 i
  refine w_in 90 [] ?_
  refine ⟨_, g.k.1, ?_⟩
  refine z_ne ((tok i).1 : Int) 3 (fun z => ?_) (fun z => ?_)
  · have z : ¬ (tok i).1 = 3 := by omega
    refine ⟨_, g.k.1, ?_⟩
    refine z_ne ((tok i).1 : Int) 1 (fun y => ?_) (fun y => ?_)
    · refine ⟨fun w => absurd rfl w, fun _ => ⟨_, rfl, h0 ?_⟩⟩
      have ne : ∀ w, ¬ tok i = (1, w) := fun w e => y (by rw [e]; rfl)
      unfold valC
      rw [if_neg z, if_neg (ne _), if_neg (ne _), if_neg (ne _), if_neg (ne _), if_neg (ne _), if_neg (ne _), if_neg (ne _), if_neg (ne _)]
    · have y : (tok i).1 = 1 := by omega
      have e4 := g.k.2.1 (by omega)
      have wv := g.tt.wv (tk_pr y)
      have et := tk_pr y
      have V : valC (tok i) = if (tok i).2 = 0 then 1 else if (tok i).2 = 21 then 2 else if (tok i).2 = 8 then 3 else if (tok i).2 = 9 then 4 else if (tok i).2 = 22 then 5 else if (tok i).2 = 23 then 6 else if (tok i).2 = 24 then 7 else if (tok i).2 = 11 then 8 else 0 := by
        have ee : ∀ w, (tok i = (1, w)) = ((tok i).2 = w) := fun w => propext ⟨fun e => by rw [e], fun e => by rw [et, e]⟩
        unfold valC
        rw [if_neg z]
        simp only [ee]
      refine ⟨_, e4, ?_⟩
      have go : ∀ k : Nat, k < 8 → valC (tok i) = k + 1 → q_C q_mt (L, xs, q_shp) E nX1_factOfWord (d) 0 0 [.int (nI (tok i).2)] M (fun v M' => v = some (.int (nI k)) ∧ M' = M) → q_C q_mt (L, xs, q_shp) E nX1_factOfWord (d) 0 0 [.int (nI (tok i).2)] M (fun v M' => ∃ y, v = some (.int y) ∧ M' = M ∧ ((¬ y = Int32.ofInt (-1) ∧ Q (some (.int (Int32.ofInt 10000 + y))) M) ∨ (y = Int32.ofInt (-1) ∧ Q (some (.int (Int32.ofInt (-1)))) M))) := fun k hk ev hc => hc.mono (fun v M' h => by
        obtain ⟨rfl, rfl⟩ := h
        refine ⟨_, rfl, rfl, Or.inl ⟨fun e => ?_, ?_⟩⟩
        · rw [z_nat, z_inj (by omega) (by omega)] at e
          omega
        · have hq := h1 (by omega)
          rw [ev] at hq
          have e : nI (cS (k + 1)) = Int32.ofInt 10000 + nI k := by
            have : cS (k + 1) = 10000 + k := by
              unfold cS
              rw [if_neg (by omega), if_pos (by omega)]
              omega
            rw [this]
            (first | assumption | (simp only [z_nat, z_lit, ← Int32.ofInt_add, ← Int32.ofInt_sub, ← Int32.ofInt_mul]; exact congrArg Int32.ofInt (by omega)) | (simp only [z_nat, z_lit, ← Int32.ofInt_add, ← Int32.ofInt_sub, ← Int32.ofInt_mul]; done) | exact congrArg Int32.ofInt (by omega) | rfl)
          rw [e] at hq
          exact hq)
      have nogo : valC (tok i) = 0 → q_C q_mt (L, xs, q_shp) E nX1_factOfWord (d) 0 0 [.int (nI (tok i).2)] M (fun v M' => v = some (.int (Int32.ofInt (-1))) ∧ M' = M) → q_C q_mt (L, xs, q_shp) E nX1_factOfWord (d) 0 0 [.int (nI (tok i).2)] M (fun v M' => ∃ y, v = some (.int y) ∧ M' = M ∧ ((¬ y = Int32.ofInt (-1) ∧ Q (some (.int (Int32.ofInt 10000 + y))) M) ∨ (y = Int32.ofInt (-1) ∧ Q (some (.int (Int32.ofInt (-1)))) M))) := fun ev hc => hc.mono (fun v M' h => by
        obtain ⟨rfl, rfl⟩ := h
        exact ⟨_, rfl, rfl, Or.inr ⟨rfl, h0 ev⟩⟩)
      have all : q_C q_mt (L, xs, q_shp) E nX1_factOfWord (d) 0 0 [.int (nI (tok i).2)] M (fun v M' => ∃ y, v = some (.int y) ∧ M' = M ∧ ((¬ y = Int32.ofInt (-1) ∧ Q (some (.int (Int32.ofInt 10000 + y))) M) ∨ (y = Int32.ofInt (-1) ∧ Q (some (.int (Int32.ofInt (-1)))) M))) := by
        revert V go nogo
        generalize valC (tok i) = vc
        generalize (tok i).2 = w at wv
        intro V go nogo
        obtain rfl | rfl | rfl | rfl | rfl | rfl | rfl | rfl | hw : w = 0 ∨ w = 21 ∨ w = 8 ∨ w = 9 ∨ w = 22 ∨ w = 23 ∨ w = 24 ∨ w = 11 ∨ ¬ (w = 0 ∨ w = 21 ∨ w = 8 ∨ w = 9 ∨ w = 22 ∨ w = 23 ∨ w = 24 ∨ w = 11) := by omega
        · refine go 0 (by omega) V ?_
          refine w_in 90 [] ?_
          exact ⟨fun z => absurd z (by decide), sw_at 0 (by decide) rfl ⟨_, rfl, rfl, rfl⟩⟩
        · refine go 1 (by omega) V ?_
          refine w_in 90 [] ?_
          exact ⟨fun z => absurd z (by decide), sw_at 21 (by decide) rfl ⟨_, rfl, rfl, rfl⟩⟩
        · refine go 2 (by omega) V ?_
          refine w_in 90 [] ?_
          exact ⟨fun z => absurd z (by decide), sw_at 8 (by decide) rfl ⟨_, rfl, rfl, rfl⟩⟩
        · refine go 3 (by omega) V ?_
          refine w_in 90 [] ?_
          exact ⟨fun z => absurd z (by decide), sw_at 9 (by decide) rfl ⟨_, rfl, rfl, rfl⟩⟩
        · refine go 4 (by omega) V ?_
          refine w_in 90 [] ?_
          exact ⟨fun z => absurd z (by decide), sw_at 22 (by decide) rfl ⟨_, rfl, rfl, rfl⟩⟩
        · refine go 5 (by omega) V ?_
          refine w_in 90 [] ?_
          exact ⟨fun z => absurd z (by decide), sw_at 23 (by decide) rfl ⟨_, rfl, rfl, rfl⟩⟩
        · refine go 6 (by omega) V ?_
          refine w_in 90 [] ?_
          exact ⟨fun z => absurd z (by decide), sw_at 24 (by decide) rfl ⟨_, rfl, rfl, rfl⟩⟩
        · refine go 7 (by omega) V ?_
          refine w_in 90 [] ?_
          exact ⟨fun z => absurd z (by decide), sw_at 11 (by decide) rfl ⟨_, rfl, rfl, rfl⟩⟩
        · have V : vc = 0 := by
            rw [V, if_neg (by omega), if_neg (by omega), if_neg (by omega), if_neg (by omega), if_neg (by omega), if_neg (by omega), if_neg (by omega), if_neg (by omega)]
          refine nogo V ?_
          by_cases h25 : 25 ≤ w
          · refine w_in 90 [] ?_
            refine ⟨fun _ => ⟨_, rfl, rfl, rfl⟩, sw_no (Or.inr ?_)⟩
            rw [z_nat, z_toInt (by omega)]
            show (0 : Int) + 25 ≤ w
            omega
          · obtain rfl | rfl | rfl | rfl | rfl | rfl | rfl | rfl | rfl | rfl | rfl | rfl | rfl | rfl | rfl | rfl | rfl : w = 1 ∨ w = 2 ∨ w = 3 ∨ w = 4 ∨ w = 5 ∨ w = 6 ∨ w = 7 ∨ w = 10 ∨ w = 12 ∨ w = 13 ∨ w = 14 ∨ w = 15 ∨ w = 16 ∨ w = 17 ∨ w = 18 ∨ w = 19 ∨ w = 20 := by omega
            · refine w_in 90 [] ?_
              exact ⟨fun z => absurd z (by decide), sw_at 1 (by decide) rfl ⟨_, rfl, rfl, rfl⟩⟩
            · refine w_in 90 [] ?_
              exact ⟨fun z => absurd z (by decide), sw_at 2 (by decide) rfl ⟨_, rfl, rfl, rfl⟩⟩
            · refine w_in 90 [] ?_
              exact ⟨fun z => absurd z (by decide), sw_at 3 (by decide) rfl ⟨_, rfl, rfl, rfl⟩⟩
            · refine w_in 90 [] ?_
              exact ⟨fun z => absurd z (by decide), sw_at 4 (by decide) rfl ⟨_, rfl, rfl, rfl⟩⟩
            · refine w_in 90 [] ?_
              exact ⟨fun z => absurd z (by decide), sw_at 5 (by decide) rfl ⟨_, rfl, rfl, rfl⟩⟩
            · refine w_in 90 [] ?_
              exact ⟨fun z => absurd z (by decide), sw_at 6 (by decide) rfl ⟨_, rfl, rfl, rfl⟩⟩
            · refine w_in 90 [] ?_
              exact ⟨fun z => absurd z (by decide), sw_at 7 (by decide) rfl ⟨_, rfl, rfl, rfl⟩⟩
            · refine w_in 90 [] ?_
              exact ⟨fun z => absurd z (by decide), sw_at 10 (by decide) rfl ⟨_, rfl, rfl, rfl⟩⟩
            · refine w_in 90 [] ?_
              exact ⟨fun z => absurd z (by decide), sw_at 12 (by decide) rfl ⟨_, rfl, rfl, rfl⟩⟩
            · refine w_in 90 [] ?_
              exact ⟨fun z => absurd z (by decide), sw_at 13 (by decide) rfl ⟨_, rfl, rfl, rfl⟩⟩
            · refine w_in 90 [] ?_
              exact ⟨fun z => absurd z (by decide), sw_at 14 (by decide) rfl ⟨_, rfl, rfl, rfl⟩⟩
            · refine w_in 90 [] ?_
              exact ⟨fun z => absurd z (by decide), sw_at 15 (by decide) rfl ⟨_, rfl, rfl, rfl⟩⟩
            · refine w_in 90 [] ?_
              exact ⟨fun z => absurd z (by decide), sw_at 16 (by decide) rfl ⟨_, rfl, rfl, rfl⟩⟩
            · refine w_in 90 [] ?_
              exact ⟨fun z => absurd z (by decide), sw_at 17 (by decide) rfl ⟨_, rfl, rfl, rfl⟩⟩
            · refine w_in 90 [] ?_
              exact ⟨fun z => absurd z (by decide), sw_at 18 (by decide) rfl ⟨_, rfl, rfl, rfl⟩⟩
            · refine w_in 90 [] ?_
              exact ⟨fun z => absurd z (by decide), sw_at 19 (by decide) rfl ⟨_, rfl, rfl, rfl⟩⟩
            · refine w_in 90 [] ?_
              exact ⟨fun z => absurd z (by decide), sw_at 20 (by decide) rfl ⟨_, rfl, rfl, rfl⟩⟩
      refine all.mono (fun v M' h => ?_)
      obtain ⟨y, rfl, rfl, hh⟩ := h
      rcases hh with ⟨hy, hq⟩ | ⟨rfl, hq⟩
      · exact ⟨fun _ => ⟨_, rfl, hq⟩, fun e => absurd e hy⟩
      · exact ⟨fun e => absurd rfl e, fun _ => ⟨_, rfl, hq⟩⟩
  · have z : (tok i).1 = 3 := by omega
    have e4 := g.k.2.1 (by omega)
    have V : valC (tok i) = 1000 + (tok i).2 := if_pos z
    refine ⟨_, e4, ?_⟩
    refine ⟨_, rfl, ?_⟩
    have hq := h1 (by omega)
    have e : cS (valC (tok i)) = (tok i).2 := by
      rw [V]
      unfold cS
      rw [if_pos (by omega)]
      omega
    rw [e] at hq
    exact hq
set_option maxRecDepth 100000 in
set_option maxHeartbeats 4000000 in
theorem k2_isFactorSign {i : Nat} (g : g_ct M x len tok T i) (h1 : ¬ mulC (tok i) = 0 → Q (some (.int 1)) M) (h0 : mulC (tok i) = 0 → Q (some (.int 0)) M) : q_C q_mt (L, xs, q_shp) E nX1_isFactorSign (d + 1) 0 0 [.ref 3] M Q := by
  refine w_in 90 [] ?_
  refine k2_isSign g 42 (by omega) (fun e => bn_t (by decide) ⟨z_1, h1 ?_⟩) (fun e => bn_f rfl ?_)
  · unfold mulC
    rw [if_pos e]
    decide
  refine k2_isSign g 47 (by omega) (fun e' => bn_t (by decide) ⟨z_1, h1 ?_⟩) (fun e' => bn_f rfl ?_)
  · unfold mulC
    rw [if_neg e, if_pos e']
    decide
  refine k2_isSign g 37 (by omega) (fun e2 => br_f (by decide) ⟨z_1, h1 ?_⟩) (fun e2 => br_t (by decide) ⟨z_0, h0 ?_⟩)
  · unfold mulC
    rw [if_neg e, if_neg e', if_pos e2]
    decide
  · unfold mulC
    rw [if_neg e, if_neg e', if_neg e2]
end LC
