/-! the STATEMENTS dive, diver, pair -/
def nmT (t : q_T) (j ln : Nat) (f : Nat → Nat) : q_T := fun a b => if a = 30 ∧ b = j then ln else if a = 31 + j then f b else t a b
theorem nmT_30 {t : q_T} {j ln : Nat} {f : Nat → Nat} : nmT t j ln f 30 j = ln := if_pos ⟨rfl, rfl⟩
theorem nmT_30n {t : q_T} {j ln k : Nat} {f : Nat → Nat} (h : ¬ k = j) : nmT t j ln f 30 k = t 30 k := by
  unfold nmT
  rw [if_neg (fun z => h z.2), if_neg (by omega)]
theorem nmT_r {t : q_T} {j ln a : Nat} {f : Nat → Nat} (h : ¬ (a = 30 ∨ a = 31 + j)) : nmT t j ln f a = t a := funext fun b => by
  unfold nmT
  rw [if_neg (by omega), if_neg (by omega)]
theorem nmT_l {t : q_T} {j ln : Nat} {f : Nat → Nat} : nmT t j ln f (31 + j) = f := funext fun b => by
  unfold nmT
  rw [if_neg (by omega), if_pos rfl]
/-- the table with the i-th token's name at j -/
def tkN (t : q_T) (x : Nat → Nat) (len i j : Nat) : q_T := nmT t j (tkR x len (tkS x len i) - tkS x len i) (fun p => x (tkS x len i + p))
def divT (t : q_T) (x : Nat → Nat) (len i a b : Nat) : q_T := upT (upT (upT (tkN t x len i (t 5 0)) 6 (t 5 0) a) 7 (t 5 0) b) 5 0 (t 5 0 + 1)
def entT (t : q_T) (x : Nat → Nat) (len i p a : Nat) : q_T := upT (upT (upT (tkN t x len i (10 + t 8 0)) 9 (t 8 0) p) 10 (t 8 0) a) 8 0 (t 8 0 + 1)
def diveP (t : q_T) (x : Nat → Nat) (len : Nat) (tok : Nat → Tok) (i : Nat) : Rs q_T := bd (namP t x len tok (i + 1)) (fun _ j => bd (wrdP tok j 8) (fun _ j => bd (numP tok j 1 6) (fun a j => bd (wrdP tok j 9) (fun _ j => bd (numP tok j 10 60) (fun b j => .inr (divT t x len (i + 1) a b, j))))))
def entP (p : Nat) (t : q_T) (x : Nat → Nat) (len : Nat) (tok : Nat → Tok) (i : Nat) : Rs q_T := bd (namP t x len tok (i + 1)) (fun _ j => bd (wrdP tok j 3) (fun _ j => bd (numP tok j 0 7) (fun a j => .inr (entT t x len (i + 1) p a, j))))
section DV
variable {L : Nat} {xs : Nat → Int32} {E : q_E} {d : Nat} {M : q_M} {t : q_T} {n : sN} {Q : Option Value → q_M → Prop} {P : q_M → Prop}
variable {x : Nat → Nat} {len : Nat} {tok : Nat → Tok} {T : Nat}
theorem tkN_5 {i j : Nat} {t' : q_T} (h1 : t' 30 j = tkN t x len i j 30 j) (h2 : t' (31 + j) = tkN t x len i j (31 + j)) : n5 t' j = w5E x (tkS x len i) ((tkR x len (tkS x len i) - tkS x len i)) ∧ n8 t' j = w8E x (tkS x len i) ((tkR x len (tkS x len i) - tkS x len i)) := by
  unfold tkN at h1 h2
  rw [nmT_30] at h1
  rw [nmT_l] at h2
  refine ⟨?_, ?_⟩
  · show w5E (t' (31 + j)) 0 (t' 30 j) = _
    rw [h1, h2]
    exact w5E_eq (fun p _ => by rw [Nat.zero_add])
  · show w8E (t' (31 + j)) 0 (t' 30 j) = _
    rw [h1, h2]
    exact w8E_eq (fun p _ => by rw [Nat.zero_add])
/-- it is a name then -/
theorem tkN_O {i j : Nat} {t' : q_T} (hT : g_T x len tok T) (h : (tok i).1 = 2) (h1 : t' 30 j = tkN t x len i j 30 j) (h2 : t' (31 + j) = tkN t x len i j (31 + j)) : nmO t' j := by
  have a := hT.2.1 i
  rw [tk_pr h] at a
  obtain ⟨a1, a2, a3, a4⟩ := a.nm
  have s1 := (tk_step a1).1
  unfold tkN at h1 h2
  rw [nmT_30] at h1
  rw [nmT_l] at h2
  unfold nmO
  rw [h1, h2]
  refine ⟨s1, a3, fun p hp => ?_, fun w hw => a4 w ⟨hw.1, hw.2.trans (w5E_eq (fun p _ => by rw [Nat.zero_add]))⟩⟩
  rw [Nat.zero_add]
  exact lt_tk a1 a2 hp
theorem div_t {i a b : Nat} (d10 : t 5 0 < 10) : (divT t x len i a b 5 0 = t 5 0 + 1 ∧ divT t x len i a b 6 (t 5 0) = a ∧ divT t x len i a b 7 (t 5 0) = b) ∧ (∀ j, j < t 5 0 → divT t x len i a b 6 j = t 6 j ∧ divT t x len i a b 7 j = t 7 j) ∧ (∀ j, ¬ j = t 5 0 → divT t x len i a b 30 j = t 30 j) ∧ (divT t x len i a b 30 (t 5 0) = tkN t x len i (t 5 0) 30 (t 5 0) ∧ divT t x len i a b (31 + t 5 0) = tkN t x len i (t 5 0) (31 + t 5 0)) ∧ ∀ k, ¬ (k = 5 ∨ k = 6 ∨ k = 7 ∨ k = 30 ∨ k = 31 + t 5 0) → divT t x len i a b k = t k := by
  unfold divT
  refine ⟨⟨by rw [upT_s], by rw [upT_n (by omega), upT_n (by omega), upT_s], by rw [upT_n (by omega), upT_s]⟩, fun j hj => ⟨?_, ?_⟩, fun j hj => ?_, ⟨?_, ?_⟩, fun k hk => ?_⟩
  · rw [upT_n (by omega), upT_n (by omega), upT_n (by omega)]
    unfold tkN
    rw [nmT_r (by omega)]
  · rw [upT_n (by omega), upT_n (by omega), upT_n (by omega)]
    unfold tkN
    rw [nmT_r (by omega)]
  · rw [upT_n (by omega), upT_n (by omega), upT_n (by omega)]
    unfold tkN
    rw [nmT_30n hj]
  · rw [upT_n (by omega), upT_n (by omega), upT_n (by omega)]
  · rw [upT_r (by omega), upT_r (by omega), upT_r (by omega)]
  · rw [upT_r (by omega), upT_r (by omega), upT_r (by omega)]
    unfold tkN
    rw [nmT_r (by omega)]
theorem ent_t {i p a : Nat} (e6 : t 8 0 < 6) : (entT t x len i p a 8 0 = t 8 0 + 1 ∧ entT t x len i p a 9 (t 8 0) = p ∧ entT t x len i p a 10 (t 8 0) = a) ∧ (∀ j, j < t 8 0 → entT t x len i p a 9 j = t 9 j ∧ entT t x len i p a 10 j = t 10 j) ∧ (∀ j, ¬ j = 10 + t 8 0 → entT t x len i p a 30 j = t 30 j) ∧ (entT t x len i p a 30 (10 + t 8 0) = tkN t x len i (10 + t 8 0) 30 (10 + t 8 0) ∧ entT t x len i p a (31 + (10 + t 8 0)) = tkN t x len i (10 + t 8 0) (31 + (10 + t 8 0))) ∧ ∀ k, ¬ (k = 8 ∨ k = 9 ∨ k = 10 ∨ k = 30 ∨ k = 41 + t 8 0) → entT t x len i p a k = t k := by
  unfold entT
  refine ⟨⟨by rw [upT_s], by rw [upT_n (by omega), upT_n (by omega), upT_s], by rw [upT_n (by omega), upT_s]⟩, fun j hj => ⟨?_, ?_⟩, fun j hj => ?_, ⟨?_, ?_⟩, fun k hk => ?_⟩
  · rw [upT_n (by omega), upT_n (by omega), upT_n (by omega)]
    unfold tkN
    rw [nmT_r (by omega)]
  · rw [upT_n (by omega), upT_n (by omega), upT_n (by omega)]
    unfold tkN
    rw [nmT_r (by omega)]
  · rw [upT_n (by omega), upT_n (by omega), upT_n (by omega)]
    unfold tkN
    rw [nmT_30n hj]
  · rw [upT_n (by omega), upT_n (by omega), upT_n (by omega)]
  · rw [upT_r (by omega), upT_r (by omega), upT_r (by omega)]
  · rw [upT_r (by omega), upT_r (by omega), upT_r (by omega)]
    unfold tkN
    rw [nmT_r (by omega)]
set_option maxRecDepth 100000 in
set_option maxHeartbeats 4000000 in
theorem k2_readDive {i : Nat} (g : g_ct M x len tok T (i + 1)) (h : dC M t) (bt : b_T t) (bn : bNm t) (d10 : t 5 0 < 10) (h1 : ∀ t' j M', diveP t x len tok i = .inr (t', j) → q_fs lDr fTk M M' → g_ct M' x len tok T j → dC M' t' → Q (some (.int 1)) M') (h0 : ∀ k j M', diveP t x len tok i = .inl (k, j) → q_fs lDr fTk M M' → g_cf M' x len k j → Q (some (.int 0)) M') : q_C q_mt (L, xs, q_shp) E nX3_readDive (d + 4) 0 0 [.ref 42] M Q := by
  have l6 := bt.2.2.2.2.2.2.1
  have c0 : M.1 24 5 = nI (t 5 0) := h.1.2.2.2.1
  refine w_in 90 [] ?_
  refine k2_takeNewName g h bt bn (fun nn z => bn_t (by decide) ?_) (fun k M1 nk hf1 g1 => bn_f rfl ⟨z_0, h0 k _ M1 (bd_no nk) hf1.mono g1⟩)
  have ep : diveP t x len tok i = bd (wrdP tok (i + 1 + 1) 8) (fun _ j => bd (numP tok j 1 6) (fun a j => bd (wrdP tok j 9) (fun _ j => bd (numP tok j 10 60) (fun b j => .inr (divT t x len (i + 1) a b, j))))) := bd_ok nn
  have e35 := g.k.nm z
  refine ⟨_, c0, ?_⟩
  refine ⟨_, e35, ?_⟩
  refine ⟨t 5 0, _, by (first | assumption | (simp only [z_nat, z_lit, ← Int32.ofInt_add, ← Int32.ofInt_sub, ← Int32.ofInt_mul]; exact congrArg Int32.ofInt (by omega)) | (simp only [z_nat, z_lit, ← Int32.ofInt_add, ← Int32.ofInt_sub, ← Int32.ofInt_mul]; done) | exact congrArg Int32.ofInt (by omega) | rfl), by (dsimp only; omega), rfl, ?_⟩
  have hf1 : q_fs [27] [] M (q_sl M 27 (t 5 0) (Int64.ofInt (w5E x (tkS x len (i + 1)) ((tkR x len (tkS x len (i + 1)) - tkS x len (i + 1))) : Nat))) := q_fs.rf.s2
  refine k2_adv (g.fs hf1) (by omega) (fun M2 hf2 g2 => ?_)
  have f2 : q_fs [27] fTk M M2 := hf1.mono.tr hf2.mono
  refine k2_takeWord g2.2 8 (by omega) (fun e M3 hf3 g3 => br_f (by decide) ?_) (fun e M3 hf3 g3 => br_t (by decide) ⟨z_0, h0 1 _ M3 (by rw [ep]; exact bd_no (wrd_no e)) (f2.mono.tr hf3.mono) g3⟩)
  have ep : diveP t x len tok i = bd (numP tok (i + 1 + 1 + 1) 1 6) (fun a j => bd (wrdP tok j 9) (fun _ j => bd (numP tok j 10 60) (fun b j => .inr (divT t x len (i + 1) a b, j)))) := ep.trans (bd_ok (wrd_ok e))
  refine k2_takeNumber g3.2 1 6 (by omega) (by omega) (fun v nv ev hv M4 hf4 g4 => bn_t (by decide) ?_) (fun k nk hk M4 hf4 g4 => bn_f rfl ⟨z_0, h0 k _ M4 (by rw [ep]; exact bd_no nk) ((f2.mono.tr hf3.mono).tr hf4.mono) g4⟩)
  have ep : diveP t x len tok i = bd (wrdP tok (i + 1 + 1 + 1 + 1) 9) (fun _ j => bd (numP tok j 10 60) (fun b j => .inr (divT t x len (i + 1) v b, j))) := ep.trans (bd_ok nv)
  have f4 : q_fs [27] fTk M M4 := (f2.tr hf3.mono).tr hf4.mono
  have c4 : M4.1 24 5 = nI (t 5 0) := (f4.p1 24 5).trans c0
  refine ⟨_, c4, ?_⟩
  refine ⟨_, g4.1, ?_⟩
  refine ⟨t 5 0, _, by (first | assumption | (simp only [z_nat, z_lit, ← Int32.ofInt_add, ← Int32.ofInt_sub, ← Int32.ofInt_mul]; exact congrArg Int32.ofInt (by omega)) | (simp only [z_nat, z_lit, ← Int32.ofInt_add, ← Int32.ofInt_sub, ← Int32.ofInt_mul]; done) | exact congrArg Int32.ofInt (by omega) | rfl), by (dsimp only; omega), rfl, ?_⟩
  have hf5 : q_fs [28] [] M4 (q_si M4 28 (t 5 0) (nI v)) := q_fs.rf.s1
  have f5 : q_fs [27, 28] fTk M (q_si M4 28 (t 5 0) (nI v)) := f4.mono.tr hf5.mono
  refine k2_takeWord (g4.2.fs hf5) 9 (by omega) (fun e' M6 hf6 g6 => br_f (by decide) ?_) (fun e' M6 hf6 g6 => br_t (by decide) ⟨z_0, h0 1 _ M6 (by rw [ep]; exact bd_no (wrd_no e')) (f5.mono.tr hf6.mono) g6⟩)
  have ep : diveP t x len tok i = bd (numP tok (i + 1 + 1 + 1 + 1 + 1) 10 60) (fun b j => .inr (divT t x len (i + 1) v b, j)) := ep.trans (bd_ok (wrd_ok e'))
  refine k2_takeNumber g6.2 10 60 (by omega) (by omega) (fun b nb eb hb M7 hf7 g7 => bn_t (by decide) ?_) (fun k nk hk M7 hf7 g7 => bn_f rfl ⟨z_0, h0 k _ M7 (by rw [ep]; exact bd_no nk) ((f5.mono.tr hf6.mono).tr hf7.mono) g7⟩)
  have ep : diveP t x len tok i = .inr (divT t x len (i + 1) v b, i + 1 + 1 + 1 + 1 + 1 + 1) := ep.trans (bd_ok nb)
  have f7 : q_fs [27, 28] fTk M M7 := (f5.tr hf6.mono).tr hf7.mono
  have c7 : M7.1 24 5 = nI (t 5 0) := (f7.p1 24 5).trans c0
  refine ⟨_, c7, ?_⟩
  refine ⟨_, g7.1, ?_⟩
  refine ⟨t 5 0, _, by (first | assumption | (simp only [z_nat, z_lit, ← Int32.ofInt_add, ← Int32.ofInt_sub, ← Int32.ofInt_mul]; exact congrArg Int32.ofInt (by omega)) | (simp only [z_nat, z_lit, ← Int32.ofInt_add, ← Int32.ofInt_sub, ← Int32.ofInt_mul]; done) | exact congrArg Int32.ofInt (by omega) | rfl), by (dsimp only; omega), rfl, ?_⟩
  refine ⟨_, c7, ?_⟩
  refine ⟨nI (t 5 0 + 1), by (first | assumption | (simp only [z_nat, z_lit, ← Int32.ofInt_add, ← Int32.ofInt_sub, ← Int32.ofInt_mul]; exact congrArg Int32.ofInt (by omega)) | (simp only [z_nat, z_lit, ← Int32.ofInt_add, ← Int32.ofInt_sub, ← Int32.ofInt_mul]; done) | exact congrArg Int32.ofInt (by omega) | rfl), ?_⟩
  have hf8 : q_fs [29] [(24, 5)] M7 (q_si (q_si M7 29 (t 5 0) (nI b)) 24 5 (nI (t 5 0 + 1))) := q_fs.rf.s1.s1
  have ff : q_fs [27, 28, 29] [(24, 5), (3, 3), (3, 4), (3, 5), (3, 6), (3, 7), (3, 8), (3, 9), (3, 10)] M (q_si (q_si M7 29 (t 5 0) (nI b)) 24 5 (nI (t 5 0 + 1))) := f7.mono.tr hf8.mono
  obtain ⟨⟨d1, d2, d3⟩, d4, d5, ⟨d6, d7⟩, d8⟩ := div_t (t := t) (x := x) (len := len) (i := i + 1) (a := v) (b := b) d10
  have n57 := tkN_5 (t := t) (x := x) (len := len) d6 d7
  have r27 : ∀ q, M7.2 27 q = (q_sl M 27 (t 5 0) (Int64.ofInt (w5E x (tkS x len (i + 1)) ((tkR x len (tkS x len (i + 1)) - tkS x len (i + 1))) : Nat))).2 27 q := fun q => (hf7.p2 27 q).trans ((hf6.p2 27 q).trans ((hf5.p2 27 q).trans ((hf4.p2 27 q).trans ((hf3.p2 27 q).trans (hf2.p2 27 q)))))
  have r28 : ∀ q, M7.1 28 q = (q_si M4 28 (t 5 0) (nI v)).1 28 q := fun q => (hf7.p1 28 q).trans (hf6.p1 28 q)
  refine ⟨z_1, h1 _ _ _ ep (f7.mono.tr hf8.mono) (g7.2.fs hf8) (h.dive d1 ?_ ⟨?_, ?_⟩ (fun j hj => ⟨⟨?_, ?_⟩, d4 j hj⟩) d5 d10 l6 ?_ (fun j hj => ?_) d8 ff)⟩
  · rw [d1]
    exact q_si_s
  · rw [d2]
    exact (q_si_nn (by omega)).trans ((q_si_nn (by omega)).trans ((r28 _).trans q_si_s))
  · rw [d3]
    exact (q_si_nn (by omega)).trans q_si_s
  · exact (q_si_nn (by omega)).trans ((q_si_nn (by omega)).trans ((r28 _).trans ((q_si_n (by omega)).trans (f4.p1 28 j))))
  · exact (q_si_nn (by omega)).trans ((q_si_n (by omega)).trans (f7.p1 29 j))
  · rw [n57.1]
    exact (hf8.p2 27 _).trans ((r27 _).trans q_sl_s)
  · exact (hf8.p2 27 _).trans ((r27 _).trans (q_sl_n (by omega)))
set_option maxRecDepth 100000 in
set_option maxHeartbeats 4000000 in
theorem k2_readEntrant {i p : Nat} {a : Int32} (hp : p ≤ 1) (g : g_ct M x len tok T (i + 1)) (h : dC M t) (bt : b_T t) (bn : bNm t) (e6 : t 8 0 < 6) (h1 : ∀ t' j M', entP p t x len tok i = .inr (t', j) → q_fs lDr fTk M M' → g_ct M' x len tok T j → dC M' t' → Q (some (.int 1)) M') (h0 : ∀ k j M', entP p t x len tok i = .inl (k, j) → q_fs lDr fTk M M' → g_cf M' x len k j → Q (some (.int 0)) M') (ha : a = nI p := by (first | assumption | (simp only [z_nat, z_lit, ← Int32.ofInt_add, ← Int32.ofInt_sub, ← Int32.ofInt_mul]; exact congrArg Int32.ofInt (by omega)) | (simp only [z_nat, z_lit, ← Int32.ofInt_add, ← Int32.ofInt_sub, ← Int32.ofInt_mul]; done) | exact congrArg Int32.ofInt (by omega) | rfl)) : q_C q_mt (L, xs, q_shp) E nX3_readEntrant (d + 4) 0 0 [.ref 42, .int (a)] M Q := by
  subst ha
  have l6 := bt.2.2.2.2.2.2.1
  have d10 := bt.2.2.2.1
  have c0 : M.1 24 9 = nI (t 8 0) := h.1.2.2.2.2.1
  refine w_in 90 [] ?_
  refine k2_takeNewName g h bt bn (fun nn z => bn_t (by decide) ?_) (fun k M1 nk hf1 g1 => bn_f rfl ⟨z_0, h0 k _ M1 (bd_no nk) hf1.mono g1⟩)
  have ep : entP p t x len tok i = bd (wrdP tok (i + 1 + 1) 3) (fun _ j => bd (numP tok j 0 7) (fun a j => .inr (entT t x len (i + 1) p a, j))) := bd_ok nn
  have e35 := g.k.nm z
  refine ⟨_, c0, ?_⟩
  refine ⟨_, e35, ?_⟩
  refine ⟨t 8 0, _, by (first | assumption | (simp only [z_nat, z_lit, ← Int32.ofInt_add, ← Int32.ofInt_sub, ← Int32.ofInt_mul]; exact congrArg Int32.ofInt (by omega)) | (simp only [z_nat, z_lit, ← Int32.ofInt_add, ← Int32.ofInt_sub, ← Int32.ofInt_mul]; done) | exact congrArg Int32.ofInt (by omega) | rfl), by (dsimp only; omega), rfl, ?_⟩
  have hf1 : q_fs [30] [] M (q_sl M 30 (t 8 0) (Int64.ofInt (w5E x (tkS x len (i + 1)) ((tkR x len (tkS x len (i + 1)) - tkS x len (i + 1))) : Nat))) := q_fs.rf.s2
  refine k2_adv (g.fs hf1) (by omega) (fun M2 hf2 g2 => ?_)
  have f2 : q_fs [30] fTk M M2 := hf1.mono.tr hf2.mono
  refine k2_takeWord g2.2 3 (by omega) (fun e M3 hf3 g3 => br_f (by decide) ?_) (fun e M3 hf3 g3 => br_t (by decide) ⟨z_0, h0 1 _ M3 (by rw [ep]; exact bd_no (wrd_no e)) (f2.mono.tr hf3.mono) g3⟩)
  have ep : entP p t x len tok i = bd (numP tok (i + 1 + 1 + 1) 0 7) (fun a j => .inr (entT t x len (i + 1) p a, j)) := ep.trans (bd_ok (wrd_ok e))
  refine k2_takeNumber g3.2 0 7 (by omega) (by omega) (fun v nv ev hv M4 hf4 g4 => bn_t (by decide) ?_) (fun k nk hk M4 hf4 g4 => bn_f rfl ⟨z_0, h0 k _ M4 (by rw [ep]; exact bd_no nk) ((f2.mono.tr hf3.mono).tr hf4.mono) g4⟩)
  have ep : entP p t x len tok i = .inr (entT t x len (i + 1) p v, i + 1 + 1 + 1 + 1) := ep.trans (bd_ok nv)
  have f4 : q_fs [30] fTk M M4 := (f2.tr hf3.mono).tr hf4.mono
  have c4 : M4.1 24 9 = nI (t 8 0) := (f4.p1 24 9).trans c0
  refine ⟨_, c4, ?_⟩
  refine ⟨t 8 0, _, by (first | assumption | (simp only [z_nat, z_lit, ← Int32.ofInt_add, ← Int32.ofInt_sub, ← Int32.ofInt_mul]; exact congrArg Int32.ofInt (by omega)) | (simp only [z_nat, z_lit, ← Int32.ofInt_add, ← Int32.ofInt_sub, ← Int32.ofInt_mul]; done) | exact congrArg Int32.ofInt (by omega) | rfl), by (dsimp only; omega), rfl, ?_⟩
  refine ⟨_, c4, ?_⟩
  refine ⟨_, g4.1, ?_⟩
  refine ⟨t 8 0, _, by (first | assumption | (simp only [z_nat, z_lit, ← Int32.ofInt_add, ← Int32.ofInt_sub, ← Int32.ofInt_mul]; exact congrArg Int32.ofInt (by omega)) | (simp only [z_nat, z_lit, ← Int32.ofInt_add, ← Int32.ofInt_sub, ← Int32.ofInt_mul]; done) | exact congrArg Int32.ofInt (by omega) | rfl), by (dsimp only; omega), rfl, ?_⟩
  refine ⟨_, c4, ?_⟩
  refine ⟨nI (t 8 0 + 1), by (first | assumption | (simp only [z_nat, z_lit, ← Int32.ofInt_add, ← Int32.ofInt_sub, ← Int32.ofInt_mul]; exact congrArg Int32.ofInt (by omega)) | (simp only [z_nat, z_lit, ← Int32.ofInt_add, ← Int32.ofInt_sub, ← Int32.ofInt_mul]; done) | exact congrArg Int32.ofInt (by omega) | rfl), ?_⟩
  have hf8 : q_fs [31, 32] [(24, 9)] M4 (q_si (q_si (q_si M4 31 (t 8 0) (nI p)) 32 (t 8 0) (nI v)) 24 9 (nI (t 8 0 + 1))) := q_fs.rf.s1.s1.s1
  have ff : q_fs [30, 31, 32] [(24, 9), (3, 3), (3, 4), (3, 5), (3, 6), (3, 7), (3, 8), (3, 9), (3, 10)] M (q_si (q_si (q_si M4 31 (t 8 0) (nI p)) 32 (t 8 0) (nI v)) 24 9 (nI (t 8 0 + 1))) := f4.mono.tr hf8.mono
  obtain ⟨⟨d1, d2, d3⟩, d4, d5, ⟨d6, d7⟩, d8⟩ := ent_t (t := t) (x := x) (len := len) (i := i + 1) (p := p) (a := v) e6
  have n57 := tkN_5 (t := t) (x := x) (len := len) d6 d7
  have r27 : ∀ q, M4.2 30 q = (q_sl M 30 (t 8 0) (Int64.ofInt (w5E x (tkS x len (i + 1)) ((tkR x len (tkS x len (i + 1)) - tkS x len (i + 1))) : Nat))).2 30 q := fun q => (hf4.p2 30 q).trans ((hf3.p2 30 q).trans (hf2.p2 30 q))
  refine ⟨z_1, h1 _ _ _ ep (f4.mono.tr hf8.mono) (g4.2.fs hf8) (h.entr d1 ?_ ⟨?_, ?_⟩ (fun j hj => ⟨⟨?_, ?_⟩, d4 j hj⟩) d5 d10 l6 e6 ?_ (fun j hj => ?_) d8 ff)⟩
  · rw [d1]
    exact q_si_s
  · rw [d2]
    exact (q_si_nn (by omega)).trans ((q_si_nn (by omega)).trans q_si_s)
  · rw [d3]
    exact (q_si_nn (by omega)).trans q_si_s
  · exact (q_si_nn (by omega)).trans ((q_si_nn (by omega)).trans ((q_si_n (by omega)).trans (f4.p1 31 j)))
  · exact (q_si_nn (by omega)).trans ((q_si_n (by omega)).trans ((q_si_nn (by omega)).trans (f4.p1 32 j)))
  · rw [n57.1]
    exact (hf8.p2 30 _).trans ((r27 _).trans q_sl_s)
  · exact (hf8.p2 30 _).trans ((r27 _).trans (q_sl_n (by omega)))
set_option maxRecDepth 100000 in
set_option maxHeartbeats 4000000 in
theorem k_readsDive {i : Nat} (g : g_rt M x len tok T i) (nf : ¬ (tok i).1 = 0) (h : dR M t) (bt : b_T t) (bn : bNm t) (c255 : ∀ l, l < t 17 0 → t 18 l ≤ 255) (h1 : t 5 0 < 10 → ∀ t' j M', diveP t x len tok i = .inr (t', j) → q_fs lDq fDq M M' → g_rt M' x len tok T j → dR M' t' → M'.1 279 7 = M.1 279 7 → Q none M') (h0 : ∀ k j M', (t 5 0 < 10 → diveP t x len tok i = .inl (k, j)) → (t 5 0 = 10 → k = 4 ∧ j = i) → q_fs lDq fDq M M' → g_rb M' x len tok T k j → M'.1 279 7 = M.1 279 7 → Q none M') : q_C q_mt (L, xs, q_shp) E nX12_readsDive (d + 4) 0 0 [.ref 271] M Q := by
  have i12 := g.i12
  have b5 := bt.2.2.2.1
  refine w_in 90 [] ?_
  refine k_oneMore (q := 3) (n := t 5 0) (mx := 10) g nf (by omega) h.1.2.2.2.1 (by omega) (fun z g1 => ?_) (fun z M1 hf1 g1 => ?_)
  rotate_left 1
  · refine k_newName0 g1 ?_
    refine k_mustWord0 g1 (fun M2 hf2 g2 => ?_)
    refine k_numberHere0 g2 ?_
    refine k_mustWord0 g2 (fun M3 hf3 g3 => ?_)
    refine k_numberHere0 g3 ?_
    exact k_isFine0 g3.2.2.2.1 g3.2.1 (bn_f rfl (h0 4 i M3 (fun y => by omega) (fun _ => ⟨rfl, rfl⟩) ((hf1.mono.tr hf2.mono).tr hf3.mono) g3 ((hf3.p1 279 7).trans ((hf2.p1 279 7).trans (hf1.p1 279 7)))))
  have d10 : t 5 0 < 10 := by omega
  have n3 : ∀ {A : Prop}, t 5 0 = 10 → A := fun y => absurd y z
  have hf1 : q_fs [] [(271, 8)] M (q_si M 271 8 (nI (i + 1))) := q_fs.rf.s1
  have dr1 : dR (q_si M 271 8 (nI (i + 1))) t := h.eq (hf1.c1 279) (hf1.c2 281)
  refine k_newName g1 dr1 bt bn (p := t 5 0) (by omega) (fun nn z2 g2 => ?_) (fun k M2 nk hf2 g2 => ?_)
  rotate_left 1
  · refine k_mustWord0 g2 (fun M3 hf3 g3 => ?_)
    refine k_numberHere0 g3 ?_
    refine k_mustWord0 g3 (fun M4 hf4 g4 => ?_)
    refine k_numberHere0 g4 ?_
    exact k_isFine0 g4.2.2.2.1 g4.2.1 (bn_f rfl (h0 k _ M4 (fun _ => bd_no nk) n3 (((hf1.mono.tr hf2.mono).tr hf3.mono).tr hf4.mono) g4 ((hf4.p1 279 7).trans ((hf3.p1 279 7).trans ((hf2.p1 279 7).trans (hf1.p1 279 7))))))
  have ep : diveP t x len tok i = bd (wrdP tok (i + 1 + 1) 8) (fun _ j => bd (numP tok j 1 6) (fun a j => bd (wrdP tok j 9) (fun _ j => bd (numP tok j 10 60) (fun b j => .inr (divT t x len (i + 1) a b, j))))) := bd_ok nn
  have hf2 : q_fs [281] [(271, 8)] M (q_si (q_sl (q_si M 271 8 (nI (i + 1))) 281 (t 5 0) (Int64.ofInt (w8E x (tkS x len (i + 1)) ((tkR x len (tkS x len (i + 1)) - tkS x len (i + 1))) : Nat))) 271 8 (nI (i + 1 + 1))) := q_fs.rf.s1.s2.s1
  have r81 : ∀ q, (q_si (q_sl (q_si M 271 8 (nI (i + 1))) 281 (t 5 0) (Int64.ofInt (w8E x (tkS x len (i + 1)) ((tkR x len (tkS x len (i + 1)) - tkS x len (i + 1))) : Nat))) 271 8 (nI (i + 1 + 1))).2 281 q = (q_sl M 281 (t 5 0) (Int64.ofInt (w8E x (tkS x len (i + 1)) ((tkR x len (tkS x len (i + 1)) - tkS x len (i + 1))) : Nat))).2 281 q := fun _ => rfl
  revert g2 hf2 r81
  generalize q_si (q_sl (q_si M 271 8 (nI (i + 1))) 281 (t 5 0) (Int64.ofInt (w8E x (tkS x len (i + 1)) ((tkR x len (tkS x len (i + 1)) - tkS x len (i + 1))) : Nat))) 271 8 (nI (i + 1 + 1)) = M2
  intro g2 hf2 r81
  refine k_mustWord g2 8 (by omega) (by decide +kernel) (fun e M3 hf3 g3 => ?_) (fun e M3 hf3 g3 => ?_)
  rotate_left 1
  · refine k_numberHere0 g3 ?_
    refine k_mustWord0 g3 (fun M4 hf4 g4 => ?_)
    refine k_numberHere0 g4 ?_
    exact k_isFine0 g4.2.2.2.1 g4.2.1 (bn_f rfl (h0 1 _ M4 (fun _ => ep.trans (bd_no (wrd_no e))) n3 ((hf2.mono.tr hf3.mono).tr hf4.mono) g4 ((hf4.p1 279 7).trans ((hf3.p1 279 7).trans (hf2.p1 279 7)))))
  have ep : diveP t x len tok i = bd (numP tok (i + 1 + 1 + 1) 1 6) (fun a j => bd (wrdP tok j 9) (fun _ j => bd (numP tok j 10 60) (fun b j => .inr (divT t x len (i + 1) a b, j)))) := ep.trans (bd_ok (wrd_ok e))
  refine k_numberHere g3 1 6 (by omega) (by omega) (fun v nv ev hv M4 hf4 g4 => ?_) (fun k nk hk M4 hf4 g4 => ?_)
  rotate_left 1
  · refine k_mustWord0 g4 (fun M5 hf5 g5 => ?_)
    refine k_numberHere0 g5 ?_
    exact k_isFine0 g5.2.2.2.1 g5.2.1 (bn_f rfl (h0 k _ M5 (fun _ => ep.trans (bd_no nk)) n3 (((hf2.mono.tr hf3.mono).tr hf4.mono).tr hf5.mono) g5 ((hf5.p1 279 7).trans ((hf4.p1 279 7).trans ((hf3.p1 279 7).trans (hf2.p1 279 7))))))
  have ep : diveP t x len tok i = bd (wrdP tok (i + 1 + 1 + 1 + 1) 9) (fun _ j => bd (numP tok j 10 60) (fun b j => .inr (divT t x len (i + 1) v b, j))) := ep.trans (bd_ok nv)
  refine k_mustWord g4 9 (by omega) (by decide +kernel) (fun e' M5 hf5 g5 => ?_) (fun e' M5 hf5 g5 => ?_)
  rotate_left 1
  · refine k_numberHere0 g5 ?_
    exact k_isFine0 g5.2.2.2.1 g5.2.1 (bn_f rfl (h0 1 _ M5 (fun _ => ep.trans (bd_no (wrd_no e'))) n3 (((hf2.mono.tr hf3.mono).tr hf4.mono).tr hf5.mono) g5 ((hf5.p1 279 7).trans ((hf4.p1 279 7).trans ((hf3.p1 279 7).trans (hf2.p1 279 7))))))
  have ep : diveP t x len tok i = bd (numP tok (i + 1 + 1 + 1 + 1 + 1) 10 60) (fun b j => .inr (divT t x len (i + 1) v b, j)) := ep.trans (bd_ok (wrd_ok e'))
  refine k_numberHere g5 10 60 (by omega) (by omega) (fun b nb eb hb M6 hf6 g6 => ?_) (fun k nk hk M6 hf6 g6 => ?_)
  rotate_left 1
  · exact k_isFine0 g6.2.2.2.1 g6.2.1 (bn_f rfl (h0 k _ M6 (fun _ => ep.trans (bd_no nk)) n3 ((((hf2.mono.tr hf3.mono).tr hf4.mono).tr hf5.mono).tr hf6.mono) g6 ((hf6.p1 279 7).trans ((hf5.p1 279 7).trans ((hf4.p1 279 7).trans ((hf3.p1 279 7).trans (hf2.p1 279 7)))))))
  have ep : diveP t x len tok i = .inr (divT t x len (i + 1) v b, i + 1 + 1 + 1 + 1 + 1 + 1) := ep.trans (bd_ok nb)
  have f6 : q_fs [281] fHr M M6 := (((hf2.mono.tr hf3.mono).tr hf4.mono).tr hf5.mono).tr hf6.mono
  have m81 : ∀ q, M6.2 281 q = (q_sl M 281 (t 5 0) (Int64.ofInt (w8E x (tkS x len (i + 1)) ((tkR x len (tkS x len (i + 1)) - tkS x len (i + 1))) : Nat))).2 281 q := fun q => (hf6.p2 281 q).trans ((hf5.p2 281 q).trans ((hf4.p2 281 q).trans ((hf3.p2 281 q).trans (r81 q))))
  have c3 : M6.1 279 3 = nI (t 5 0) := (f6.p1 279 3).trans h.1.2.2.2.1
  refine k_isFine1 g6.2.2.2.1 (bn_t (by decide) ?_)
  refine ⟨30 + 2 * t 5 0, _, by (first | assumption | (simp only [z_nat, z_lit, ← Int32.ofInt_add, ← Int32.ofInt_sub, ← Int32.ofInt_mul]; exact congrArg Int32.ofInt (by omega)) | (simp only [z_nat, z_lit, ← Int32.ofInt_add, ← Int32.ofInt_sub, ← Int32.ofInt_mul]; done) | exact congrArg Int32.ofInt (by omega) | rfl), by (dsimp only; omega), rfl, ?_⟩
  refine ⟨31 + 2 * t 5 0, _, by (first | assumption | (simp only [z_nat, z_lit, ← Int32.ofInt_add, ← Int32.ofInt_sub, ← Int32.ofInt_mul]; exact congrArg Int32.ofInt (by omega)) | (simp only [z_nat, z_lit, ← Int32.ofInt_add, ← Int32.ofInt_sub, ← Int32.ofInt_mul]; done) | exact congrArg Int32.ofInt (by omega) | rfl), by (dsimp only; omega), rfl, ?_⟩
  have c3' : (q_si (q_si M6 279 (30 + 2 * t 5 0) (nI v)) 279 (31 + 2 * t 5 0) (nI b)).1 279 3 = nI (t 5 0) := (q_si_n (by omega)).trans ((q_si_n (by omega)).trans c3)
  refine ⟨3, _, by (first | assumption | (simp only [z_nat, z_lit, ← Int32.ofInt_add, ← Int32.ofInt_sub, ← Int32.ofInt_mul]; exact congrArg Int32.ofInt (by omega)) | (simp only [z_nat, z_lit, ← Int32.ofInt_add, ← Int32.ofInt_sub, ← Int32.ofInt_mul]; done) | exact congrArg Int32.ofInt (by omega) | rfl), by (dsimp only; omega), c3', ?_⟩
  refine ⟨3, nI (t 5 0 + 1), by (first | assumption | (simp only [z_nat, z_lit, ← Int32.ofInt_add, ← Int32.ofInt_sub, ← Int32.ofInt_mul]; exact congrArg Int32.ofInt (by omega)) | (simp only [z_nat, z_lit, ← Int32.ofInt_add, ← Int32.ofInt_sub, ← Int32.ofInt_mul]; done) | exact congrArg Int32.ofInt (by omega) | rfl), by (dsimp only; omega), by (first | assumption | (simp only [z_nat, z_lit, ← Int32.ofInt_add, ← Int32.ofInt_sub, ← Int32.ofInt_mul]; exact congrArg Int32.ofInt (by omega)) | (simp only [z_nat, z_lit, ← Int32.ofInt_add, ← Int32.ofInt_sub, ← Int32.ofInt_mul]; done) | exact congrArg Int32.ofInt (by omega) | rfl), ?_⟩
  have hf7 : q_fs [279] [] M6 (q_si (q_si (q_si M6 279 (30 + 2 * t 5 0) (nI v)) 279 (31 + 2 * t 5 0) (nI b)) 279 3 (nI (t 5 0 + 1))) := q_fs.rf.s1.s1.s1
  obtain ⟨⟨d1, d2, d3⟩, d4, d5, ⟨d6, d7⟩, d8⟩ := div_t (t := t) (x := x) (len := len) (i := i + 1) (a := v) (b := b) d10
  have n57 := tkN_5 (t := t) (x := x) (len := len) d6 d7
  refine h1 d10 _ _ _ ep (f6.mono.tr hf7.mono) (g6.fs hf7) (h.dive bt c255 d1 ?_ ⟨?_, ?_⟩ d4 d10 d5 ?_ d8 (fun q hq => ?_) (fun q hq => ?_)) ?_
  · rw [d1]
    exact q_si_s
  · rw [d2]
    exact (q_si_n (by omega)).trans ((q_si_n (by omega)).trans q_si_s)
  · rw [d3]
    exact (q_si_n (by omega)).trans q_si_s
  · rw [n57.2]
    exact (hf7.p2 281 _).trans ((m81 _).trans q_sl_s)
  · exact (q_si_n (by omega)).trans ((q_si_n (by omega)).trans ((q_si_n (by omega)).trans (f6.p1 279 q)))
  · exact (hf7.p2 281 _).trans ((m81 _).trans (q_sl_n hq))
  · exact (q_si_n (by omega)).trans ((q_si_n (by omega)).trans ((q_si_n (by omega)).trans (f6.p1 279 7)))
end DV
