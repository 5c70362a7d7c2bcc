/-! STATEMENTS without names: rounds, judge, cut -/
def upT (t : q_T) (k i v : Nat) : q_T := fun a b => if a = k ∧ b = i then v else t a b
theorem upT_s {t : q_T} {k i v : Nat} : upT t k i v k i = v := if_pos ⟨rfl, rfl⟩
theorem upT_n {t : q_T} {k i v a b : Nat} (h : ¬ (a = k ∧ b = i)) : upT t k i v a b = t a b := if_neg h
theorem upT_r {t : q_T} {k i v a : Nat} (h : ¬ a = k) : upT t k i v a = t a := funext fun b => if_neg (fun z => h z.1)
def wrdP (tok : Nat → Tok) (i w : Nat) : Rs Unit := if tok i = (1, w) then .inr ((), i + 1) else .inl (1, i)
def roundsP (tok : Nat → Tok) (t : q_T) (i : Nat) : Rs q_T := bd (numP tok (i + 1) 1 6) (fun a j => bd (wrdP tok j 1) (fun _ j => bd (numP tok j 0 3) (fun b j => .inr (upT (upT t 0 0 a) 1 0 b, j))))
def srt (p : Tok) : Nat := if p = (1, 4) then 1 else if p = (1, 5) then 2 else if p = (1, 6) then 3 else 0
def judT (t : q_T) (a s : Nat) : q_T := upT (upT (upT t 3 (t 2 0) a) 4 (t 2 0) s) 2 0 (t 2 0 + 1)
def judgeP (tok : Nat → Tok) (t : q_T) (i : Nat) : Rs q_T := bd (wrdP tok (i + 1) 3) (fun _ j => bd (numP tok j 0 7) (fun a j => .inr (judT t a (srt (tok j)), j + (if srt (tok j) = 0 then 0 else 1))))
def cutT (t : q_T) (a b n : Nat) : q_T := upT (upT (upT (upT t 14 (t 13 0) a) 15 (t 13 0) b) 16 (t 13 0) n) 13 0 (t 13 0 + 1)
def lstC (t : q_T) : Int := if t 13 0 = 0 then 1 else (t 14 (t 13 0 - 1) : Int) + 1
def cutP (tok : Nat → Tok) (t : q_T) (i : Nat) : Rs q_T := bd (numP tok (i + 1) (lstC t) ((t 0 0 : Int) - 1)) (fun a j => bd (wrdP tok j 16) (fun _ j => bd (numP tok j 1 5) (fun b j => .inr (cutT t a b (if tok j = (1, 17) then 1 else 0), j + (if tok j = (1, 17) then 1 else 0)))))
section ST
variable {L : Nat} {xs : Nat → Int32} {E : q_E} {d : Nat} {M : q_M} {t : q_T} {n : sN} {Q : Option Value → q_M → Prop} {P : q_M → Prop}
variable {x : Nat → Nat} {len : Nat} {tok : Nat → Tok} {T : Nat}
abbrev lDq : List Nat := [279, 281, 283]
abbrev fDq : List (Nat × Nat) := [(271, 8), (271, 9), (271, 10), (271, 19), (271, 20), (271, 21), (271, 22)]
theorem wrd_ok {i w : Nat} (e : tok i = (1, w)) : wrdP tok i w = .inr ((), i + 1) := if_pos e
theorem wrd_no {i w : Nat} (e : ¬ tok i = (1, w)) : wrdP tok i w = .inl (1, i) := if_neg e
set_option maxRecDepth 100000 in
set_option maxHeartbeats 4000000 in
theorem k2_readRounds {i : Nat} (g : g_ct M x len tok T (i + 1)) (h : dC M t) (h1 : ∀ t' j M', roundsP tok t i = .inr (t', j) → q_fs lDr fTk M M' → g_ct M' x len tok T j → dC M' t' → Q (some (.int 1)) M') (h0 : ∀ k j M', roundsP tok t i = .inl (k, j) → q_fs lDr fTk M M' → g_cf M' x len k j → Q (some (.int 0)) M') : q_C q_mt (L, xs, q_shp) E nX3_readRounds (d + 3) 0 0 [.ref 42] M Q := by
  refine w_in 90 [] ?_
  refine k2_takeNumber g 1 6 (by omega) (by omega) (fun v nv ev hv M1 hf1 g1 => bn_t (by decide) ?_) (fun k nk hk M1 hf1 g1 => bn_f rfl ⟨z_0, h0 k _ M1 (bd_no nk) hf1.mono g1⟩)
  have ep : roundsP tok t i = bd (wrdP tok (i + 1 + 1) 1) (fun _ j => bd (numP tok j 0 3) (fun b j => .inr (upT (upT t 0 0 v) 1 0 b, j))) := bd_ok nv
  refine ⟨_, g1.1, ?_⟩
  refine ⟨_, rfl, ?_⟩
  have hf2 : q_fs [] [(24, 0)] M1 (q_si M1 24 0 (nI v)) := q_fs.rf.s1
  have f2 : q_fs lDr fTk M (q_si M1 24 0 (nI v)) := hf1.mono.tr hf2.mono
  refine k2_takeWord (g1.2.fs hf2) 1 (by omega) (fun e M3 hf3 g3 => br_f (by decide) ?_) (fun e M3 hf3 g3 => br_t (by decide) ⟨z_0, h0 1 _ M3 (by rw [ep]; exact bd_no (wrd_no e)) (f2.tr hf3.mono) g3⟩)
  have ep : roundsP tok t i = bd (numP tok (i + 1 + 1 + 1) 0 3) (fun b j => .inr (upT (upT t 0 0 v) 1 0 b, j)) := ep.trans (bd_ok (wrd_ok e))
  refine k2_takeNumber g3.2 0 3 (by omega) (by omega) (fun b nb eb hb M4 hf4 g4 => bn_t (by decide) ?_) (fun k nk hk M4 hf4 g4 => bn_f rfl ⟨z_0, h0 k _ M4 (by rw [ep]; exact bd_no nk) ((f2.tr hf3.mono).tr hf4.mono) g4⟩)
  refine ⟨_, g4.1, ?_⟩
  refine ⟨_, rfl, ?_⟩
  have hf5 : q_fs [] [(24, 1)] M4 (q_si M4 24 1 (nI b)) := q_fs.rf.s1
  have ff : q_fs [] [(24, 0), (24, 1), (3, 3), (3, 4), (3, 5), (3, 6), (3, 7), (3, 8), (3, 9), (3, 10)] M (q_si M4 24 1 (nI b)) := (((hf1.mono.tr hf2.mono).tr hf3.mono).tr hf4.mono).tr hf5.mono
  refine ⟨z_1, h1 _ _ _ (ep.trans (bd_ok nb)) (((f2.tr hf3.mono).tr hf4.mono).tr hf5.mono) (g4.2.fs hf5) (h.rounds ?_ ?_ (fun k hk => ?_) ff)⟩
  · rw [upT_n (by omega), upT_s]
    exact (q_si_n (by decide)).trans ((hf4.p1 24 0).trans ((hf3.p1 24 0).trans q_si_s))
  · rw [upT_s]
    exact q_si_s
  · rw [upT_r (by omega), upT_r (by omega)]
set_option maxRecDepth 100000 in
set_option maxHeartbeats 4000000 in
theorem k_readsRounds {i : Nat} (g : g_rt M x len tok T i) (e0 : tok i = (1, 0)) (h : dR M t) (bt : b_T t) (c255 : ∀ l, l < t 17 0 → t 18 l ≤ 255) (hz : t 8 0 = 0) (h1 : ∀ t' j M', roundsP tok t i = .inr (t', j) → q_fs lDq fDq M M' → g_rt M' x len tok T j → dR M' t' → M'.1 279 7 = M.1 279 7 → Q none M') (h0 : ∀ k j M', roundsP tok t i = .inl (k, j) → q_fs lDq fDq M M' → g_rb M' x len tok T k j → M'.1 279 7 = M.1 279 7 → Q none M') : q_C q_mt (L, xs, q_shp) E nX12_readsRounds (d + 4) 0 0 [.ref 271] M Q := by
  have i12 := g.i12
  have g1 : g_rt (q_si M 271 8 (nI (i + 1))) x len tok T (i + 1) := g.nx (tk_n0 e0 (by decide)) rfl
  refine w_in 90 [] ?_
  refine ⟨_, g.2.2.1, ?_⟩
  refine ⟨nI (i + 1), by (first | assumption | (simp only [z_nat, z_lit, ← Int32.ofInt_add, ← Int32.ofInt_sub, ← Int32.ofInt_mul]; exact congrArg Int32.ofInt (by omega)) | (simp only [z_nat, z_lit, ← Int32.ofInt_add, ← Int32.ofInt_sub, ← Int32.ofInt_mul]; done) | exact congrArg Int32.ofInt (by omega) | rfl), ?_⟩
  have hf1 : q_fs [] [(271, 8)] M (q_si M 271 8 (nI (i + 1))) := q_fs.rf.s1
  refine k_numberHere g1 1 6 (by omega) (by omega) (fun v nv ev hv M2 hf2 g2 => ?_) (fun k nk hk M2 hf2 g2 => ?_)
  · have ep : roundsP tok t i = bd (wrdP tok (i + 1 + 1) 1) (fun _ j => bd (numP tok j 0 3) (fun b j => .inr (upT (upT t 0 0 v) 1 0 b, j))) := bd_ok nv
    refine ⟨0, _, by (first | assumption | (simp only [z_nat, z_lit, ← Int32.ofInt_add, ← Int32.ofInt_sub, ← Int32.ofInt_mul]; exact congrArg Int32.ofInt (by omega)) | (simp only [z_nat, z_lit, ← Int32.ofInt_add, ← Int32.ofInt_sub, ← Int32.ofInt_mul]; done) | exact congrArg Int32.ofInt (by omega) | rfl), by (dsimp only; omega), rfl, ?_⟩
    have hf3 : q_fs [279] [] M2 (q_si M2 279 0 (nI v)) := q_fs.rf.s1
    refine k_mustWord (g2.fs hf3) 1 (by omega) (by decide +kernel) (fun e M4 hf4 g4 => ?_) (fun e M4 hf4 g4 => ?_)
    · have ep : roundsP tok t i = bd (numP tok (i + 1 + 1 + 1) 0 3) (fun b j => .inr (upT (upT t 0 0 v) 1 0 b, j)) := ep.trans (bd_ok (wrd_ok e))
      refine k_numberHere g4 0 3 (by omega) (by omega) (fun b nb eb hb M5 hf5 g5 => ?_) (fun k nk hk M5 hf5 g5 => ?_)
      · refine ⟨1, _, by (first | assumption | (simp only [z_nat, z_lit, ← Int32.ofInt_add, ← Int32.ofInt_sub, ← Int32.ofInt_mul]; exact congrArg Int32.ofInt (by omega)) | (simp only [z_nat, z_lit, ← Int32.ofInt_add, ← Int32.ofInt_sub, ← Int32.ofInt_mul]; done) | exact congrArg Int32.ofInt (by omega) | rfl), by (dsimp only; omega), rfl, ?_⟩
        have hf6 : q_fs [279] [] M5 (q_si M5 279 1 (nI b)) := q_fs.rf.s1
        have ff : q_fs lDq fDq M (q_si M5 279 1 (nI b)) := (((((hf1.mono.tr hf2.mono).tr hf3.mono).tr hf4.mono).tr hf5.mono).tr hf6.mono)
        have e9 : ∀ q, M5.1 279 q = (q_si M2 279 0 (nI v)).1 279 q := fun q => (hf5.p1 279 q).trans (hf4.p1 279 q)
        have e2 : ∀ q, M2.1 279 q = M.1 279 q := fun q => (hf2.p1 279 q).trans (hf1.p1 279 q)
        refine h1 _ _ _ (ep.trans (bd_ok nb)) ff (g5.fs hf6) (h.rounds bt c255 ?_ ?_ hz (fun k hk => ?_) (fun q hq => ?_) (fun q _ => ?_)) ?_
        · rw [upT_n (by omega), upT_s]
          exact (q_si_n (by decide)).trans ((e9 0).trans q_si_s)
        · rw [upT_s]
          exact q_si_s
        · rw [upT_r (by omega), upT_r (by omega)]
        · exact (q_si_n (by omega)).trans ((e9 q).trans ((q_si_n (by omega)).trans (e2 q)))
        · exact (hf6.p2 281 q).trans ((hf5.p2 281 q).trans ((hf4.p2 281 q).trans ((hf3.p2 281 q).trans ((hf2.p2 281 q).trans (hf1.p2 281 q)))))
        · exact (q_si_n (by omega)).trans ((e9 7).trans ((q_si_n (by omega)).trans (e2 7)))
      · refine ⟨1, _, by (first | assumption | (simp only [z_nat, z_lit, ← Int32.ofInt_add, ← Int32.ofInt_sub, ← Int32.ofInt_mul]; exact congrArg Int32.ofInt (by omega)) | (simp only [z_nat, z_lit, ← Int32.ofInt_add, ← Int32.ofInt_sub, ← Int32.ofInt_mul]; done) | exact congrArg Int32.ofInt (by omega) | rfl), by (dsimp only; omega), rfl, ?_⟩
        have hf6 : q_fs [279] [] M5 (q_si M5 279 1 (Int32.ofInt 0)) := q_fs.rf.s1
        refine h0 k _ _ (by rw [ep]; exact bd_no nk) (((((hf1.mono.tr hf2.mono).tr hf3.mono).tr hf4.mono).tr hf5.mono).tr hf6.mono) (g5.fs hf6) ?_
        exact (q_si_n (by omega)).trans ((hf5.p1 279 7).trans ((hf4.p1 279 7).trans ((q_si_n (by omega)).trans ((hf2.p1 279 7).trans (hf1.p1 279 7)))))
    · refine k_numberHere0 g4 ?_
      refine ⟨1, _, by (first | assumption | (simp only [z_nat, z_lit, ← Int32.ofInt_add, ← Int32.ofInt_sub, ← Int32.ofInt_mul]; exact congrArg Int32.ofInt (by omega)) | (simp only [z_nat, z_lit, ← Int32.ofInt_add, ← Int32.ofInt_sub, ← Int32.ofInt_mul]; done) | exact congrArg Int32.ofInt (by omega) | rfl), by (dsimp only; omega), rfl, ?_⟩
      have hf6 : q_fs [279] [] M4 (q_si M4 279 1 (Int32.ofInt 0)) := q_fs.rf.s1
      refine h0 1 _ _ (by rw [ep]; exact bd_no (wrd_no e)) ((((hf1.mono.tr hf2.mono).tr hf3.mono).tr hf4.mono).tr hf6.mono) (g4.fs hf6) ?_
      exact (q_si_n (by omega)).trans ((hf4.p1 279 7).trans ((q_si_n (by omega)).trans ((hf2.p1 279 7).trans (hf1.p1 279 7))))
  · refine ⟨0, _, by (first | assumption | (simp only [z_nat, z_lit, ← Int32.ofInt_add, ← Int32.ofInt_sub, ← Int32.ofInt_mul]; exact congrArg Int32.ofInt (by omega)) | (simp only [z_nat, z_lit, ← Int32.ofInt_add, ← Int32.ofInt_sub, ← Int32.ofInt_mul]; done) | exact congrArg Int32.ofInt (by omega) | rfl), by (dsimp only; omega), rfl, ?_⟩
    have hf3 : q_fs [279] [] M2 (q_si M2 279 0 (Int32.ofInt 1)) := q_fs.rf.s1
    refine k_mustWord0 (g2.fs hf3) (fun M4 hf4 g4 => ?_)
    refine k_numberHere0 g4 ?_
    refine ⟨1, _, by (first | assumption | (simp only [z_nat, z_lit, ← Int32.ofInt_add, ← Int32.ofInt_sub, ← Int32.ofInt_mul]; exact congrArg Int32.ofInt (by omega)) | (simp only [z_nat, z_lit, ← Int32.ofInt_add, ← Int32.ofInt_sub, ← Int32.ofInt_mul]; done) | exact congrArg Int32.ofInt (by omega) | rfl), by (dsimp only; omega), rfl, ?_⟩
    have hf6 : q_fs [279] [] M4 (q_si M4 279 1 (Int32.ofInt 0)) := q_fs.rf.s1
    refine h0 k _ _ (bd_no nk) ((((hf1.mono.tr hf2.mono).tr hf3.mono).tr hf4.mono).tr hf6.mono) (g4.fs hf6) ?_
    exact (q_si_n (by omega)).trans ((hf4.p1 279 7).trans ((q_si_n (by omega)).trans ((hf2.p1 279 7).trans (hf1.p1 279 7))))
end ST
