/-! the STATEMENTS diver, pair (reference); form -/
section EN
variable {L : Nat} {xs : Nat → Int32} {E : q_E} {d : Nat} {M : q_M} {t : q_T} {n : sN} {Q : Option Value → q_M → Prop} {P : q_M → Prop}
variable {x : Nat → Nat} {len : Nat} {tok : Nat → Tok} {T : Nat}
set_option maxRecDepth 100000 in
set_option maxHeartbeats 4000000 in
theorem k_readsEntrant {i p : Nat} {a : Int32} (hp : p ≤ 1) (g : g_rt M x len tok T i) (nf : ¬ (tok i).1 = 0) (h : dR M t) (bt : b_T t) (bn : bNm t) (c255 : ∀ l, l < t 17 0 → t 18 l ≤ 255) (hemp : t 8 0 < 6 → t 11 (6 * t 8 0) = 0 ∧ ∀ g, g < 6 → t 12 (6 * t 8 0 + g) = 10) (h1 : t 8 0 < 6 → ∀ t' j M', entP p t x len tok i = .inr (t', j) → q_fs lDq fDq M M' → g_rt M' x len tok T j → dR M' t' → M'.1 279 7 = M.1 279 7 → Q none M') (h0 : ∀ k j M', (t 8 0 < 6 → entP p t x len tok i = .inl (k, j)) → (t 8 0 = 6 → k = 4 ∧ j = i) → q_fs lDq fDq M M' → g_rb M' x len tok T k j → M'.1 279 7 = M.1 279 7 → Q none M') (ha : a = nI p := by (first | assumption | (simp only [z_nat, z_lit, ← Int32.ofInt_add, ← Int32.ofInt_sub, ← Int32.ofInt_mul]; exact congrArg Int32.ofInt (by omega)) | (simp only [z_nat, z_lit, ← Int32.ofInt_add, ← Int32.ofInt_sub, ← Int32.ofInt_mul]; done) | exact congrArg Int32.ofInt (by omega) | rfl)) : q_C q_mt (L, xs, q_shp) E nX12_readsEntrant (d + 4) 0 0 [.ref 271, .int (a)] M Q := by
  subst ha
  have i12 := g.i12
  have b8 := bt.2.2.2.2.1
  refine w_in 90 [81] ?_
  refine k_oneMore (q := 4) (n := t 8 0) (mx := 6) g nf (by omega) h.1.2.2.2.2.1 (by omega) (fun z g1 => ?_) (fun z M1 hf1 g1 => ?_)
  rotate_left 1
  · refine k_newName0 g1 ?_
    refine k_mustWord0 g1 (fun M2 hf2 g2 => ?_)
    refine k_numberHere0 g2 ?_
    exact k_isFine0 g2.2.2.2.1 g2.2.1 (bn_f rfl (h0 4 i M2 (fun y => by omega) (fun _ => ⟨rfl, rfl⟩) (hf1.mono.tr hf2.mono) g2 ((hf2.p1 279 7).trans (hf1.p1 279 7))))
  have e6 : t 8 0 < 6 := by omega
  have n3 : ∀ {A : Prop}, t 8 0 = 6 → A := fun y => absurd y z
  have hf1 : q_fs [] [(271, 8)] M (q_si M 271 8 (nI (i + 1))) := q_fs.rf.s1
  have dr1 : dR (q_si M 271 8 (nI (i + 1))) t := h.eq (hf1.c1 279) (hf1.c2 281)
  refine k_newName g1 dr1 bt bn (p := 10 + t 8 0) (by omega) (fun nn z2 g2 => ?_) (fun k M2 nk hf2 g2 => ?_)
  rotate_left 1
  · refine k_mustWord0 g2 (fun M3 hf3 g3 => ?_)
    refine k_numberHere0 g3 ?_
    exact k_isFine0 g3.2.2.2.1 g3.2.1 (bn_f rfl (h0 k _ M3 (fun _ => bd_no nk) n3 ((hf1.mono.tr hf2.mono).tr hf3.mono) g3 ((hf3.p1 279 7).trans ((hf2.p1 279 7).trans (hf1.p1 279 7)))))
  have ep : entP p t x len tok i = bd (wrdP tok (i + 1 + 1) 3) (fun _ j => bd (numP tok j 0 7) (fun a j => .inr (entT t x len (i + 1) p a, j))) := bd_ok nn
  have hf2 : q_fs [281] [(271, 8)] M (q_si (q_sl (q_si M 271 8 (nI (i + 1))) 281 (10 + t 8 0) (Int64.ofInt (w8E x (tkS x len (i + 1)) ((tkR x len (tkS x len (i + 1)) - tkS x len (i + 1))) : Nat))) 271 8 (nI (i + 1 + 1))) := q_fs.rf.s1.s2.s1
  have r81 : ∀ q, (q_si (q_sl (q_si M 271 8 (nI (i + 1))) 281 (10 + t 8 0) (Int64.ofInt (w8E x (tkS x len (i + 1)) ((tkR x len (tkS x len (i + 1)) - tkS x len (i + 1))) : Nat))) 271 8 (nI (i + 1 + 1))).2 281 q = (q_sl M 281 (10 + t 8 0) (Int64.ofInt (w8E x (tkS x len (i + 1)) ((tkR x len (tkS x len (i + 1)) - tkS x len (i + 1))) : Nat))).2 281 q := fun _ => rfl
  revert g2 hf2 r81
  generalize q_si (q_sl (q_si M 271 8 (nI (i + 1))) 281 (10 + t 8 0) (Int64.ofInt (w8E x (tkS x len (i + 1)) ((tkR x len (tkS x len (i + 1)) - tkS x len (i + 1))) : Nat))) 271 8 (nI (i + 1 + 1)) = M2
  intro g2 hf2 r81
  refine k_mustWord g2 3 (by omega) (by decide +kernel) (fun e M3 hf3 g3 => ?_) (fun e M3 hf3 g3 => ?_)
  rotate_left 1
  · refine k_numberHere0 g3 ?_
    exact k_isFine0 g3.2.2.2.1 g3.2.1 (bn_f rfl (h0 1 _ M3 (fun _ => ep.trans (bd_no (wrd_no e))) n3 (hf2.mono.tr hf3.mono) g3 ((hf3.p1 279 7).trans (hf2.p1 279 7))))
  have ep : entP p t x len tok i = bd (numP tok (i + 1 + 1 + 1) 0 7) (fun a j => .inr (entT t x len (i + 1) p a, j)) := ep.trans (bd_ok (wrd_ok e))
  refine k_numberHere g3 0 7 (by omega) (by omega) (fun v nv ev hv M4 hf4 g4 => ?_) (fun k nk hk M4 hf4 g4 => ?_)
  rotate_left 1
  · exact k_isFine0 g4.2.2.2.1 g4.2.1 (bn_f rfl (h0 k _ M4 (fun _ => ep.trans (bd_no nk)) n3 ((hf2.mono.tr hf3.mono).tr hf4.mono) g4 ((hf4.p1 279 7).trans ((hf3.p1 279 7).trans (hf2.p1 279 7)))))
  have ep : entP p t x len tok i = .inr (entT t x len (i + 1) p v, i + 1 + 1 + 1 + 1) := ep.trans (bd_ok nv)
  have f4 : q_fs [281] fHr M M4 := (hf2.mono.tr hf3.mono).tr hf4.mono
  have m81 : ∀ q, M4.2 281 q = (q_sl M 281 (10 + t 8 0) (Int64.ofInt (w8E x (tkS x len (i + 1)) ((tkR x len (tkS x len (i + 1)) - tkS x len (i + 1))) : Nat))).2 281 q := fun q => (hf4.p2 281 q).trans ((hf3.p2 281 q).trans (r81 q))
  have c4 : M4.1 279 4 = nI (t 8 0) := (f4.p1 279 4).trans h.1.2.2.2.2.1
  obtain ⟨⟨d1, d2, d3⟩, d4, d5, ⟨d6, d7⟩, d8⟩ := ent_t (t := t) (x := x) (len := len) (i := i + 1) (p := p) (a := v) e6
  have n57 := tkN_5 (t := t) (x := x) (len := len) d6 d7
  obtain ⟨hl0, hl1⟩ := hemp e6
  have W := lp_m (W := fun k M' => ∀ u, u = nI k → q_G q_mt (L, xs, q_shp) E nX12_readsEntrant (d + 4) 0 0 (q_Q (L, xs, q_shp) E Q) 81 [some (.ref 271), some (.int (nI p)), some (.int (nI (t 8 0))), some (.int (nI v)), some (.int (u))] [] M') (J := fun k M' => q_fs [279] [] M4 M' ∧ (∀ q, ¬ (q = 50 + 2 * t 8 0 ∨ q = 51 + 2 * t 8 0 ∨ q = 62 + 6 * t 8 0 ∨ (98 + 6 * t 8 0 ≤ q ∧ q < 104 + 6 * t 8 0)) → M'.1 279 q = M4.1 279 q) ∧ M'.1 279 (50 + 2 * t 8 0) = nI p ∧ M'.1 279 (51 + 2 * t 8 0) = nI v ∧ M'.1 279 (62 + 6 * t 8 0) = Int32.ofInt (-1) ∧ ∀ g, g < k → M'.1 279 (98 + (6 * t 8 0 + g)) = nI 10) 6 ?_ ?_ 0
  · refine k_isFine1 g4.2.2.2.1 (bn_t (by decide) ?_)
    refine ⟨50 + 2 * t 8 0, _, by (first | assumption | (simp only [z_nat, z_lit, ← Int32.ofInt_add, ← Int32.ofInt_sub, ← Int32.ofInt_mul]; exact congrArg Int32.ofInt (by omega)) | (simp only [z_nat, z_lit, ← Int32.ofInt_add, ← Int32.ofInt_sub, ← Int32.ofInt_mul]; done) | exact congrArg Int32.ofInt (by omega) | rfl), by (dsimp only; omega), rfl, ?_⟩
    refine ⟨51 + 2 * t 8 0, _, by (first | assumption | (simp only [z_nat, z_lit, ← Int32.ofInt_add, ← Int32.ofInt_sub, ← Int32.ofInt_mul]; exact congrArg Int32.ofInt (by omega)) | (simp only [z_nat, z_lit, ← Int32.ofInt_add, ← Int32.ofInt_sub, ← Int32.ofInt_mul]; done) | exact congrArg Int32.ofInt (by omega) | rfl), by (dsimp only; omega), rfl, ?_⟩
    refine ⟨62 + 6 * t 8 0, _, by (first | assumption | (simp only [z_nat, z_lit, ← Int32.ofInt_add, ← Int32.ofInt_sub, ← Int32.ofInt_mul]; exact congrArg Int32.ofInt (by omega)) | (simp only [z_nat, z_lit, ← Int32.ofInt_add, ← Int32.ofInt_sub, ← Int32.ofInt_mul]; done) | exact congrArg Int32.ofInt (by omega) | rfl), by (dsimp only; omega), rfl, ?_⟩
    refine W _ (Nat.zero_le _) ⟨q_fs.rf.s1.s1.s1, fun q hq => ?_, ?_, ?_, q_si_s, fun g hg => by omega⟩ _ rfl
    · exact (q_si_n (by omega)).trans ((q_si_n (by omega)).trans (q_si_n (by omega)))
    · exact (q_si_n (by omega)).trans ((q_si_n (by omega)).trans q_si_s)
    · exact (q_si_n (by omega)).trans q_si_s
  · rintro M' ⟨hf, ho, r50, r51, r62, r98⟩ u rfl
    have c4' : M'.1 279 4 = nI (t 8 0) := (ho 4 (by omega)).trans c4
    refine w_at 90 [81] ?_
    refine z_le 6 (6 : Nat) (fun _ => ?_) (fun z => by omega)
    refine ⟨4, _, by (first | assumption | (simp only [z_nat, z_lit, ← Int32.ofInt_add, ← Int32.ofInt_sub, ← Int32.ofInt_mul]; exact congrArg Int32.ofInt (by omega)) | (simp only [z_nat, z_lit, ← Int32.ofInt_add, ← Int32.ofInt_sub, ← Int32.ofInt_mul]; done) | exact congrArg Int32.ofInt (by omega) | rfl), by (dsimp only; omega), c4', ?_⟩
    refine ⟨4, nI (t 8 0 + 1), by (first | assumption | (simp only [z_nat, z_lit, ← Int32.ofInt_add, ← Int32.ofInt_sub, ← Int32.ofInt_mul]; exact congrArg Int32.ofInt (by omega)) | (simp only [z_nat, z_lit, ← Int32.ofInt_add, ← Int32.ofInt_sub, ← Int32.ofInt_mul]; done) | exact congrArg Int32.ofInt (by omega) | rfl), by (dsimp only; omega), by (first | assumption | (simp only [z_nat, z_lit, ← Int32.ofInt_add, ← Int32.ofInt_sub, ← Int32.ofInt_mul]; exact congrArg Int32.ofInt (by omega)) | (simp only [z_nat, z_lit, ← Int32.ofInt_add, ← Int32.ofInt_sub, ← Int32.ofInt_mul]; done) | exact congrArg Int32.ofInt (by omega) | rfl), ?_⟩
    have hf7 : q_fs [279] [] M' (q_si M' 279 4 (nI (t 8 0 + 1))) := q_fs.rf.s1
    refine h1 e6 _ _ _ ep ((f4.mono.tr hf.mono).tr hf7.mono) ((g4.fs hf).fs hf7) (h.entr bt c255 d1 ?_ ⟨?_, ?_⟩ d4 e6 d5 ?_ ⟨?_, hl0⟩ (fun g hg => ⟨?_, hl1 g hg⟩) d8 (fun q hq => ?_) (fun q hq => ?_)) ?_
    · rw [d1]
      exact q_si_s
    · rw [d2]
      exact (q_si_n (by omega)).trans r50
    · rw [d3]
      exact (q_si_n (by omega)).trans r51
    · rw [n57.2]
      exact (hf7.p2 281 _).trans ((hf.p2 281 _).trans ((m81 _).trans q_sl_s))
    · exact (q_si_n (by omega)).trans r62
    · exact (q_si_n (by omega)).trans (r98 g hg)
    · exact (q_si_n (by omega)).trans ((ho q (by omega)).trans (f4.p1 279 q))
    · exact (hf7.p2 281 _).trans ((hf.p2 281 _).trans ((m81 _).trans (q_sl_n hq)))
    · exact (q_si_n (by omega)).trans ((ho 7 (by omega)).trans (f4.p1 279 7))
  · rintro k M' hk ⟨hf, ho, r50, r51, r62, r98⟩ ih u rfl
    refine w_at 90 [81] ?_
    refine z_le 6 (k : Int) (fun z => by omega) (fun _ => ?_)
    refine ⟨98 + (6 * t 8 0 + k), _, by (first | assumption | (simp only [z_nat, z_lit, ← Int32.ofInt_add, ← Int32.ofInt_sub, ← Int32.ofInt_mul]; exact congrArg Int32.ofInt (by omega)) | (simp only [z_nat, z_lit, ← Int32.ofInt_add, ← Int32.ofInt_sub, ← Int32.ofInt_mul]; done) | exact congrArg Int32.ofInt (by omega) | rfl), by (dsimp only; omega), rfl, ?_⟩
    refine ih _ ⟨hf.s1, fun q hq => (q_si_n (by omega)).trans (ho q hq), (q_si_n (by omega)).trans r50, (q_si_n (by omega)).trans r51, (q_si_n (by omega)).trans r62, fun g hg => ?_⟩ _ (by (first | assumption | (simp only [z_nat, z_lit, ← Int32.ofInt_add, ← Int32.ofInt_sub, ← Int32.ofInt_mul]; exact congrArg Int32.ofInt (by omega)) | (simp only [z_nat, z_lit, ← Int32.ofInt_add, ← Int32.ofInt_sub, ← Int32.ofInt_mul]; done) | exact congrArg Int32.ofInt (by omega) | rfl))
    by_cases q : g = k
    · subst q
      exact q_si_s
    · exact (q_si_n (by omega)).trans (r98 g (by omega))
end EN
/-- an entrant that was told ahead -/
def etP (t : q_T) (x : Nat → Nat) (len : Nat) (tok : Nat → Tok) (i : Nat) : Rs Nat := if (tok i).1 = 2 then (if fnE t x len 10 (t 8 0) i < t 8 0 then .inr (fnE t x len 10 (t 8 0) i, i) else .inl (3, i)) else .inl (1, i)
/-- the numbers of a form from the g-th on -/
def fmP (tok : Nat → Tok) (e : Nat) : Nat → Nat → Nat → q_T → Rs q_T
  | 0, _, i, t => .inr (t, i)
  | f + 1, g, i, t => bd (numP tok i 0 20) (fun v j => fmP tok e f (g + 1) j (upT t 12 (6 * e + g) v))
def formP (t : q_T) (x : Nat → Nat) (len : Nat) (tok : Nat → Tok) (i : Nat) : Rs q_T := bd (etP t x len tok (i + 1)) (fun e j => fmP tok e 6 0 (j + 1) t)
section EF
variable {L : Nat} {xs : Nat → Int32} {E : q_E} {d : Nat} {M : q_M} {t : q_T} {n : sN} {Q : Option Value → q_M → Prop} {P : q_M → Prop}
variable {x : Nat → Nat} {len : Nat} {tok : Nat → Tok} {T : Nat}
set_option maxRecDepth 100000 in
set_option maxHeartbeats 4000000 in
theorem k2_takeEntrant {i : Nat} (g : g_ct M x len tok T i) (dc : dC M t) (bt : b_T t) (bn : bNm t) (h1 : ∀ e, etP t x len tok i = .inr (e, i) → (tok i).1 = 2 → e < t 8 0 → Q (some (.int (nI e))) M) (h0 : ∀ k M', etP t x len tok i = .inl (k, i) → q_fs [] fTk M M' → g_cf M' x len k i → Q (some (.int (Int32.ofInt (-1)))) M') : q_C q_mt (L, xs, q_shp) E nX3_takeEntrant (d + 2) 0 0 [.ref 42] M Q := by
  have k5 := g.tt.k5 i
  have e6 := bt.2.2.2.2.1
  have s2 := (fnE_s (t := t) (x := x) (len := len) (o := 10) (N := t 8 0) (j := i)).1
  refine w_in 90 [] ?_
  refine ⟨_, g.k.1, ?_⟩
  refine z_eq ((tok i).1 : Int) 2 (fun z => ?_) (fun z => ?_)
  · have z : (tok i).1 = 2 := by omega
    have ep : etP t x len tok i = if fnE t x len 10 (t 8 0) i < t 8 0 then .inr (fnE t x len 10 (t 8 0) i, i) else .inl (3, i) := if_pos z
    refine ⟨_, g.k.nm z, ?_⟩
    refine k2_findEntrantD g z dc e6 bn rfl (fun y => ?_) (fun y => ?_)
    · rw [if_pos y] at ep
      exact z_ne (fnE t x len 10 (t 8 0) i : Int) (-1) (fun _ => ⟨_, rfl, h1 _ ep z y⟩) (fun w => by omega)
    · rw [if_neg y] at ep
      refine z_ne (-1) (-1) (fun w => absurd rfl w) (fun _ => ?_)
      exact k2_refuse g 3 (fun M' hf g' => ⟨_, rfl, h0 3 M' ep hf g'⟩)
  · have ep : etP t x len tok i = .inl (1, i) := if_neg (by omega)
    exact k2_refuse g 1 (fun M' hf g' => ⟨_, rfl, h0 1 M' ep hf g'⟩)
set_option maxRecDepth 100000 in
set_option maxHeartbeats 4000000 in
theorem k_entrantHere {i : Nat} (g : g_rt M x len tok T i) (dr : dR M t) (bt : b_T t) (bn : bNm t) (h1 : ∀ e, etP t x len tok i = .inr (e, i) → (tok i).1 = 2 → e < t 8 0 → Q (some (.int (nI e))) M) (h0 : ∀ k M', etP t x len tok i = .inl (k, i) → q_fs [] fHr M M' → g_rb M' x len tok T k i → Q (some (.int (Int32.ofInt (-1)))) M') : q_C q_mt (L, xs, q_shp) E nX12_entrantHere (d + 2) 0 0 [.ref 271] M Q := by
  have i12 := g.i12
  have e6 := bt.2.2.2.2.1
  have s2 := (fnE_s (t := t) (x := x) (len := len) (o := 10) (N := t 8 0) (j := i)).1
  obtain ⟨nD, nE⟩ := dr.nmO (e := 0) bn
  refine w_in 90 [] ?_
  refine k_isFine1 g.2.2.2.1 (bn_t (by decide) ?_)
  refine k_isNameHere g (fun z => bn_t (by decide) ?_) (fun z => bn_f rfl ?_)
  · have ep : etP t x len tok i = if fnE t x len 10 (t 8 0) i < t 8 0 then .inr (fnE t x len 10 (t 8 0) i, i) else .inl (3, i) := if_pos z
    have e76 := (g.k.2.2.2.1 z).2.1
    refine ⟨4, _, by (first | assumption | (simp only [z_nat, z_lit, ← Int32.ofInt_add, ← Int32.ofInt_sub, ← Int32.ofInt_mul]; exact congrArg Int32.ofInt (by omega)) | (simp only [z_nat, z_lit, ← Int32.ofInt_add, ← Int32.ofInt_sub, ← Int32.ofInt_mul]; done) | exact congrArg Int32.ofInt (by omega) | rfl), by (dsimp only; omega), dr.1.2.2.2.2.1, ?_⟩
    refine ⟨_, g.2.2.1, ?_⟩
    refine ⟨i, _, by (first | assumption | (simp only [z_nat, z_lit, ← Int32.ofInt_add, ← Int32.ofInt_sub, ← Int32.ofInt_mul]; exact congrArg Int32.ofInt (by omega)) | (simp only [z_nat, z_lit, ← Int32.ofInt_add, ← Int32.ofInt_sub, ← Int32.ofInt_mul]; done) | exact congrArg Int32.ofInt (by omega) | rfl), by (dsimp only; omega), e76, ?_⟩
    refine k_draftNamed g z (o := 10) (by omega) nE rfl (fun y => ?_) (fun y => ?_)
    · rw [if_pos y] at ep
      exact z_ne (fnE t x len 10 (t 8 0) i : Int) (-1) (fun _ => ⟨_, rfl, h1 _ ep z y⟩) (fun w => by omega)
    · rw [if_neg y] at ep
      refine z_ne (-1) (-1) (fun w => absurd rfl w) (fun _ => ?_)
      exact k_wrongs g 3 (by omega) (fun M' hf g' => ⟨_, rfl, h0 3 M' ep hf g'⟩)
  · have ep : etP t x len tok i = .inl (1, i) := if_neg z
    exact k_wrongs g 1 (by omega) (fun M' hf g' => ⟨_, rfl, h0 1 M' ep hf g'⟩)
set_option maxRecDepth 100000 in
set_option maxHeartbeats 4000000 in
theorem k2_readForm {i : Nat} (g : g_ct M x len tok T (i + 1)) (h : dC M t) (bt : b_T t) (bn : bNm t) (h1 : ∀ t' j M', formP t x len tok i = .inr (t', j) → q_fs lDr fTk M M' → g_ct M' x len tok T j → dC M' t' → Q (some (.int 1)) M') (h0 : ∀ k j M', formP t x len tok i = .inl (k, j) → q_fs lDr fTk M M' → g_cf M' x len k j → Q (some (.int 0)) M') : q_C q_mt (L, xs, q_shp) E nX3_readForm (d + 4) 0 0 [.ref 42] M Q := by
  have e6 := bt.2.2.2.2.1
  refine w_in 90 [21] ?_
  refine k2_takeEntrant g h bt bn (fun e ne z2 he => ?_) (fun k M1 nk hf1 g1 => ?_)
  · have ep : formP t x len tok i = fmP tok e 6 0 (i + 1 + 1) t := bd_ok ne
    have main : ∀ f g0 j t1 M1, g0 + f = 6 → fmP tok e 6 0 (i + 1 + 1) t = fmP tok e f g0 j t1 → (∀ k, ¬ k = 12 → t1 k = t k) → q_fs [34] fTk M M1 → g_ct M1 x len tok T j → (∀ s, s < 36 → M1.1 34 s = nI (t1 12 s)) → ∀ u, u = nI g0 → q_G q_mt (L, xs, q_shp) E nX3_readForm (d + 4) 0 0 (q_Q (L, xs, q_shp) E Q) 21 [some (.ref 42), some (.int (nI e)), some (.int (u))] [] M1 := by
      intro f
      induction f with
      | zero =>
        rintro g0 j t1 M1 hg ef hr hf1 g1 hL u rfl
        obtain rfl : g0 = 6 := by omega
        refine w_at 90 [21] ?_
        refine z_le 6 (6 : Nat) (fun _ => ⟨z_1, h1 t1 j M1 (ep.trans ef) hf1.mono g1 (h.form e6 hL hr hf1)⟩) (fun z => by omega)
      | succ f ih =>
        rintro g0 j t1 M1 hg ef hr hf1 g1 hL u rfl
        have ef : fmP tok e 6 0 (i + 1 + 1) t = bd (numP tok j 0 20) (fun v j => fmP tok e f (g0 + 1) j (upT t1 12 (6 * e + g0) v)) := ef
        refine w_at 90 [21] ?_
        refine z_le 6 (g0 : Int) (fun z => by omega) (fun _ => ?_)
        refine k2_takeNumber g1 0 20 (by omega) (by omega) (fun v nv ev hv M2 hf2 g2 => bn_t (by decide) ?_) (fun k nk hk M2 hf2 g2 => bn_f rfl ⟨z_0, h0 k _ M2 (ep.trans (ef.trans (bd_no nk))) (hf1.mono.tr hf2.mono) g2⟩)
        refine ⟨_, g2.1, ?_⟩
        refine ⟨6 * e + g0, _, by (first | assumption | (simp only [z_nat, z_lit, ← Int32.ofInt_add, ← Int32.ofInt_sub, ← Int32.ofInt_mul]; exact congrArg Int32.ofInt (by omega)) | (simp only [z_nat, z_lit, ← Int32.ofInt_add, ← Int32.ofInt_sub, ← Int32.ofInt_mul]; done) | exact congrArg Int32.ofInt (by omega) | rfl), by (dsimp only; omega), rfl, ?_⟩
        have hf3 : q_fs [34] [] M2 (q_si M2 34 (6 * e + g0) (nI v)) := q_fs.rf.s1
        refine ih (g0 + 1) (j + 1) (upT t1 12 (6 * e + g0) v) _ (by omega) (ef.trans (bd_ok nv)) (fun k hk => by rw [upT_r hk]; exact hr k hk) ((hf1.tr hf2.mono).tr hf3.mono) (g2.2.fs hf3) (fun s hs => ?_) _ (by (first | assumption | (simp only [z_nat, z_lit, ← Int32.ofInt_add, ← Int32.ofInt_sub, ← Int32.ofInt_mul]; exact congrArg Int32.ofInt (by omega)) | (simp only [z_nat, z_lit, ← Int32.ofInt_add, ← Int32.ofInt_sub, ← Int32.ofInt_mul]; done) | exact congrArg Int32.ofInt (by omega) | rfl))
        by_cases q : s = 6 * e + g0
        · subst q
          rw [upT_s]
          exact q_si_s
        · rw [upT_n (fun w => q w.2)]
          exact (q_si_n q).trans ((hf2.p1 34 s).trans (hL s hs))
    refine z_ne (e : Int) (-1) (fun _ => ?_) (fun w => by omega)
    refine k2_adv g (by omega) (fun M1 hf1 g1 => ?_)
    refine main 6 0 (i + 1 + 1) t M1 (by omega) rfl (fun _ _ => rfl) hf1.mono g1.2 (fun s hs => ?_) _ rfl
    exact (hf1.p1 34 s).trans (h.2.2.1 s hs)
  · refine z_ne (-1) (-1) (fun w => absurd rfl w) (fun _ => ⟨z_0, h0 k _ M1 (bd_no nk) hf1.mono g1⟩)
set_option maxRecDepth 100000 in
set_option maxHeartbeats 4000000 in
theorem k_readsForm {i : Nat} (g : g_rt M x len tok T i) (nf : ¬ (tok i).1 = 0) (h : dR M t) (bt : b_T t) (bn : bNm t) (c255 : ∀ l, l < t 17 0 → t 18 l ≤ 255) (h1 : ∀ t' j M', formP t x len tok i = .inr (t', j) → q_fs lDq fDq M M' → g_rt M' x len tok T j → dR M' t' → M'.1 279 7 = M.1 279 7 → Q none M') (h0 : ∀ k j M', formP t x len tok i = .inl (k, j) → q_fs lDq fDq M M' → g_rb M' x len tok T k j → M'.1 279 7 = M.1 279 7 → Q none M') : q_C q_mt (L, xs, q_shp) E nX12_readsForm (d + 4) 0 0 [.ref 271] M Q := by
  have i12 := g.i12
  have e6 := bt.2.2.2.2.1
  have g1 : g_rt (q_si M 271 8 (nI (i + 1))) x len tok T (i + 1) := g.nx nf rfl
  have hf1 : q_fs [] [(271, 8)] M (q_si M 271 8 (nI (i + 1))) := q_fs.rf.s1
  have dr1 : dR (q_si M 271 8 (nI (i + 1))) t := h.eq (hf1.c1 279) (hf1.c2 281)
  refine w_in 90 [35] ?_
  refine ⟨_, g.2.2.1, ?_⟩
  refine ⟨nI (i + 1), by (first | assumption | (simp only [z_nat, z_lit, ← Int32.ofInt_add, ← Int32.ofInt_sub, ← Int32.ofInt_mul]; exact congrArg Int32.ofInt (by omega)) | (simp only [z_nat, z_lit, ← Int32.ofInt_add, ← Int32.ofInt_sub, ← Int32.ofInt_mul]; done) | exact congrArg Int32.ofInt (by omega) | rfl), ?_⟩
  refine k_entrantHere g1 dr1 bt bn (fun e ne z2 he => ?_) (fun k M2 nk hf2 g2 => ?_)
  · have ep : formP t x len tok i = fmP tok e 6 0 (i + 1 + 1) t := bd_ok ne
    -- behind a fault
    have bad : ∀ f g0 k j M1, g0 + f = 6 → formP t x len tok i = .inl (k, j) → q_fs lDq fDq M M1 → M1.1 279 7 = M.1 279 7 → g_rb M1 x len tok T k j → ∀ u l3, u = nI g0 → q_G q_mt (L, xs, q_shp) E nX12_readsForm (d + 4) 0 0 (q_Q (L, xs, q_shp) E Q) 35 [some (.ref 271), some (.int (nI e)), some (.int (u)), l3] [] M1 := by
      intro f
      induction f with
      | zero =>
        rintro g0 k j M1 hg ek hf e7 g' u l3 rfl
        obtain rfl : g0 = 6 := by omega
        refine w_at 90 [35] ?_
        exact z_le 6 (6 : Nat) (fun _ => h0 k j M1 ek hf g' e7) (fun z => by omega)
      | succ f ih =>
        rintro g0 k j M1 hg ek hf e7 g' u l3 rfl
        refine w_at 90 [35] ?_
        refine z_le 6 (g0 : Int) (fun z => by omega) (fun _ => ?_)
        refine k_numberHere0 g' ?_
        refine ⟨98 + (6 * e + g0), _, by (first | assumption | (simp only [z_nat, z_lit, ← Int32.ofInt_add, ← Int32.ofInt_sub, ← Int32.ofInt_mul]; exact congrArg Int32.ofInt (by omega)) | (simp only [z_nat, z_lit, ← Int32.ofInt_add, ← Int32.ofInt_sub, ← Int32.ofInt_mul]; done) | exact congrArg Int32.ofInt (by omega) | rfl), by (dsimp only; omega), rfl, ?_⟩
        have hf3 : q_fs [279] [] M1 (q_si M1 279 (98 + (6 * e + g0)) (Int32.ofInt 0)) := q_fs.rf.s1
        exact ih (g0 + 1) k j _ (by omega) ek (hf.tr hf3.mono) ((q_si_n (by omega)).trans e7) (g'.fs hf3) _ _ (by (first | assumption | (simp only [z_nat, z_lit, ← Int32.ofInt_add, ← Int32.ofInt_sub, ← Int32.ofInt_mul]; exact congrArg Int32.ofInt (by omega)) | (simp only [z_nat, z_lit, ← Int32.ofInt_add, ← Int32.ofInt_sub, ← Int32.ofInt_mul]; done) | exact congrArg Int32.ofInt (by omega) | rfl))
    have main : ∀ f g0 j t1 M1, g0 + f = 6 → fmP tok e 6 0 (i + 1 + 1) t = fmP tok e f g0 j t1 → (∀ k, ¬ k = 12 → t1 k = t k) → q_fs lDq fDq M M1 → g_rt M1 x len tok T j → (∀ e', e' < t 8 0 → ∀ g', g' < 6 → M1.1 279 (98 + (6 * e' + g')) = nI (t1 12 (6 * e' + g'))) → (∀ q, ¬ (98 ≤ q ∧ q < 134) → M1.1 279 q = M.1 279 q) → (∀ q, M1.2 281 q = M.2 281 q) → ∀ u l3, u = nI g0 → q_G q_mt (L, xs, q_shp) E nX12_readsForm (d + 4) 0 0 (q_Q (L, xs, q_shp) E Q) 35 [some (.ref 271), some (.int (nI e)), some (.int (u)), l3] [] M1 := by
      intro f
      induction f with
      | zero =>
        rintro g0 j t1 M1 hg ef hr hf g' hL ho hm u l3 rfl
        obtain rfl : g0 = 6 := by omega
        refine w_at 90 [35] ?_
        exact z_le 6 (6 : Nat) (fun _ => h1 t1 j M1 (ep.trans ef) hf g' (h.form bt c255 hL hr ho (fun q _ => hm q)) (ho 7 (by omega))) (fun z => by omega)
      | succ f ih =>
        rintro g0 j t1 M1 hg ef hr hf g' hL ho hm u l3 rfl
        have ef : fmP tok e 6 0 (i + 1 + 1) t = bd (numP tok j 0 20) (fun v j => fmP tok e f (g0 + 1) j (upT t1 12 (6 * e + g0) v)) := ef
        refine w_at 90 [35] ?_
        refine z_le 6 (g0 : Int) (fun z => by omega) (fun _ => ?_)
        refine k_numberHere g' 0 20 (by omega) (by omega) (fun v nv ev hv M2 hf2 g2 => ?_) (fun k nk hk M2 hf2 g2 => ?_)
        · refine ⟨98 + (6 * e + g0), _, by (first | assumption | (simp only [z_nat, z_lit, ← Int32.ofInt_add, ← Int32.ofInt_sub, ← Int32.ofInt_mul]; exact congrArg Int32.ofInt (by omega)) | (simp only [z_nat, z_lit, ← Int32.ofInt_add, ← Int32.ofInt_sub, ← Int32.ofInt_mul]; done) | exact congrArg Int32.ofInt (by omega) | rfl), by (dsimp only; omega), rfl, ?_⟩
          have hf3 : q_fs [279] [] M2 (q_si M2 279 (98 + (6 * e + g0)) (nI v)) := q_fs.rf.s1
          refine ih (g0 + 1) (j + 1) (upT t1 12 (6 * e + g0) v) _ (by omega) (ef.trans (bd_ok nv)) (fun k hk => by rw [upT_r hk]; exact hr k hk) ((hf.tr hf2.mono).tr hf3.mono) (g2.fs hf3) (fun e' he' g'' hg' => ?_) (fun q hq => ?_) (fun q => ?_) _ _ (by (first | assumption | (simp only [z_nat, z_lit, ← Int32.ofInt_add, ← Int32.ofInt_sub, ← Int32.ofInt_mul]; exact congrArg Int32.ofInt (by omega)) | (simp only [z_nat, z_lit, ← Int32.ofInt_add, ← Int32.ofInt_sub, ← Int32.ofInt_mul]; done) | exact congrArg Int32.ofInt (by omega) | rfl))
          · by_cases q : 6 * e' + g'' = 6 * e + g0
            · rw [q, upT_s]
              exact q_si_s
            · rw [upT_n (fun w => q w.2)]
              exact (q_si_n (by omega)).trans ((hf2.p1 279 _).trans (hL e' he' g'' hg'))
          · exact (q_si_n (by omega)).trans ((hf2.p1 279 q).trans (ho q hq))
          · exact (hf3.p2 281 q).trans ((hf2.p2 281 q).trans (hm q))
        · refine ⟨98 + (6 * e + g0), _, by (first | assumption | (simp only [z_nat, z_lit, ← Int32.ofInt_add, ← Int32.ofInt_sub, ← Int32.ofInt_mul]; exact congrArg Int32.ofInt (by omega)) | (simp only [z_nat, z_lit, ← Int32.ofInt_add, ← Int32.ofInt_sub, ← Int32.ofInt_mul]; done) | exact congrArg Int32.ofInt (by omega) | rfl), by (dsimp only; omega), rfl, ?_⟩
          have hf3 : q_fs [279] [] M2 (q_si M2 279 (98 + (6 * e + g0)) (Int32.ofInt 0)) := q_fs.rf.s1
          exact bad f (g0 + 1) k _ _ (by omega) (ep.trans (ef.trans (bd_no nk))) ((hf.tr hf2.mono).tr hf3.mono) ((q_si_n (by omega)).trans ((hf2.p1 279 7).trans (ho 7 (by omega)))) (g2.fs hf3) _ _ (by (first | assumption | (simp only [z_nat, z_lit, ← Int32.ofInt_add, ← Int32.ofInt_sub, ← Int32.ofInt_mul]; exact congrArg Int32.ofInt (by omega)) | (simp only [z_nat, z_lit, ← Int32.ofInt_add, ← Int32.ofInt_sub, ← Int32.ofInt_mul]; done) | exact congrArg Int32.ofInt (by omega) | rfl))
    refine k_isFine1 g1.2.2.2.1 (bn_t (by decide) ?_)
    have i13 := g1.i12
    refine ⟨_, g1.2.2.1, ?_⟩
    refine ⟨nI (i + 1 + 1), by (first | assumption | (simp only [z_nat, z_lit, ← Int32.ofInt_add, ← Int32.ofInt_sub, ← Int32.ofInt_mul]; exact congrArg Int32.ofInt (by omega)) | (simp only [z_nat, z_lit, ← Int32.ofInt_add, ← Int32.ofInt_sub, ← Int32.ofInt_mul]; done) | exact congrArg Int32.ofInt (by omega) | rfl), ?_⟩
    have g2 := g1.nx (v := nI (i + 1 + 1)) (by omega) rfl
    have hf2 : q_fs [] [(271, 8)] M (q_si (q_si M 271 8 (nI (i + 1))) 271 8 (nI (i + 1 + 1))) := q_fs.rf.s1.s1
    exact main 6 0 (i + 1 + 1) t _ (by omega) rfl (fun _ _ => rfl) hf2.mono g2 (fun e' he' g' hg' => (hf2.p1 279 _).trans (h.1.2.2.2.2.2.2.2.2.2.2.1 e' he' g' hg')) (fun q _ => hf2.p1 279 q) (fun q => hf2.p2 281 q) _ _ rfl
  · exact k_isFine0 g2.2.2.2.1 g2.2.1 (bn_f rfl (h0 k _ M2 (bd_no nk) (hf1.mono.tr hf2.mono) g2 ((hf2.p1 279 7).trans (hf1.p1 279 7))))
end EF
