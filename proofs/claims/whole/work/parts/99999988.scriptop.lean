/-! the call script -/
/-- what calls mostly leave alone -/
def kZ (r i : Nat) : Bool := c_rng 4 19 r || c_rng 21 23 r || c_rng 52 67 r || (Nat.beq r 244 && Nat.beq i 8) || c_rng 246 247 r || Nat.beq r 270 || Nat.beq r 272 || Nat.beq r 278 || Nat.beq r 280 || Nat.beq r 282 || c_rng 287 288 r || (Nat.beq r 2 && Nat.beq i 13)
def kZ0 (r : Nat) : Bool := c_rng 4 19 r || c_rng 21 23 r || c_rng 52 67 r || Nat.beq r 244 || c_rng 246 247 r || Nat.beq r 270 || Nat.beq r 272 || Nat.beq r 278 || Nat.beq r 280 || Nat.beq r 282 || c_rng 287 288 r || Nat.beq r 2
def q_fZ (M M' : q_M) : Prop := ∀ r i, kZ r i = true → M'.1 r i = M.1 r i ∧ M'.2 r i = M.2 r i
theorem q_fZ.rf {M : q_M} : q_fZ M M := fun _ _ _ => ⟨rfl, rfl⟩
theorem q_fZ.tr {M M' M'' : q_M} (h : q_fZ M M') (h' : q_fZ M' M'') : q_fZ M M'' := fun r i hr => ⟨(h' r i hr).1.trans (h r i hr).1, (h' r i hr).2.trans (h r i hr).2⟩
theorem bo_or {a b : Bool} (h : (a || b) = true) : a = true ∨ b = true := by rw [Bool.or_eq_true] at h; exact h
theorem c_rng.o {a b r : Nat} (h : c_rng a b r = true) : a ≤ r ∧ r ≤ b := by
  unfold c_rng at h
  rw [Bool.and_eq_true] at h
  exact ⟨Nat.le_of_ble_eq_true h.1, Nat.le_of_ble_eq_true h.2⟩
theorem kZ.o {r i : Nat} (h : kZ r i = true) : (4 ≤ r ∧ r ≤ 19) ∨ (21 ≤ r ∧ r ≤ 23) ∨ (52 ≤ r ∧ r ≤ 67) ∨ (r = 244 ∧ i = 8) ∨ (246 ≤ r ∧ r ≤ 247) ∨ r = 270 ∨ r = 272 ∨ r = 278 ∨ r = 280 ∨ r = 282 ∨ (287 ≤ r ∧ r ≤ 288) ∨ (r = 2 ∧ i = 13) := by
  unfold kZ at h
  rcases bo_or h with h | h
  · rcases bo_or h with h | h
    · rcases bo_or h with h | h
      · rcases bo_or h with h | h
        · rcases bo_or h with h | h
          · rcases bo_or h with h | h
            · rcases bo_or h with h | h
              · rcases bo_or h with h | h
                · rcases bo_or h with h | h
                  · rcases bo_or h with h | h
                    · rcases bo_or h with h | h
                      · exact Or.inl (c_rng.o h)
                      · exact Or.inr (Or.inl (c_rng.o h))
                    · exact Or.inr (Or.inr (Or.inl (c_rng.o h)))
                  · rw [Bool.and_eq_true] at h
                    have a := Nat.eq_of_beq_eq_true h.1
                    have b := Nat.eq_of_beq_eq_true h.2
                    omega
                · have := c_rng.o h
                  omega
              · have := Nat.eq_of_beq_eq_true h
                omega
            · have := Nat.eq_of_beq_eq_true h
              omega
          · have := Nat.eq_of_beq_eq_true h
            omega
        · have := Nat.eq_of_beq_eq_true h
          omega
      · have := Nat.eq_of_beq_eq_true h
        omega
    · have := c_rng.o h
      omega
  · rw [Bool.and_eq_true] at h
    have a := Nat.eq_of_beq_eq_true h.1
    have b := Nat.eq_of_beq_eq_true h.2
    omega
theorem q_fs.fZ {l : List Nat} {f : List (Nat × Nat)} {M M' : q_M} (h : q_fs l f M M') (o : (l.all (fun a => !(kZ0 a)) && f.all (fun q => !(kZ q.1 q.2))) = true := by exact rfl) : q_fZ M M' := by
  intro r i hr
  refine h r i ?_
  rw [Bool.and_eq_true, List.all_eq_true, List.all_eq_true] at o
  cases q : q_scr l f r i with
  | false => rfl
  | true =>
    exfalso
    unfold q_scr at q
    rw [Bool.or_eq_true] at q
    rcases q with q | q
    · have := o.1 r (q_has1_in.mp q)
      rw [Bool.not_eq_true'] at this
      have k0 : kZ0 r = true := by
        unfold kZ at hr
        unfold kZ0
        revert hr
        cases c_rng 4 19 r <;> cases c_rng 21 23 r <;> cases c_rng 52 67 r <;> cases Nat.beq r 244 <;> cases c_rng 246 247 r <;> cases Nat.beq r 270 <;> simp
        intro hr
        rcases hr with hr | hr
        · simp [hr]
        · simp [hr.1]
      rw [k0] at this
      cases this
    · have := o.2 (r, i) (q_has2_in.mp q)
      rw [Bool.not_eq_true'] at this
      rw [this] at hr
      cases hr
theorem q_fo.fZ {M M' : q_M} (h : q_fo M M') : q_fZ M M' := fun r i hr => h r i (by
  have o := kZ.o hr
  have nr : ∀ a b, ¬ (a ≤ r ∧ r ≤ b) → c_rng a b r = false := fun a b z => Bool.eq_false_iff.mpr (fun y => z (c_rng.o y))
  have nb : ∀ a, ¬ r = a → Nat.beq r a = false := fun a z => Bool.eq_false_iff.mpr (fun y => z (Nat.eq_of_beq_eq_true y))
  unfold aO
  rw [nr 43 50 (by omega), nr 70 241 (by omega), nr 284 286 (by omega), nr 293 294 (by omega), nb 243 (by omega), nb 68 (by omega), nb 271 (by omega)]
  rfl)
theorem rg_fZ {p : Nat} {M M' : q_M} (h : q_fs (rgL p) [] M M') (hp : p < 21) : q_fZ M M' := (rg_fo h hp).fZ
section SO
variable {L : Nat} {xs : Nat → Int32} {E : q_E} {d : Nat} {M : q_M} {t : q_T} {n : sN} {Q : Option Value → q_M → Prop} {P : q_M → Prop}
variable {x : Nat → Nat} {len : Nat} {tok : Nat → Tok} {T : Nat}
theorem iH.fs {l : List Nat} {f : List (Nat × Nat)} {p s : Nat} {H : Nat → sN} {M' : q_M} (h : iH M t n p s H) (hf : q_fs l f M M') (o1 : (l.all (g_q 43) && f.all (fun p => g_q 43 p.1)) = true := by exact rfl) (o2 : (l.all (fun a => !(c_rng 68 237 a)) && f.all (fun q => !(c_rng 68 237 q.1))) = true := by exact rfl) (o3 : q_scr l f 271 28 = false := by exact rfl) (o4 : ∀ i, q_scr l f 286 i = false := by intro i; exact rfl) : iH M' t n p s H := by
  obtain ⟨⟨g, hJ⟩, hR, hH, hb⟩ := h
  exact ⟨⟨g.fs hf (g_o.of o1), hJ⟩, hR.fs hf o2, hH.eq (hf 271 28 o3).1 (hf.c1 286 o4), hb⟩
theorem i_tape.xx (it : i_tape M) : ∃ x len, g_tx M x len ∧ g_ty M x len ∧ M.1 271 1 = nI len := by
  obtain ⟨len, hl, ⟨t1, t2, t3⟩, tb⟩ := it
  obtain ⟨x, hx⟩ : ∃ x : Nat → Nat, ∀ i, i < len → M.1 4 i = nI (x i) ∧ x i < 256 := ⟨fun i => (M.1 4 i).toInt.toNat, fun i hi => by
    obtain ⟨b, hb, e⟩ := tb i hi
    have e2 : (M.1 4 i).toInt.toNat = b := by
      rw [e, z_nat, z_toInt (by omega)]
      omega
    show M.1 4 i = nI ((M.1 4 i).toInt.toNat) ∧ (M.1 4 i).toInt.toNat < 256
    rw [e2]
    exact ⟨e, hb⟩⟩
  exact ⟨x, len, ⟨t1, hl, hx⟩, ⟨hl, fun i hi => ⟨(t3 i hi).symm.trans (hx i hi).1, (hx i hi).2⟩⟩, t2⟩
theorem g_tx.TT (g : g_tx M x len) : ∃ tok T, g_T x len tok T := by
  obtain ⟨tok, ht⟩ := tok_ex (x := x) (len := len)
  obtain ⟨T, h1, h2, h3⟩ := tkT_ex (x := x) (len := len)
  exact ⟨tok, T, ⟨g.2.1, fun i hi => (g.2.2 i hi).2⟩, ht, h1, h2, h3⟩
/-- the reference has cut its text -/
theorem g_sp.rt {M' : q_M} {T' : Nat} (hT : g_T x len tok T) (go : g_ow M) (h : g_sp M M' x len T') (h1 : tkS x len T' = len) (h2 : M'.1 273 T' = Int32.ofInt 0) (h3 : M'.1 274 T' = nI len) : g_rt M' x len tok T 0 := by
  obtain ⟨hf, e7, e1, e8, e9, e10, hk⟩ := h
  obtain rfl := hT.un h1 (fun k hk' => (hk k hk').1)
  refine ⟨⟨hT, fun k hk => (hf.p2 278 k).trans (go k hk), fun k hk' => ?_⟩, Nat.zero_le _, e8, e9, e10⟩
  by_cases q : k = T'
  · subst q
    rw [hT.fin]
    exact ⟨by rw [h3, h1], fun _ => h2, fun z => absurd z (show ¬ 0 = 1 by decide), fun z => absurd z (show ¬ 0 = 2 by decide), fun z => absurd z (show ¬ 0 = 3 by decide), fun z => absurd z (show ¬ 0 = 4 by decide), fun z => absurd z (show ¬ 0 = 5 by decide)⟩
  · exact g_rk.kR hT (by omega) (hk k (by omega)).2
theorem scX.un {N i k j k' j' : Nat} (h : scX t x len tok N i k j) (h' : scX t x len tok N i k' j') : k = k' ∧ j = j' := by
  obtain ⟨-, h⟩ := h
  obtain ⟨-, h'⟩ := h'
  rcases h with ⟨a1, a2, a3⟩ | ⟨a1, a2, a3, a4⟩ | ⟨a1, a2, a3⟩
  · rcases h' with ⟨b1, b2, b3⟩ | ⟨b1, b2, b3, b4⟩ | ⟨b1, b2, b3⟩
    · exact ⟨by omega, by omega⟩
    · exact absurd b1 a1
    · exact absurd b1 a1
  · rcases h' with ⟨b1, b2, b3⟩ | ⟨b1, b2, b3, b4⟩ | ⟨b1, b2, b3⟩
    · exact absurd a1 b1
    · exact ⟨by omega, by omega⟩
    · omega
  · rcases h' with ⟨b1, b2, b3⟩ | ⟨b1, b2, b3, b4⟩ | ⟨b1, b2, b3⟩
    · exact absurd a1 b1
    · omega
    · rw [a3] at b3
      cases b3
      exact ⟨rfl, rfl⟩
abbrev fSq : List (Nat × Nat) := [(271, 1), (271, 7), (271, 8), (271, 9), (271, 10), (271, 11), (271, 12), (271, 29), (271, 45)]
abbrev lSq : List Nat := [273, 274, 275, 276, 277, 295, 296, 297, 298]
-- the reference reads a SCRIPT as the class did
set_option maxRecDepth 100000 in
set_option maxHeartbeats 4000000 in
theorem k_scrRead {N : Nat} {a V Tm : Nat → Nat} (hT : g_T x len tok T) (gy : g_ty M x len) (h71 : M.1 271 1 = nI len) (go : g_ow M) (h60 : N ≤ 60) (ac : acS t x len tok N a V Tm) (h4 : M.1 280 4 = nI (t 8 0)) (h6 : t 8 0 ≤ 6) (nm : ∀ e, e < t 8 0 → nmO t (10 + e) ∧ M.2 282 (10 + e) = Int64.ofInt (n8 t (10 + e) : Nat)) (h1 : (tok (a N)).1 = 0 → ∀ M', q_fs lSq fSq M M' → mmR M' tok N a V Tm → M'.1 271 45 = nI N → M'.1 271 1 = Int32.ofInt 0 → M'.1 271 11 = Int32.ofInt 0 → M'.1 271 12 = Int32.ofInt (-1) → M'.1 271 29 = Int32.ofInt (-1) → q_C q_mt (L, xs, q_shp) E nX12_laysAside (d + 7) 0 0 [.ref 271] M' (fun v M'' => v = none ∧ ∀ l3, q_G q_mt (L, xs, q_shp) E nX12_script (d + 8) 0 0 (q_Q (L, xs, q_shp) E Q) 57 [some (.ref 271), some (.int (nI 0)), some (.int (nI 0)), l3] [] M'')) (h0 : ∀ k j, scX t x len tok N (a N) k j → ∀ M', q_fs lSq fSq M M' → M'.1 271 1 = Int32.ofInt 0 → M'.1 271 11 = nI k → M'.1 271 12 = nI (tkS x len j) → M'.1 271 29 = Int32.ofInt (-1) → Q (some (.int (Int32.ofInt (-1)))) M') (hend : (tok (a N)).1 = 0 ∨ ∃ k j, scX t x len tok N (a N) k j) : q_C q_mt (L, xs, q_shp) E nX12_script (d + 8) 0 0 [.ref 271] M Q := by
  have main : ∀ r k M', k + r = N → q_fs lSq fSq M M' → g_rt M' x len tok T (a k) → mmR M' tok k a V Tm → M'.1 271 45 = nI k → M'.1 271 1 = Int32.ofInt 0 → M'.1 271 29 = Int32.ofInt (-1) → ∀ l1 l2 l3, q_G q_mt (L, xs, q_shp) E nX12_script (d + 8) 0 0 (q_Q (L, xs, q_shp) E Q) 14 [some (.ref 271), l1, l2, l3] [] M' := by
    intro r
    induction r with
    | zero =>
      intro k M' hk hf g mr e45 e1 e29 l1 l2 l3
      obtain rfl : k = N := by omega
      have i12 := g.i12
      obtain ⟨b, b4, eb, _, b0, _⟩ := kR.a g.tt g.k
      have nm' : ∀ e, e < t 8 0 → nmO t (10 + e) ∧ M'.2 282 (10 + e) = Int64.ofInt (n8 t (10 + e) : Nat) := fun e he => ⟨(nm e he).1, (hf.p2 282 _).trans (nm e he).2⟩
      refine w_at 90 [14, 57, 67] ?_
      refine k_isFine1 g.2.2.2.1 (br_f (by decide) ?_)
      refine ⟨_, g.2.2.1, ?_⟩
      refine ⟨a k, _, by (first | assumption | (simp only [z_nat, z_lit, ← Int32.ofInt_add, ← Int32.ofInt_sub, ← Int32.ofInt_mul]; exact congrArg Int32.ofInt (by omega)) | (simp only [z_nat, z_lit, ← Int32.ofInt_add, ← Int32.ofInt_sub, ← Int32.ofInt_mul]; done) | exact congrArg Int32.ofInt (by omega) | rfl), by (dsimp only; omega), eb, ?_⟩
      refine z_eq b 0 (fun z => ?_) (fun z => ?_)
      · have z := b0.mp z
        refine w_in 90 [] ?_
        refine ⟨_, g.2.2.2.1, ?_⟩
        refine ⟨_, rfl, ?_⟩
        refine ⟨_, g.2.2.2.2, ?_⟩
        refine ⟨_, rfl, ?_⟩
        have hf2 : q_fs [] [(271, 11), (271, 12)] M' (q_si (q_si M' 271 11 (Int32.ofInt 0)) 271 12 (Int32.ofInt (-1))) := q_fs.rf.s1.s1
        refine k_isFine1 ((hf2.p1 271 9).trans g.2.2.2.1) ⟨z_1, bn_t (by decide) ?_⟩
        refine (h1 z _ (hf.s1.s1) (mr.fs hf2) ((hf2.p1 271 45).trans e45) ((hf2.p1 271 1).trans e1) rfl rfl ((hf2.p1 271 29).trans e29)).mono (fun v M'' h => ?_)
        obtain ⟨rfl, h⟩ := h
        exact h _
      · have z : ¬ (tok (a k)).1 = 0 := fun y => z (b0.mpr y)
        obtain ⟨kk, jj, hx⟩ := hend.resolve_left z
        refine k_readsAct g e45 h60 ((hf.p1 280 4).trans h4) h6 nm' (fun v m j M2 hA s60 ea hf2 g2 _ _ _ _ => ?_) (fun k' j' M2 hsx hf2 g2 => ?_)
        · exfalso
          rcases hx.2 with ⟨y1, y2, y3⟩ | ⟨y1, y2, y3, y4⟩ | ⟨y1, y2, y3⟩
          · exact y1 hA
          · omega
          · rw [ea] at y3
            cases y3
        · obtain ⟨rfl, rfl⟩ := (hsx z).un hx
          refine w_at 90 [14, 57, 67] ?_
          refine k_isFine0 g2.2.2.2.1 g2.2.1 (br_t (by decide) ?_)
          refine w_in 90 [] ?_
          refine ⟨_, g2.2.2.2.1, ?_⟩
          refine ⟨_, rfl, ?_⟩
          refine ⟨_, g2.2.2.2.2, ?_⟩
          refine ⟨_, rfl, ?_⟩
          have hf3 : q_fs [] [(271, 11), (271, 12)] M2 (q_si (q_si M2 271 11 (nI k')) 271 12 (nI (tkS x len j'))) := q_fs.rf.s1.s1
          have f2 : q_fs lSq fSq M M2 := hf.tr hf2.mono
          refine k_isFine0 ((hf3.p1 271 9).trans g2.2.2.2.1) g2.2.1 ⟨z_0, bn_f rfl ⟨_, rfl, ?_⟩⟩
          exact h0 k' j' hx _ f2.s1.s1 ((hf3.p1 271 1).trans ((hf2.p1 271 1).trans e1)) rfl rfl ((hf3.p1 271 29).trans ((hf2.p1 271 29).trans e29))
    | succ r ih =>
      intro k M' hk hf g mr e45 e1 e29 l1 l2 l3
      have hkN : k < N := by omega
      obtain ⟨hA, ea⟩ := ac.2 k hkN
      have i12 := g.i12
      obtain ⟨b, b4, eb, _, b0, _⟩ := kR.a g.tt g.k
      have nm' : ∀ e, e < t 8 0 → nmO t (10 + e) ∧ M'.2 282 (10 + e) = Int64.ofInt (n8 t (10 + e) : Nat) := fun e he => ⟨(nm e he).1, (hf.p2 282 _).trans (nm e he).2⟩
      refine w_at 90 [14, 57, 67] ?_
      refine k_isFine1 g.2.2.2.1 (br_f (by decide) ?_)
      refine ⟨_, g.2.2.1, ?_⟩
      refine ⟨a k, _, by (first | assumption | (simp only [z_nat, z_lit, ← Int32.ofInt_add, ← Int32.ofInt_sub, ← Int32.ofInt_mul]; exact congrArg Int32.ofInt (by omega)) | (simp only [z_nat, z_lit, ← Int32.ofInt_add, ← Int32.ofInt_sub, ← Int32.ofInt_mul]; done) | exact congrArg Int32.ofInt (by omega) | rfl), by (dsimp only; omega), eb, ?_⟩
      refine z_eq b 0 (fun z => by have := b0.mp z; have := hA.1; omega) (fun z => ?_)
      refine k_readsAct g e45 (by omega) ((hf.p1 280 4).trans h4) h6 nm' (fun v m j M2 _ _ ea' hf2 g2 e45' lo ne em => ?_) (fun k' j' M2 hsx hf2 g2 => ?_)
      · rw [ea] at ea'
        cases ea'
        refine ih (k + 1) M2 (by omega) (hf.tr hf2.mono) g2 (fun q hq => ?_) e45' ((hf2.p1 271 1).trans e1) ((hf2.p1 271 29).trans e29) _ _ _
        by_cases w : q = k
        · subst w
          exact ⟨ne, em⟩
        · have l := lo.1 q (by omega)
          obtain ⟨⟨c1, c2, c3⟩, c4⟩ := mr q (by omega)
          exact ⟨⟨l.1.trans c1, l.2.1.trans c2, fun y p hp => (lo.2 _ (by have := ((ac.ok (k := q) (by omega)).1.2.1 y).1; omega)).trans (c3 y p hp)⟩, l.2.2.trans c4⟩
      · exfalso
        rcases (hsx (by rw [hA.1]; decide)).2 with ⟨y1, y2, y3⟩ | ⟨y1, y2, y3, y4⟩ | ⟨y1, y2, y3⟩
        · exact y1 hA
        · omega
        · rw [ea] at y3
          cases y3
  refine w_in 90 [14, 57, 67] ?_
  refine k_splits gy h71 (fun M1 T' hT' hsp hl e3 e4 => ?_)
  have g1 := g_sp.rt hT go hsp hl e3 e4
  refine ⟨_, rfl, ?_⟩
  refine ⟨_, rfl, ?_⟩
  have hf2 : q_fs [] [(271, 45), (271, 29)] M1 (q_si (q_si M1 271 45 (Int32.ofInt 0)) 271 29 (Int32.ofInt (-1))) := q_fs.rf.s1.s1
  refine main N 0 _ (by omega) (hsp.1.mono.s1.s1) (by rw [ac.1]; exact g1.fs hf2) (fun q hq => by omega) rfl ((hf2.p1 271 1).trans hsp.2.2.1) rfl _ _ _
-- both sides hold the same of faults
set_option maxRecDepth 100000 in
set_option maxHeartbeats 4000000 in
theorem o_script {p s : Nat} {H : Nat → sN} (h : iH M t n p s H) (it : i_tape M) (gl : g_lx M) (go : g_ow M) (nm : g_nm M t) (hP : ∀ M' m p' s' H', iH M' t m p' s' H' → q_fZ M M' → M'.1 3 2 = Int32.ofInt 0 → M'.1 271 1 = Int32.ofInt 0 → i_fault M' → P M') : zOp L xs E nX11_script nX12_script (d + 26) [] M P := by
  obtain ⟨x, len, gx, gy, h71⟩ := it.xx
  obtain ⟨tok, T, hT⟩ := gx.TT
  have g := h.1.1
  have hJ := h.1.2
  have hR := h.2.1
  have h6 := g.R.e6
  have n5 : ∀ e, e < t 8 0 → nmO t (10 + e) ∧ M.2 12 e = Int64.ofInt (n5 t (10 + e) : Nat) := fun e he => ⟨(nm.2 e he).1, (nm.2 e he).2.1⟩
  have n8 : ∀ M', q_fZ M M' → ∀ e, e < t 8 0 → nmO t (10 + e) ∧ M'.2 282 (10 + e) = Int64.ofInt (n8 t (10 + e) : Nat) := fun M' hz e he => ⟨(nm.2 e he).1, (hz 282 (10 + e) rfl).2.trans (nm.2 e he).2.2⟩
  have gyZ : ∀ M', q_fZ M M' → g_ty M' x len := fun M' hz => ⟨gy.1, fun i hi => ⟨(hz 272 i rfl).1.trans (gy.2 i hi).1, (gy.2 i hi).2⟩⟩
  have goZ : ∀ M', q_fZ M M' → g_ow M' := fun M' hz k hk => (hz 278 k rfl).2.trans (go k hk)
  have h4Z : ∀ M', q_fZ M M' → M'.1 280 4 = nI (t 8 0) := fun M' hz => (hz 280 4 rfl).1.trans g.R.R4
  have hf0 : q_fs [] [(2, 16)] M (q_si M 2 16 (Int32.ofInt (-1))) := q_fs.rf.s1
  refine w_in 90 [] ?_
  refine ⟨_, rfl, ?_⟩
  refine k2_readAll7 hT (gx.fs hf0) (gl.fs hf0) ((hf0.p1 6 9).trans g.eN) h6 (fun e he => ⟨(n5 e he).1, (hf0.p2 12 e).trans (n5 e he).2⟩) (fun N a M1 hN hc hfin hf1 e7 e37 e38 => ?_) (fun N a M0 M1 k j hN hc haT hx hf1 hcf => ?_)
  · -- it was read
    obtain ⟨V, Tm, ac, mc⟩ := hc.ex
    obtain ⟨F, hF⟩ := isF2_ex (t := t) ac g.R.2.1
    refine w_in 90 [] ?_
    refine ⟨_, e37, ?_⟩
    refine ⟨_, rfl, ?_⟩
    refine ⟨_, e38, ?_⟩
    refine ⟨_, rfl, ?_⟩
    refine ⟨_, rfl, ?_⟩
    have hf2 : q_fs [252, 253, 254, 255] [(2, 14), (2, 15), (2, 16), (3, 2), (3, 3), (3, 4), (3, 5), (3, 6), (3, 7), (3, 8), (3, 9), (3, 10), (251, 7)] M (q_si (q_si (q_si M1 2 14 (Int32.ofInt 0)) 2 15 (Int32.ofInt (-1))) 3 2 (Int32.ofInt 0)) := (hf0.mono.tr hf1.mono).s1.s1.s1
    have hf12 : q_fs [] [(2, 14), (2, 15), (3, 2)] M1 (q_si (q_si (q_si M1 2 14 (Int32.ofInt 0)) 2 15 (Int32.ofInt (-1))) 3 2 (Int32.ofInt 0)) := q_fs.rf.s1.s1.s1
    have e214 : (q_si (q_si (q_si M1 2 14 (Int32.ofInt 0)) 2 15 (Int32.ofInt (-1))) 3 2 (Int32.ofInt 0)).1 2 14 = Int32.ofInt 0 := rfl
    have e215 : (q_si (q_si (q_si M1 2 14 (Int32.ofInt 0)) 2 15 (Int32.ofInt (-1))) 3 2 (Int32.ofInt 0)).1 2 15 = Int32.ofInt (-1) := rfl
    have e216 : (q_si (q_si (q_si M1 2 14 (Int32.ofInt 0)) 2 15 (Int32.ofInt (-1))) 3 2 (Int32.ofInt 0)).1 2 16 = Int32.ofInt (-1) := (hf12.p1 2 16).trans ((hf1.p1 2 16).trans q_si_s)
    have e32 : (q_si (q_si (q_si M1 2 14 (Int32.ofInt 0)) 2 15 (Int32.ofInt (-1))) 3 2 (Int32.ofInt 0)).1 3 2 = Int32.ofInt 0 := rfl
    have mc2 := mc.fs hf12
    have e72 := (hf12.p1 251 7).trans e7
    revert hf2 e214 e215 e216 e32 mc2 e72
    clear hf12
    generalize q_si (q_si (q_si M1 2 14 (Int32.ofInt 0)) 2 15 (Int32.ofInt (-1))) 3 2 (Int32.ofInt 0) = M2
    intro hf2 e214 e215 e216 e32 mc2 e72
    refine bn_t (by decide) ?_
    have h2 : iH M2 t n p s H := h.fs hf2
    have z2 : q_fZ M M2 := hf2.fZ
    have hR2 := h2.2.1
    have hp21 : p < 21 := hR2.1
    have g2 := h2.1.1
    refine k2_note p hR2.2.2.1 hR2.1 (fun M3 hf3 he3 => ?_)
    have g3 := g2.rg hf3 hR2.1
    have z3 : q_fZ M M3 := z2.tr (rg_fZ hf3 hR2.1)
    have r3 : ∀ r i, r < 70 → M3.1 r i = M2.1 r i := fun r i hr => by rw [hf3.c1 r (fun i => rg_scr (by omega))]
    have r3' : ∀ r i, 238 ≤ r → M3.1 r i = M2.1 r i := fun r i hr => by rw [hf3.c1 r (fun i => rg_scr (by omega))]
    have mc3 : mmC M3 tok N a V Tm := fun k hk => ⟨⟨(r3' 252 k (by omega)).trans (mc2 k hk).1.1, (r3' 253 k (by omega)).trans (mc2 k hk).1.2.1, fun z p hp => (r3' 255 _ (by omega)).trans ((mc2 k hk).1.2.2 z p hp)⟩, (r3' 254 k (by omega)).trans (mc2 k hk).2⟩
    have sb := smT_b (Tm := Tm) (k := N) (fun i hi => (ac.ok hi).2.2)
    have s0 : 0 < N → 0 < fb_sm Tm N := fun z => by
      obtain ⟨k', rfl⟩ : ∃ k', N = k' + 1 := ⟨N - 1, by omega⟩
      rw [fb_sm_succ]
      have := (ac.ok (k := k') (by omega)).2.1
      omega
    refine k2_runAll g3.Z hJ ((r3' 251 7 (by omega)).trans e72) hN ac mc3 hF (fun m M4 er hf4 g4 hJm => ?_) (fun k M4 er hkN hf4 => ?_)
    · -- all were done
      have z4 : q_fZ M M4 := z3.tr hf4.fo.fZ
      refine z_le 0 ((fb_sm Tm N : Nat) : Int) (fun _ => ?_) (fun z => by omega)
      by_cases q : N = 0
      · -- there were none
        subst q
        have em : m = n := by
          have er : (Sum.inr n : Nat ⊕ sN) = .inr m := er
          cases er
          rfl
        subst em
        refine z_le ((fb_sm Tm 0 : Nat) : Int) 0 (fun _ => ⟨_, rfl, _, rfl, ?_⟩) (fun z => absurd (show (0 : Int) < 0 from z) (by decide))
        have hH4 : g_H M4 s H := h2.2.2.1.eq (by rw [hf4.c1 271]; exact r3' 271 28 (by omega)) (by rw [hf4.c1 286]; exact funext fun i => r3' 286 i (by omega))
        have i4 : iH M4 t m p s H := ⟨⟨⟨g3.R.fs hf4, g4.C, g4.S⟩, hJ⟩, (hR2.nt hf3).fs hf4, hH4, h2.2.2.2⟩
        have e24 : ∀ i, M4.1 2 i = M2.1 2 i := fun i => by rw [hf4.c1 2]; exact r3 2 i (by omega)
        have e34 : M4.1 3 2 = Int32.ofInt 0 := by rw [hf4.c1 3, r3 3 2 (by omega)]; exact e32
        refine k_scrRead hT (gyZ M4 z4) (by rw [hf4.c1 271, r3' 271 1 (by omega)]; exact (hf2.p1 271 1).trans h71) (goZ M4 z4) hN ac (h4Z M4 z4) h6 (n8 M4 z4) (fun _ M5 hf5 mr5 f45 f1 f11 f12 f29 => ?_) (fun k j hx => absurd hfin hx.1) (Or.inl hfin)
        refine k_laysAside (fun M6 hf6 hm6 => ⟨rfl, fun l3 => ?_⟩)
        have i6 : iH M6 t m p s H := (i4.fs hf5).fs hf6
        have hrow : ∀ k, k < 634 → M6.1 285 k = Int32.ofInt (m k) := fun k hk => (hm6 k hk).trans ((i4.fs hf5).1.1.R.at hk)
        refine k_runs (d := d + 11) i6.1.1.R hJ ((hf6.p1 271 45).trans f45) hN ac (mr5.fs hf6) hF hrow i6.2.2.1 (fun m' M7 er' hf7 g7 hJ7 _ => ⟨rfl, ?_⟩) (fun _ _ _ _ _ _ _ z => absurd z (by decide)) (fun k M7 er' hk => absurd hk (Nat.not_lt_zero _)) _ _ _ rfl rfl
        have em : m' = m := by
          have er' : (Sum.inr m : Nat ⊕ sN) = .inr m' := er'
          cases er'
          rfl
        subst em
        refine hP M7 m' p s H ⟨⟨⟨g7, (i6.1.1.Z.f2 hf7).C, (i6.1.1.Z.f2 hf7).S⟩, hJ⟩, i6.2.1.fs hf7, i6.2.2.1.eq (hf7.p1 271 28) (hf7.c1 286), i6.2.2.2⟩ (((z4.tr hf5.fZ).tr hf6.fZ).tr hf7.fZ) ?_ ?_ ⟨?_, ?_, ?_⟩
        · exact (hf7.p1 3 2).trans ((hf6.p1 3 2).trans ((hf5.p1 3 2).trans e34))
        · exact (hf7.p1 271 1).trans ((hf6.p1 271 1).trans f1)
        · rw [(hf7.p1 2 14).trans ((hf6.p1 2 14).trans (hf5.p1 2 14)), e24, e214, (hf7.p1 271 11).trans (hf6.p1 271 11), f11]
        · rw [(hf7.p1 2 15).trans ((hf6.p1 2 15).trans (hf5.p1 2 15)), e24, e215, (hf7.p1 271 12).trans (hf6.p1 271 12), f12]
        · rw [(hf7.p1 2 16).trans ((hf6.p1 2 16).trans (hf5.p1 2 16)), e24, e216, (hf7.p1 271 29).trans (hf6.p1 271 29), f29]
      · have s0 := s0 (by omega)
        refine z_le ((fb_sm Tm N : Nat) : Int) 0 (fun z => by omega) (fun _ => ?_)
        have g68 : ∀ i, M4.1 68 i = M2.1 68 i := fun i => by rw [hf4.c1 68]; exact r3 68 i (by omega)
        refine k2_commit p s ((g68 1).trans hR2.2.2.1) ((g68 2).trans hR2.2.2.2.1) hR2.1 hR2.2.1 ⟨_, rfl, _, rfl, ?_⟩
        obtain ⟨⟨x1, x2, x3⟩, x4, x5⟩ := act_c h2 hf3 he3 hf4 g4
        revert x1 x2 x3 x4 x5
        have e2c : ∀ i, (q_si (q_si M4 68 1 (nI ((p + 1) % 21))) 68 2 (nI (min 20 (s + 1)))).1 2 i = M2.1 2 i := fun i => (q_si_nn (by omega)).trans ((q_si_nn (by omega)).trans (by rw [hf4.c1 2]; exact r3 2 i (by omega)))
        have e3c : (q_si (q_si M4 68 1 (nI ((p + 1) % 21))) 68 2 (nI (min 20 (s + 1)))).1 3 2 = Int32.ofInt 0 := by
          show M4.1 3 2 = _
          rw [hf4.c1 3, r3 3 2 (by omega)]
          exact e32
        have e71c : (q_si (q_si M4 68 1 (nI ((p + 1) % 21))) 68 2 (nI (min 20 (s + 1)))).1 271 1 = nI len := by
          show M4.1 271 1 = _
          rw [hf4.c1 271, r3' 271 1 (by omega)]
          exact (hf2.p1 271 1).trans h71
        revert e2c e3c e71c
        generalize q_si (q_si M4 68 1 (nI ((p + 1) % 21))) 68 2 (nI (min 20 (s + 1))) = Mc
        intro e2c e3c e71c x1 x2 x3 x4 x5
        have zc : q_fZ M Mc := z2.tr x2.fZ
        refine k_scrRead hT (gyZ Mc zc) e71c (goZ Mc zc) hN ac (h4Z Mc zc) h6 (n8 Mc zc) (fun _ M5 hf5 mr5 f45 f1 f11 f12 f29 => ?_) (fun k j hx => absurd hfin hx.1) (Or.inl hfin)
        have g5 : g_R M5 t n := x1.fs hf5
        have h5 : g_H M5 s H := x3.eq (hf5.p1 271 28) (hf5.c1 286)
        refine k_laysAside (fun M6 hf6 hm6 => ⟨rfl, fun l3 => ?_⟩)
        have hrow : ∀ k, k < 634 → M6.1 285 k = Int32.ofInt (n k) := fun k hk => (hm6 k hk).trans (g5.at hk)
        refine k_runs (d := d + 11) (g5.fs hf6) hJ ((hf6.p1 271 45).trans f45) hN ac (mr5.fs hf6) hF hrow (h5.eq (hf6.p1 271 28) (hf6.c1 286)) (fun _ _ _ _ _ _ z => absurd z q) (fun m' M7 M8 er' hf7 g7 hJ7 _ hf8 hH8 => ⟨rfl, ?_⟩) (fun k M7 er' hk => by rw [er] at er'; cases er') _ _ _ rfl rfl
        rw [er] at er'
        cases er'
        obtain ⟨i8, fo8⟩ := act_r (M := M5) hR2.2.1 hJ h2.2.2.2 hJm (fun _ _ _ => ⟨rfl, rfl⟩) (x4.f2 hf5) (x5.fs hf5) hf6 hf7 g7 hf8 hH8
        have k2 : ∀ i, M8.1 2 i = M2.1 2 i := fun i => (hf8.p1 2 i).trans ((hf7.p1 2 i).trans ((hf6.p1 2 i).trans ((hf5.p1 2 i).trans (e2c i))))
        refine hP M8 _ _ _ _ i8 ((zc.tr hf5.fZ).tr fo8.fZ) ?_ ?_ ⟨?_, ?_, ?_⟩
        · exact (hf8.p1 3 2).trans ((hf7.p1 3 2).trans ((hf6.p1 3 2).trans ((hf5.p1 3 2).trans e3c)))
        · exact (hf8.p1 271 1).trans ((hf7.p1 271 1).trans ((hf6.p1 271 1).trans f1))
        · rw [k2, e214, (hf8.p1 271 11).trans ((hf7.p1 271 11).trans (hf6.p1 271 11)), f11]
        · rw [k2, e215, (hf8.p1 271 12).trans ((hf7.p1 271 12).trans (hf6.p1 271 12)), f12]
        · rw [k2, e216, (hf8.p1 271 29).trans ((hf7.p1 271 29).trans (hf6.p1 271 29)), f29]
    · -- one could not be done
      refine z_le 0 (-1) (fun z => by omega) (fun _ => ?_)
      have e58 : (q_si M4 251 8 (nI k)).1 251 8 = nI k := q_si_s
      refine ⟨_, e58, ?_⟩
      refine ⟨_, rfl, ?_⟩
      have hf5 : q_fs [] [(251, 8), (2, 16)] M4 (q_si (q_si M4 251 8 (nI k)) 2 16 (nI k)) := q_fs.rf.s1.s1
      have e68 : (q_si (q_si M4 251 8 (nI k)) 2 16 (nI k)).1 68 1 = nI p := by
        rw [hf5.c1 68, hf4.c1 68, r3 68 1 (by omega)]
        exact hR2.2.2.1
      refine k2_restore p e68 hR2.1 (fun M6 hf6 he6 => ⟨_, rfl, _, rfl, ?_⟩)
      have gn : g_S (70 + 8 * p) M3 t n := g2.S.cp he3
      have out : ∀ r, 70 ≤ r → r < 238 → (q_si (q_si M4 251 8 (nI k)) 2 16 (nI k)).1 r = M3.1 r := fun r h1 h2 => (hf5.c1 r (q_out (p := c_rng 70 237) rfl (c_rng.i h1 (by omega)))).trans (hf4.c1 r (q_out (p := c_rng 70 237) rfl (c_rng.i h1 (by omega))))
      have gn5 : g_S (70 + 8 * p) (q_si (q_si M4 251 8 (nI k)) 2 16 (nI k)) t n := gn.eq (out _ (by omega) (by omega)) (out _ (by omega) (by omega)) (out _ (by omega) (by omega)) (out _ (by omega) (by omega)) (out _ (by omega) (by omega)) (out _ (by omega) (by omega)) (out _ (by omega) (by omega)) (out _ (by omega) (by omega))
      have gS6 : g_S 43 M6 t n := gn5.cp he6
      have gR6 : g_R M6 t n := ((g3.R.fs hf4).fs hf5).fs hf6
      have gC6 : r_C 6 M6 t := ((g3.C.fs hf4).fs hf5).fs hf6
      have hR6 : g_Rg M6 t p s H := (((hR2.nt hf3).fs hf4).fs hf5).fs hf6
      have hH6 : g_H M6 s H := h2.2.2.1.eq (by rw [hf6.c1 271, hf5.c1 271, hf4.c1 271]; exact r3' 271 28 (by omega)) (by rw [hf6.c1 286, hf5.c1 286, hf4.c1 286]; exact funext fun i => r3' 286 i (by omega))
      have i6 : iH M6 t n p s H := ⟨⟨⟨gR6, gC6, gS6⟩, hJ⟩, hR6, hH6, h2.2.2.2⟩
      have z6 : q_fZ M M6 := ((z3.tr hf4.fo.fZ).tr hf5.fZ).tr hf6.fo.fZ
      have e36 : M6.1 3 2 = Int32.ofInt 0 := by rw [hf6.c1 3, hf5.c1 3, hf4.c1 3, r3 3 2 (by omega)]; exact e32
      have k14 : M6.1 2 14 = Int32.ofInt 0 := by rw [hf6.c1 2, hf5.p1 2 14, hf4.c1 2, r3 2 14 (by omega)]; exact e214
      have k15 : M6.1 2 15 = Int32.ofInt (-1) := by rw [hf6.c1 2, hf5.p1 2 15, hf4.c1 2, r3 2 15 (by omega)]; exact e215
      have k16 : M6.1 2 16 = nI k := by rw [hf6.c1 2]; exact q_si_s
      refine k_scrRead hT (gyZ M6 z6) (by rw [hf6.c1 271, hf5.c1 271, hf4.c1 271, r3' 271 1 (by omega)]; exact (hf2.p1 271 1).trans h71) (goZ M6 z6) hN ac (h4Z M6 z6) h6 (n8 M6 z6) (fun _ M7 hf7 mr7 f45 f1 f11 f12 f29 => ?_) (fun k j hx => absurd hfin hx.1) (Or.inl hfin)
      refine k_laysAside (fun M8 hf8 hm8 => ⟨rfl, fun l3 => ?_⟩)
      have i8 : iH M8 t n p s H := (i6.fs hf7).fs hf8
      have hrow : ∀ k, k < 634 → M8.1 285 k = Int32.ofInt (n k) := fun k hk => (hm8 k hk).trans ((i6.fs hf7).1.1.R.at hk)
      refine k_runs (d := d + 11) i8.1.1.R hJ ((hf8.p1 271 45).trans f45) hN ac (mr7.fs hf8) hF hrow i8.2.2.1 (fun m' M9 er' => by rw [er] at er'; cases er') (fun m' M9 M10 er' => by rw [er] at er'; cases er') (fun k' M9 er' hk hf9 f29' r9 => ⟨rfl, ?_⟩) _ _ _ rfl rfl
      rw [er] at er'
      cases er'
      have gR9 : g_R M9 t n := ⟨by have := i8.1.1.R.1; unfold r_R at this ⊢; rw [hf9.c1 280]; exact this, i8.1.1.R.2.1, r9, i8.1.1.R.2.2.2⟩
      refine hP M9 n p s H ⟨⟨⟨gR9, i8.1.1.C.fs hf9, i8.1.1.S.fs hf9⟩, hJ⟩, i8.2.1.fs hf9, i8.2.2.1.eq (hf9.p1 271 28) (hf9.c1 286), i8.2.2.2⟩ (((z6.tr hf7.fZ).tr hf8.fZ).tr hf9.fZ) ?_ ?_ ⟨?_, ?_, ?_⟩
      · exact (hf9.p1 3 2).trans ((hf8.p1 3 2).trans ((hf7.p1 3 2).trans e36))
      · exact (hf9.p1 271 1).trans ((hf8.p1 271 1).trans f1)
      · rw [(hf9.p1 2 14).trans ((hf8.p1 2 14).trans (hf7.p1 2 14)), k14, (hf9.p1 271 11).trans (hf8.p1 271 11), f11]
      · rw [(hf9.p1 2 15).trans ((hf8.p1 2 15).trans (hf7.p1 2 15)), k15, (hf9.p1 271 12).trans (hf8.p1 271 12), f12]
      · rw [(hf9.p1 2 16).trans ((hf8.p1 2 16).trans (hf7.p1 2 16)), k16, f29']
  · -- it has a fault
    obtain ⟨V, Tm, ac, mc⟩ := hc.ex
    refine w_in 90 [] ?_
    refine ⟨_, hcf.1, ?_⟩
    refine ⟨_, rfl, ?_⟩
    refine ⟨_, hcf.2, ?_⟩
    refine ⟨_, rfl, ?_⟩
    refine ⟨_, rfl, ?_⟩
    have hf2 : q_fs [252, 253, 254, 255] [(2, 14), (2, 15), (2, 16), (3, 2), (3, 3), (3, 4), (3, 5), (3, 6), (3, 7), (3, 8), (3, 9), (3, 10), (251, 7)] M (q_si (q_si (q_si M1 2 14 (nI k)) 2 15 (nI (tkS x len j))) 3 2 (Int32.ofInt 0)) := (hf0.mono.tr hf1.mono).s1.s1.s1
    have hf12 : q_fs [] [(2, 14), (2, 15), (3, 2)] M1 (q_si (q_si (q_si M1 2 14 (nI k)) 2 15 (nI (tkS x len j))) 3 2 (Int32.ofInt 0)) := q_fs.rf.s1.s1.s1
    have e214 : (q_si (q_si (q_si M1 2 14 (nI k)) 2 15 (nI (tkS x len j))) 3 2 (Int32.ofInt 0)).1 2 14 = nI k := rfl
    have e215 : (q_si (q_si (q_si M1 2 14 (nI k)) 2 15 (nI (tkS x len j))) 3 2 (Int32.ofInt 0)).1 2 15 = nI (tkS x len j) := rfl
    have e216 : (q_si (q_si (q_si M1 2 14 (nI k)) 2 15 (nI (tkS x len j))) 3 2 (Int32.ofInt 0)).1 2 16 = Int32.ofInt (-1) := (hf12.p1 2 16).trans ((hf1.p1 2 16).trans q_si_s)
    have e32 : (q_si (q_si (q_si M1 2 14 (nI k)) 2 15 (nI (tkS x len j))) 3 2 (Int32.ofInt 0)).1 3 2 = Int32.ofInt 0 := rfl
    revert hf2 e214 e215 e216 e32
    clear hf12
    generalize q_si (q_si (q_si M1 2 14 (nI k)) 2 15 (nI (tkS x len j))) 3 2 (Int32.ofInt 0) = M2
    intro hf2 e214 e215 e216 e32
    refine bn_f rfl ⟨_, rfl, _, rfl, ?_⟩
    have z2 : q_fZ M M2 := hf2.fZ
    refine k_scrRead (d := d + 18) hT (gyZ M2 z2) ((hf2.p1 271 1).trans h71) (goZ M2 z2) hN ac (h4Z M2 z2) h6 (n8 M2 z2) (fun z => absurd z hx.1) (fun k' j' hx' M3 hf3 f1 f11 f12 f29 => ⟨rfl, ?_⟩) (Or.inr ⟨k, j, hx⟩)
    obtain ⟨rfl, rfl⟩ := hx.un hx'
    refine hP M3 n p s H ((h.fs hf2).fs hf3) (z2.tr hf3.fZ) ((hf3.p1 3 2).trans e32) f1 ⟨?_, ?_, ?_⟩
    · rw [hf3.p1 2 14, e214, f11]
    · rw [hf3.p1 2 15, e215, f12]
    · rw [hf3.p1 2 16, e216, f29]
end SO
