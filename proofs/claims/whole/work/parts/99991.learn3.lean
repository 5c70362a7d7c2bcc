/-! the class's counts of rows -/
def g_Mo (M : q_M) (t : q_T) : Prop := ∀ pr, pr < 2 → bt (M.1 244 8) pr = true → g_Mm M t pr
section L3
variable {L : Nat} {xs : Nat → Int32} {E : q_E} {d : Nat} {M : q_M} {t : q_T} {n : sN} {Q : Option Value → q_M → Prop} {P : q_M → Prop}
theorem g_Mm.eq {M' : q_M} {pr : Nat} (h : g_Mm M t pr) (hp : pr < 2) (h10 : t 5 0 ≤ 10) (e : ∀ i, 1024 * pr ≤ i → i < 1024 * pr + 1024 → M'.1 246 i = M.1 246 i ∧ M'.1 247 i = M.1 247 i) : g_Mm M' t pr := fun S hS hr => by
  have hpw := pw_b h10
  have a := h S hS hr
  have b := e (1024 * pr + S) (by omega) (by omega)
  rw [b.1, b.2]
  exact a
theorem g_Mo.fs {l : List Nat} {f : List (Nat × Nat)} {M' : q_M} (h : g_Mo M t) (h10 : t 5 0 ≤ 10) (hf : q_fs l f M M') (h0 : q_scr l f 244 8 = false := by exact rfl) (h1 : ∀ i, q_scr l f 246 i = false := by intro i; exact rfl) (h2 : ∀ i, q_scr l f 247 i = false := by intro i; exact rfl) : g_Mo M' t := fun pr hp hb => by
  rw [hf.p1 244 8 h0] at hb
  exact (h pr hp hb).eq hp h10 (fun i _ _ => ⟨(hf 246 i (h1 i)).1, (hf 247 i (h2 i)).1⟩)
theorem b_notset2 {x : Int32} {j i : Nat} (hj : j < 32) (hi : i < 32) (h : ¬ i = j) : bt (x ||| (Int32.ofInt 1 <<< (nI j &&& 31))) i = bt x i := (b_set hj hi).trans (by rw [decide_eq_false h, Bool.or_false])
set_option maxRecDepth 100000 in
set_option maxHeartbeats 4000000 in
theorem k2_learn (g : g_Z 43 M t n) (wl : g_W M t) (bl : b_L t) (hmo : g_Mo M t) {a : Int32} (pr : Nat) (hp : pr ≤ 1) (hQ : ∀ M', q_fs lT [(244, 8)] M M' → g_Mo M' t → g_Mm M' t pr → Q none M') (ha : a = nI pr := by (first | assumption | (simp only [z_nat, z_lit, ← Int32.ofInt_add, ← Int32.ofInt_sub, ← Int32.ofInt_mul]; exact congrArg Int32.ofInt (by omega)) | (simp only [z_nat, z_lit, ← Int32.ofInt_add, ← Int32.ofInt_sub, ← Int32.ofInt_mul]; done) | exact congrArg Int32.ofInt (by omega) | rfl)) : q_C q_mt (L, xs, q_shp) E nX10_learn (d + 5) 0 0 [.ref 244, .int (a)] M Q := by
  subst ha
  have h10 := g.R.d10
  have h6 := g.R.r6
  have hpw := pw_b h10
  have eb := b_at (x := M.1 244 8) (j := pr) (by omega)
  by_cases q : bt (M.1 244 8) pr = true
  · rw [if_pos q] at eb
    refine w_in 90 [53, 83] ?_
    refine ⟨_, rfl, ?_⟩
    exact z_ne 1 1 (fun z => absurd rfl z) (fun _ => hQ M q_fs.rf hmo (hmo pr (by omega) q)) (hx := eb)
  · rw [if_neg q] at eb
    refine w_in 90 [53, 83] ?_
    refine ⟨_, rfl, ?_⟩
    refine z_ne 0 1 (fun _ => ?_) (fun z => by omega) (hx := eb)
    refine ⟨_, rfl, ?_⟩
    refine ⟨_, rfl, ?_⟩
    have hf0 : q_fs lT [(244, 8)] M (q_si M 244 8 (M.1 244 8 ||| (Int32.ofInt 1 <<< (nI pr &&& 31)))) := q_fs.rf.s1
    have g0 := g.f3 hf0
    have w0 := wl.fs hf0
    refine ⟨_, g0.dN, ?_⟩
    refine k2_learnFits g0 w0 bl pr hp (fun M1 hf1 ho1 hC => ?_) (hc := sh_nI (t 5 0) (by omega))
    have g1 := g0.f3 hf1
    have f1 : q_fs lT [(244, 8)] M M1 := hf0.tr hf1.mono
    have k8 : ∀ i, i < 2 → ¬ i = pr → bt (M1.1 244 8) i = bt (M.1 244 8) i := fun i hi hne => by
      rw [hf1.p1 244 8, q_si_s]
      exact b_notset2 (by omega) (by omega) hne
    have es := sh_nI (t 5 0) (by omega)
    have orB : ∀ S x, S < 2 ^ t 5 0 → x < t 5 0 → S ||| 2 ^ x < 2 ^ t 5 0 := fun S x h1 h2 => or_b h1 h2
    have fin : ∀ M', q_fs [247] [] M1 M' → outT pr M1 M' → (∀ S, S < 2 ^ t 5 0 → rch' t pr S → M'.1 247 (1024 * pr + S) = nI (exN t pr aAll S)) → Q none M' := fun M' hf ho hA => by
      have mm : g_Mm M' t pr := fun S hS hr => ⟨fun x hx => by rw [hf.c1 246]; exact hC S hS hr x hx, hA S hS hr⟩
      refine hQ M' (f1.tr hf.mono) (fun p2 hp2 hb => ?_) mm
      by_cases z : p2 = pr
      · rw [z]
        exact mm
      · rw [hf.c1 244, k8 p2 hp2 z] at hb
        refine (hmo p2 hp2 hb).eq hp2 h10 (fun i h1 h2 => ?_)
        have o1 := ho1 i (by omega)
        have o2 := ho i (by omega)
        exact ⟨o2.1.trans o1.1, o2.2.trans o1.2⟩
    generalize hPw : 2 ^ t 5 0 = PW at *
    -- from the greatest set down
    have W := lp_m (W := fun k M' => ∀ b3 c3 v x y, b3 = nI (1024 * pr) → c3 = nI PW → v = Int32.ofInt ((PW : Int) - 1 - k) → q_G q_mt (L, xs, q_shp) E nX10_learn (d + 5) 0 0 (q_Q (L, xs, q_shp) E Q) 53 [some (.ref 244), some (.int (nI pr)), some (.int (b3)), some (.int (c3)), some (.int (v)), x, y] [] M') (J := fun k M' => q_fs [247] [] M1 M' ∧ outT pr M1 M' ∧ ∀ S, PW - k ≤ S → S < PW → rch' t pr S → M'.1 247 (1024 * pr + S) = nI (exN t pr aAll S)) PW ?_ ?_ 0 M1 (Nat.zero_le _) ⟨q_fs.rf, fun i _ => ⟨rfl, rfl⟩, fun S h1 h2 => by omega⟩
    · refine W _ _ _ _ _ (by (first | assumption | (simp only [z_nat, z_lit, ← Int32.ofInt_add, ← Int32.ofInt_sub, ← Int32.ofInt_mul]; exact congrArg Int32.ofInt (by omega)) | (simp only [z_nat, z_lit, ← Int32.ofInt_add, ← Int32.ofInt_sub, ← Int32.ofInt_mul]; done) | exact congrArg Int32.ofInt (by omega) | rfl)) es ?_
      refine (congrArg (fun z => z - Int32.ofInt 1) es).trans ?_
      rw [z_nat, ← Int32.ofInt_sub]
      exact congrArg Int32.ofInt (by omega)
    · rintro M' ⟨hf, ho, hA⟩ b3 c3 v x y rfl rfl rfl
      refine w_at 90 [53, 83] ?_
      exact z_lt ((PW : Int) - 1 - PW) 0 (fun _ => fin M' hf ho (fun S hS hr => hA S (by omega) hS hr)) (fun z => by omega)
    · rintro k M' hk ⟨hf, ho, hA⟩ ih b3 c3 v x y rfl rfl rfl
      obtain ⟨S, hSk⟩ : ∃ S : Nat, S + 1 + k = PW := ⟨PW - 1 - k, by omega⟩
      have hS : S < PW := by omega
      have ev : Int32.ofInt ((PW : Int) - 1 - k) = nI S := by
        rw [z_nat]
        exact congrArg Int32.ofInt (by omega)
      rw [ev]
      have g2 := g1.f3 hf
      have pc11 := fb_ct_le (fun j => S.testBit j) 11
      have ebc : bcF (nI S) = nI (fb_ct (fun j => S.testBit j) 11) := bc_ok (fun j hj => bt_S (by omega) hj)
      have I : ∀ base : Nat, base = (if (fb_ct (fun j => S.testBit j) 11) = t 0 0 then 1 else 0) → q_G q_mt (L, xs, q_shp) E nX10_learn (d + 5) 0 0 (q_Q (L, xs, q_shp) E Q) 83 [some (.ref 244), some (.int (nI pr)), some (.int (nI (1024 * pr))), some (.int (nI PW)), some (.int (nI S)), some (.int (nI base)), some (.int (Int32.ofInt 0))] [] M' := by
        intro base hbase
        have L := lp_up (W := fun i => ∀ u v, (rch' t pr S → u = nI (base + fb_sm (fun x => if bt (M1.1 246 (1024 * pr + S)) x = true then exN t pr aAll (S ||| 2 ^ x) else 0) i)) → v = nI i → q_G q_mt (L, xs, q_shp) E nX10_learn (d + 5) 0 0 (q_Q (L, xs, q_shp) E Q) 83 [some (.ref 244), some (.int (nI pr)), some (.int (nI (1024 * pr))), some (.int (nI PW)), some (.int (nI S)), some (.int (u)), some (.int (v))] [] M') (t 5 0) ?_ ?_ 0 (Nat.zero_le _)
        · exact L _ _ (fun _ => rfl) rfl
        · rintro u v hu rfl
          refine w_at 90 [53, 83] ?_
          refine ⟨_, g2.dN, ?_⟩
          refine z_le (t 5 0) (t 5 0) (fun _ => ?_) (fun z => by omega)
          refine ⟨1024 * pr + S, _, by (first | assumption | (simp only [z_nat, z_lit, ← Int32.ofInt_add, ← Int32.ofInt_sub, ← Int32.ofInt_mul]; exact congrArg Int32.ofInt (by omega)) | (simp only [z_nat, z_lit, ← Int32.ofInt_add, ← Int32.ofInt_sub, ← Int32.ofInt_mul]; done) | exact congrArg Int32.ofInt (by omega) | rfl), by (dsimp only; omega), rfl, ?_⟩
          refine ih _ ⟨hf.s1, fun i hi => ⟨by exact (ho i hi).1, by exact (q_si_n (by omega)).trans (ho i hi).2⟩, fun S' h1 h2 hr' => ?_⟩ _ _ _ _ _ rfl rfl ?_
          · by_cases z : S' = S
            · subst z
              rw [q_si_s, hu hr']
              refine congrArg nI ?_
              have hcc : ∀ x, x < t 5 0 → bt (M1.1 246 (1024 * pr + S')) x = (decide ((fb_ct (fun j => S'.testBit j) 11) < t 0 0) && cWy t pr aAll (fb_ct (fun j => S'.testBit j) 11) S' x) := fun x hx => hC S' h2 hr' x hx
              by_cases qN : (fb_ct (fun j => S'.testBit j) 11) < t 0 0
              · rw [hbase, if_neg (by omega), Nat.zero_add, exN_s qN (fun x hx hc => (rch_s h10 hr' qN hx hc).2)]
                refine fb_sm_cong (fun x hx => ?_)
                rw [hcc x hx, decide_eq_true qN, Bool.true_and]
              · have hle : (fb_ct (fun j => S'.testBit j) 11) ≤ t 0 0 := by
                  obtain ⟨row, kk, hkk, hdst, -, rfl⟩ := hr'
                  rw [stO_pc hdst (by omega)]
                  exact hkk
                have z0 : fb_sm (fun x => if bt (M1.1 246 (1024 * pr + S')) x = true then exN t pr aAll (S' ||| 2 ^ x) else 0) (t 5 0) = 0 := by
                  have : ∀ m, m ≤ t 5 0 → fb_sm (fun x => if bt (M1.1 246 (1024 * pr + S')) x = true then exN t pr aAll (S' ||| 2 ^ x) else 0) m = 0 := by
                    intro m
                    induction m with
                    | zero => intro _; rfl
                    | succ m im =>
                      intro hm
                      rw [fb_sm_succ, im (by omega), hcc m (by omega), decide_eq_false qN, Bool.false_and, if_neg (by decide)]
                  exact this _ (Nat.le_refl _)
                rw [z0, hbase, if_pos (by omega)]
                unfold exN
                rw [show t 0 0 - (fb_ct (fun j => S'.testBit j) 11) = 0 by omega]
                rfl
            · rw [q_si_n (by omega)]
              exact hA S' (by omega) h2 hr'
          · rw [z_nat, ← Int32.ofInt_add]
            exact congrArg Int32.ofInt (by omega)
        · rintro i hi ih2 u v hu rfl
          have e46 : M'.1 246 (1024 * pr + S) = M1.1 246 (1024 * pr + S) := by rw [hf.c1 246]
          have ebx := b_at (x := M1.1 246 (1024 * pr + S)) (j := i) (by omega)
          refine w_at 90 [53, 83] ?_
          refine ⟨_, g2.dN, ?_⟩
          refine z_le (t 5 0) (i : Int) (fun z => by omega) (fun _ => ?_)
          refine ⟨1024 * pr + S, _, by (first | assumption | (simp only [z_nat, z_lit, ← Int32.ofInt_add, ← Int32.ofInt_sub, ← Int32.ofInt_mul]; exact congrArg Int32.ofInt (by omega)) | (simp only [z_nat, z_lit, ← Int32.ofInt_add, ← Int32.ofInt_sub, ← Int32.ofInt_mul]; done) | exact congrArg Int32.ofInt (by omega) | rfl), by (dsimp only; omega), e46, ?_⟩
          by_cases qb : bt (M1.1 246 (1024 * pr + S)) i = true
          · rw [if_pos qb] at ebx
            refine z_ne 1 1 (fun z => absurd rfl z) (fun _ => ?_) (hx := ebx)
            have eo := or_nI (S := S) (d := i) (by omega) (by omega)
            have hob := orB S i hS hi
            refine ⟨1024 * pr + (S ||| 2 ^ i), _, (congrArg (fun z => nI (1024 * pr) + z) eo).trans (by (first | assumption | (simp only [z_nat, z_lit, ← Int32.ofInt_add, ← Int32.ofInt_sub, ← Int32.ofInt_mul]; exact congrArg Int32.ofInt (by omega)) | (simp only [z_nat, z_lit, ← Int32.ofInt_add, ← Int32.ofInt_sub, ← Int32.ofInt_mul]; done) | exact congrArg Int32.ofInt (by omega) | rfl)), by (dsimp only; omega), rfl, ?_⟩
            refine ih2 _ _ (fun hr => ?_) (by (first | assumption | (simp only [z_nat, z_lit, ← Int32.ofInt_add, ← Int32.ofInt_sub, ← Int32.ofInt_mul]; exact congrArg Int32.ofInt (by omega)) | (simp only [z_nat, z_lit, ← Int32.ofInt_add, ← Int32.ofInt_sub, ← Int32.ofInt_mul]; done) | exact congrArg Int32.ofInt (by omega) | rfl))
            have hcc := hC S hS hr i hi
            rw [qb] at hcc
            have hcc := hcc.symm
            rw [Bool.and_eq_true, decide_eq_true_eq] at hcc
            have rs := rch_s h10 hr hcc.1 hi hcc.2
            have hlt := or_lt (cWy_t.mp hcc.2).2.1
            rw [hu hr, hA (S ||| 2 ^ i) (by omega) hob rs.1, fb_sm_succ, if_pos qb, z_nat, z_nat, z_nat, ← Int32.ofInt_add]
            exact congrArg Int32.ofInt (by omega)
          · rw [if_neg qb] at ebx
            refine z_ne 0 1 (fun _ => ?_) (fun z => by omega) (hx := ebx)
            refine ih2 _ _ (fun hr => ?_) (by (first | assumption | (simp only [z_nat, z_lit, ← Int32.ofInt_add, ← Int32.ofInt_sub, ← Int32.ofInt_mul]; exact congrArg Int32.ofInt (by omega)) | (simp only [z_nat, z_lit, ← Int32.ofInt_add, ← Int32.ofInt_sub, ← Int32.ofInt_mul]; done) | exact congrArg Int32.ofInt (by omega) | rfl))
            rw [hu hr, fb_sm_succ, if_neg qb]
            rfl
      refine w_at 90 [53, 83] ?_
      refine z_lt (S : Int) 0 (fun z => by omega) (fun _ => ?_)
      refine p_bitCount ?_
      rw [ebc]
      refine ⟨_, g2.ro, ?_⟩
      refine z_ne (fb_ct (fun j => S.testBit j) 11) (t 0 0) (fun z => ?_) (fun z => ?_)
      · exact I 0 (by rw [if_neg (by omega)])
      · exact I 1 (by rw [if_pos (by omega)])
set_option maxRecDepth 100000 in
set_option maxHeartbeats 4000000 in
theorem k2_countRows (g : g_Z 43 M t n) (wl : g_W M t) (bl : b_L t) (hmo : g_Mo M t) {a : Int32} (e : Nat) (he : e < t 8 0) (hQ : ∀ M', q_fs lT [(244, 8)] M M' → g_Mo M' t → g_Mm M' t (t 9 e) → Q (some (.int (nI (exN t (t 9 e) aAll 0)))) M') (ha : a = nI e := by (first | assumption | (simp only [z_nat, z_lit, ← Int32.ofInt_add, ← Int32.ofInt_sub, ← Int32.ofInt_mul]; exact congrArg Int32.ofInt (by omega)) | (simp only [z_nat, z_lit, ← Int32.ofInt_add, ← Int32.ofInt_sub, ← Int32.ofInt_mul]; done) | exact congrArg Int32.ofInt (by omega) | rfl)) : q_C q_mt (L, xs, q_shp) E nX10_countRows (d + 6) 0 0 [.ref 244, .int (a)] M Q := by
  subst ha
  have e6 := g.R.e6
  have be := (g.R.be he).1
  refine w_in 90 [] ?_
  refine ⟨e, _, by (first | assumption | (simp only [z_nat, z_lit, ← Int32.ofInt_add, ← Int32.ofInt_sub, ← Int32.ofInt_mul]; exact congrArg Int32.ofInt (by omega)) | (simp only [z_nat, z_lit, ← Int32.ofInt_add, ← Int32.ofInt_sub, ← Int32.ofInt_mul]; done) | exact congrArg Int32.ofInt (by omega) | rfl), by (dsimp only; omega), (g.en he).1, ?_⟩
  refine k2_learn g wl bl hmo (t 9 e) be (fun M1 hf1 ho1 hm1 => ?_)
  have g1 := g.f3 hf1
  have z := (hm1 0 (Nat.pow_pos (by decide)) rch_0).2
  refine ⟨e, _, by (first | assumption | (simp only [z_nat, z_lit, ← Int32.ofInt_add, ← Int32.ofInt_sub, ← Int32.ofInt_mul]; exact congrArg Int32.ofInt (by omega)) | (simp only [z_nat, z_lit, ← Int32.ofInt_add, ← Int32.ofInt_sub, ← Int32.ofInt_mul]; done) | exact congrArg Int32.ofInt (by omega) | rfl), by (dsimp only; omega), (g1.en he).1, ?_⟩
  refine ⟨1024 * t 9 e + 0, _, by (first | assumption | (simp only [z_nat, z_lit, ← Int32.ofInt_add, ← Int32.ofInt_sub, ← Int32.ofInt_mul]; exact congrArg Int32.ofInt (by omega)) | (simp only [z_nat, z_lit, ← Int32.ofInt_add, ← Int32.ofInt_sub, ← Int32.ofInt_mul]; done) | exact congrArg Int32.ofInt (by omega) | rfl), by (dsimp only; omega), z, ?_⟩
  exact ⟨_, rfl, hQ M1 hf1 ho1 hm1⟩
end L3
