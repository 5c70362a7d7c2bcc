/-! the call sheet -/
def al8 (T : List Nat) : Prop := ∀ c, c ∈ T → c < 128
theorem al8.app {T L : List Nat} (h : al8 T) (h' : al8 L) : al8 (T ++ L) := fun c hc => (List.mem_append.mp hc).elim (h c) (h' c)
theorem al8_1 {c : Nat} (h : c < 128) : al8 [c] := fun x hx => by
  rw [List.mem_singleton] at hx
  omega
theorem al8_d {v : Nat} (h : v < 1100) : al8 (dgL v) := by
  rcases Nat.lt_or_ge v 10 with q | q
  · rw [dgL_1 q]
    exact al8_1 (by omega)
  rcases Nat.lt_or_ge v 100 with q2 | q2
  · rw [dgL_2 q q2]
    exact (al8_1 (by omega)).app (al8_1 (by omega))
  rcases Nat.lt_or_ge v 1000 with q3 | q3
  · rw [dgL_3 q2 q3]
    exact (al8_1 (by omega)).app ((al8_1 (by omega)).app (al8_1 (by omega)))
  · rw [dgL_4 q3]
    exact (al8_1 (by omega)).app ((al8_1 (by omega)).app ((al8_1 (by omega)).app (al8_1 (by omega))))
theorem al8_l {x : Nat → Nat} {k : Nat} (h : ∀ p, p < k → 97 ≤ x (0 + p) ∧ x (0 + p) ≤ 122) : al8 (ltT x k) := fun c hc => by
  obtain ⟨p, hp, rfl⟩ := List.mem_map.mp hc
  have := (h p (List.mem_range.mp hp)).2
  rw [Nat.zero_add] at this
  omega
theorem al8.at {T : List Nat} (h : al8 T) {i : Nat} (hi : i < T.length) : T.getD i 0 < 128 := by
  rw [List.getD_eq_getElem?_getD, List.getElem?_eq_getElem hi]
  exact h _ (List.getElem_mem hi)
theorem q_Grm {mt : Nat → q_Me} {Z : q_Z} {E : q_E} {mi d rc rs rc' rs' : Nat} {Y : Array Value → State → Outcome → State → Prop} {pc : Nat} {lv : q_L} {st : List Value} {M : q_M} (h1 : rc = rc') (h2 : rs = rs') (h : q_G mt Z E mi d rc' rs' Y pc lv st M) : q_G mt Z E mi d rc rs Y pc lv st M := by
  subst h1 h2
  exact h
section SO
variable {L : Nat} {xs : Nat → Int32} {E : q_E} {d : Nat} {M : q_M} {t : q_T} {n : sN} {Q : Option Value → q_M → Prop} {P : q_M → Prop}
theorem lnT_8 {e : Nat} (h6 : t 8 0 ≤ 6) (he : e < t 8 0) (no : nmO t (10 + e)) (h0 : 0 ≤ toF t n e ∧ toF t n e ≤ 108000) : al8 (lnT t n e) := by
  have rb := rk_6 (n := n) (f := toF t n) h6 he
  exact (al8_d (by omega)).app ((al8_1 (by omega)).app ((al8_l no.2.2.1).app ((al8_1 (by omega)).app ((al8_d (by omega)).app ((al8_1 (by omega)).app ((al8_1 (by omega)).app ((al8_1 (by omega)).app (al8_1 (by omega)))))))))
theorem pgT_8 {es : Nat → Nat} (h : ∀ i, i < t 8 0 → al8 (lnT t n (es i))) : ∀ k, k ≤ t 8 0 → al8 (pgT t n es k)
  | 0, _ => fun c hc => absurd hc List.not_mem_nil
  | k + 1, hk => (pgT_8 h k (by omega)).app (h k (by omega))
set_option maxRecDepth 100000 in
set_option maxHeartbeats 4000000 in
theorem k_sheet {T : List Nat} {a r : Int32} (hl : T.length ≤ 142) (g : ∀ Q : Option Value → q_M → Prop, (∀ M', q_fs lSh fSh M M' → rfT M' T → Q none M') → q_C q_mt (L, xs, q_shp) E nX12_saysSheet (d + 9) 0 0 [.ref 271] M Q) (hQ : ∀ M', q_fs lSh fSh M M' → Q (some (.int r)) M') (h1 : a = Int32.ofInt (-1) → r = nI T.length) (h2 : ∀ i, i < T.length → a = nI i → r = nI (T.getD i 0)) (h3 : ¬ a = Int32.ofInt (-1) → (∀ i, i < T.length → ¬ a = nI i) → r = Int32.ofInt (-1)) : q_C q_mt (L, xs, q_shp) E nX12_sheet (d + 10) 0 0 [.ref 271, .int (a)] M Q := by
  obtain ⟨k, hk, rfl⟩ := z_of a
  refine w_in 90 [] ?_
  refine g _ (fun M1 hf hs => ?_)
  refine z_ne k (-1) (fun q => ?_) (fun q => ?_)
  · refine ⟨nI T.length, hs.1, ?_⟩
    refine k_isIn k 0 ((T.length : Int) - 1) hk (by omega) (by omega) (fun a1 a2 => br_f (by decide) ?_) (fun q2 => br_t (by decide) ?_)
    · obtain ⟨i, rfl⟩ : ∃ i : Nat, k = i := ⟨k.toNat, by omega⟩
      refine ⟨i, nI (T.getD i 0), by (first | assumption | (simp only [z_nat, z_lit, ← Int32.ofInt_add, ← Int32.ofInt_sub, ← Int32.ofInt_mul]; exact congrArg Int32.ofInt (by omega)) | (simp only [z_nat, z_lit, ← Int32.ofInt_add, ← Int32.ofInt_sub, ← Int32.ofInt_mul]; done) | exact congrArg Int32.ofInt (by omega) | rfl), by (dsimp only; omega), hs.2 i (by omega), ?_⟩
      rw [← h2 i (by omega) rfl]
      exact ⟨_, rfl, hQ M1 hf⟩
    · have e3 := h3 (fun z => q ((z_inj hk (by omega)).mp z)) (fun i hi z => q2 ⟨by have := (z_inj (b := (i : Int)) hk (by omega)).mp z; omega, by have := (z_inj (b := (i : Int)) hk (by omega)).mp z; omega⟩)
      refine ⟨_, rfl, ?_⟩
      rw [← e3]
      exact hQ M1 hf
  · refine ⟨nI T.length, hs.1, ?_⟩
    rw [← h1 (congrArg Int32.ofInt q)]
    exact ⟨_, rfl, hQ M1 hf⟩
set_option maxRecDepth 100000 in
set_option maxHeartbeats 4000000 in
theorem o_sheet {a : Int32} (hE : zb_E E) (g : g_A 43 M t n) (nm : g_nm M t) (h27 : M.1 270 0 = 1) (hP : ∀ M', q_fs (270 :: lSh) fSh M M' → M'.1 270 0 = 1 → P M') : q_C q_mt (L, xs, q_shp) E nX11_sheet (d + 20) 4 600 [.ref 2, .int a] M (fun v M' => ∃ r : Int32, v = some (.int r) ∧ q_C q_mt (L, xs, q_shp) E nX12_sheet (d + 20) 0 0 [.ref 271, .int a] M' (fun v' M'' => v' = some (.int r) ∧ P M'')) := by
  have h6 := g.R.e6
  obtain ⟨es, hes⟩ := pl_ex (t := t) (n := n) (f := toF t n)
  have hb : ∀ i, i < t 8 0 → (lnT t n (es i)).length ≤ 18 := fun i hi => lnT_b h6 (hes i hi).1 (nm.2 _ (hes i hi).1).1.2.1 (toE_b g.R (hes i hi).1)
  have hl : (pgT t n es (t 8 0)).length ≤ 142 := by
    have := pgT_b hb (t 8 0) (Nat.le_refl _)
    omega
  have h8 : al8 (pgT t n es (t 8 0)) := pgT_8 (fun i hi => lnT_8 h6 (hes i hi).1 (nm.2 _ (hes i hi).1).1 (toE_b g.R (hes i hi).1)) _ (Nat.le_refl _)
  -- what the reference answers
  have rf : ∀ (M1 : q_M) (r : Int32), q_fs [270] [] M M1 → M1.1 270 0 = 1 → (a = Int32.ofInt (-1) → r = nI (pgT t n es (t 8 0)).length) → (∀ i, i < (pgT t n es (t 8 0)).length → a = nI i → r = nI ((pgT t n es (t 8 0)).getD i 0)) → (¬ a = Int32.ofInt (-1) → (∀ i, i < (pgT t n es (t 8 0)).length → ¬ a = nI i) → r = Int32.ofInt (-1)) → q_C q_mt (L, xs, q_shp) E nX12_sheet (d + 20) 0 0 [.ref 271, .int a] M1 (fun v' M'' => v' = some (.int r) ∧ P M'') := by
    intro M1 r hf e0 e1 e2 e3
    exact k_sheet (d := d + 10) hl (fun Q' hQ' => k_saysSheet (d := d + 10) (g.R.fs hf) (fun e he => ⟨(nm.2 e he).1, (hf.p2 282 (10 + e)).trans (nm.2 e he).2.2⟩) hes hQ') (fun M' hf' => ⟨rfl, hP M' ((hf.mono).tr (hf'.mono)) ((hf'.p1 270 0).trans e0)⟩) e1 e2 e3
  refine q_en q_ok (Nat.le_of_ble_eq_true (show Nat.blt nX11_sheet 436 = true from rfl)) rfl ?_
  refine w_ar kw_SH 10 [1] ?_
  refine q_Grm (rc' := 1 + roc 142 0) (rs' := 354 + ros 142 0) (by decide) (by decide) ?_
  refine q_invR (idx := 383) (mj := nX11_writePage) (r := 2) (as := []) (rest := []) (C := RX11) (T := TX11) (N := 17) (k2_writePage (d := d + 12) (Q := fun v M' => v = none ∧ q_fs [270] [] M M' ∧ sbT M' (pgT t n es (t 8 0))) hE g nm h27 hes (fun M' a b => ⟨rfl, a, b⟩)) (show q_cell (L, xs, q_shp) 2 = some (0, 12, 17, [some 3, some 6, some 24, some 42, some 43, some 51, some 68, some 238, some 242, some 244, some 251, some 256, some 270, none, none, none, none]) from rfl) rfl rfl (q_in_mem (j := 1631) (by decide +kernel)) (q_in_mem (j := 1633) (by decide +kernel)) (q_in_mem (j := 56) (by decide +kernel)) (q_in_mem (j := 206) (by decide +kernel)) (q_ok.1 nX11_writePage (Nat.le_of_ble_eq_true rfl)).2.2.1 (q_yok.el (show q_yok (q_mt nX11_writePage) 0 = true by decide +kernel)) (q_ok.1 nX11_writePage (Nat.le_of_ble_eq_true rfl)).2.2.2.1 (Nat.zero_le _) (by decide +kernel) (fun v M1 hq => ?_)
  obtain ⟨rfl, hf, hs⟩ := hq
  obtain ⟨k, hk, rfl⟩ := z_of a
  refine w_ar kw_SH 20 [13, 26, 37] ?_
  have out : (k < 0 ∨ ((pgT t n es (t 8 0)).length : Int) ≤ k) → ¬ k = -1 → q_C q_mt (L, xs, q_shp) E nX12_sheet (d + 20) 0 0 [.ref 271, .int (Int32.ofInt k)] M1 (fun v' M'' => v' = some (.int (Int32.ofInt (-1))) ∧ P M'') := fun o q => rf M1 _ hf hs.1 (fun z => absurd ((z_inj hk (by omega)).mp z) q) (fun i hi z => by have := (z_inj (b := (i : Int)) hk (by omega)).mp z; omega) (fun _ _ => rfl)
  refine z_ne k (-1) (fun q => ?_) (fun q => ?_)
  · refine z_lt k 0 (fun q2 => ⟨_, rfl, _, rfl, out (Or.inl q2) q⟩) (fun q2 => ?_)
    refine w_sln (d := d + 14) hE hs (q_in_mem (j := 1762) (by decide +kernel)) (Nat.le_of_ble_eq_true rfl) (by decide +kernel) ?_
    refine w_ar kw_SH 20 [13, 26, 37] ?_
    refine z_le ((pgT t n es (t 8 0)).length : Int) k (fun q3 => ⟨_, rfl, _, rfl, out (Or.inr q3) q⟩) (fun q3 => ?_)
    obtain ⟨i, rfl⟩ : ∃ i : Nat, k = i := ⟨k.toNat, by omega⟩
    refine w_sca (d := d + 14) (i := i) hE hs hl (by omega) (h8.at (by omega)) (q_in_mem (j := 1769) (by decide +kernel)) (by decide +kernel) ?_
    refine w_ar kw_SH 20 [13, 26, 37] ?_
    refine ⟨_, rfl, _, rfl, rf M1 _ hf hs.1 (fun z => by have := (z_inj hk (by omega)).mp z; omega) (fun j hj z => ?_) (fun _ z => absurd rfl (z i (by omega)))⟩
    obtain rfl : i = j := by have := (z_inj (b := (j : Int)) hk (by omega)).mp z; omega
    rfl
  · refine w_sln (d := d + 14) hE hs (q_in_mem (j := 1762) (by decide +kernel)) (Nat.zero_le _) (by decide +kernel) ?_
    refine w_ar kw_SH 20 [13, 26, 37] ?_
    exact ⟨_, rfl, _, rfl, rf M1 _ hf hs.1 (fun _ => rfl) (fun i hi z => by have := (z_inj (b := (i : Int)) hk (by omega)).mp z; omega) (fun z => absurd (congrArg Int32.ofInt q) z)⟩
end SO
