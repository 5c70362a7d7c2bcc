/-! the class writes the page (written by wip/whole/gen19.py) -/
section SG
variable {L : Nat} {xs : Nat → Int32} {E : q_E} {d : Nat} {M : q_M} {t : q_T} {n : sN} {Q : Option Value → q_M → Prop} {P : q_M → Prop}
theorem ltT_0 {x : Nat → Nat} : ltT x 0 = [] := rfl
set_option maxRecDepth 100000 in
set_option maxHeartbeats 4000000 in
theorem k2_writeName {x : Nat → Nat} {k : Nat} {T : List Nat} (hE : zb_E E) (hT : sbT M T) (hk : k ≤ 7) (hx : ∀ p, p < k → 97 ≤ x (0 + p) ∧ x (0 + p) ≤ 122) (hl : T.length + k ≤ 142) (hQ : ∀ M', q_fs [270] [] M M' → sbT M' (T ++ ltT x k) → Q none M') : q_C q_mt (L, xs, q_shp) E nX11_writeName (d + 6) (roc (T.length + k) T.length) (ros (T.length + k) T.length) [.ref 2, .long (Int64.ofInt ((w5E x 0 k : Nat) : Int))] M Q := by
  have hw : w5E x 0 k < 2 ^ 63 := by
    have h := w5E_b (x := x) (i := 0) (k := k) hx
    have h2 : 32 ^ (min k 12) ≤ 32 ^ 7 := Nat.pow_le_pow_right (by omega) (by omega)
    have h3 : (32 : Nat) ^ 7 = 34359738368 := by decide
    have h4 : (2 : Nat) ^ 63 = 9223372036854775808 := by decide
    omega
  have hlen : ∀ m, (T ++ ltT x m).length = T.length + m := fun m => by rw [List.length_append, ltT_len]
  have h0 : sbT M (T ++ ltT x (k - (7 - 0))) := by
    rw [show k - (7 - 0) = 0 by omega, ltT_0, List.append_nil]
    exact hT
  have W := lp_m (W := fun j M1 => ∀ u y, u = Int32.ofInt (6 - (j : Int)) → q_G q_mt (L, xs, q_shp) E nX11_writeName (d + 6) (roc (T.length + k) (T.length + (k - (7 - j)))) (ros (T.length + k) (T.length + (k - (7 - j)))) (q_Q (L, xs, q_shp) E Q) 3 [some (.ref 2), some (.long (Int64.ofInt ((w5E x 0 k : Nat) : Int))), none, some (.int u), y] [] M1) (J := fun j M1 => q_fs [270] [] M M1 ∧ sbT M1 (T ++ ltT x (k - (7 - j)))) 7 ?_ ?_ 0 M (Nat.zero_le _) ⟨q_fs.rf, h0⟩
  · have h := W (Int32.ofInt 6) none rfl
    rw [show k - (7 - 0) = 0 by omega] at h
    refine q_en q_ok (Nat.le_of_ble_eq_true (show Nat.blt nX11_writeName 436 = true from rfl)) rfl ?_
    refine w_ar kw_WN 10 [3] ?_
    exact h
  · rintro M1 ⟨hf, hs⟩ u y rfl
    rw [show k - (7 - 7) = k by omega] at hs
    refine w_ar kw_WN 10 [3, 35] ?_
    exact z_lt (-1) 0 (fun _ => hQ M1 hf hs) (fun h => by omega)
  · rintro j M1 hj ⟨hf, hs⟩ ih u y rfl
    obtain ⟨i, hi, rfl⟩ : ∃ i, i ≤ 6 ∧ j = 6 - i := ⟨6 - j, by omega, by omega⟩
    rw [show Int32.ofInt (6 - ((6 - i : Nat) : Int)) = nI i by rw [z_nat]; exact congrArg Int32.ofInt (by omega), show 7 - (6 - i) = i + 1 by omega]
    rw [show 7 - (6 - i) = i + 1 by omega] at hs
    rw [show 7 - (6 - i + 1) = i by omega] at ih
    have hdig0 : True → (Int64.ofInt ((w5E x 0 k : Nat) : Int) >>> ((nI i * Int32.ofInt 5).toInt64 &&& 63)).toInt32 &&& Int32.ofInt 31 = nI (if i < k then x (k - 1 - i) - 96 else 0) := fun _ => by
      rw [show nI i * Int32.ofInt 5 = nI (5 * i) from (pk_mul i 5).trans (congrArg nI (Nat.mul_comm _ _))]
      show (lN (w5E x 0 k) >>> ((nI (5 * i)).toInt64 &&& 63)).toInt32 &&& Int32.ofInt 31 = _
      rw [lN_shr hw (by omega), lN_i, nI_31, Nat.pow_mul, show (2 : Nat) ^ 5 = 32 from rfl, d5 (by omega) hx]
    have e1 := hlen (k - (i + 1))
    have eu : True → nI i + Int32.ofInt (-1) = Int32.ofInt (6 - ((6 - i + 1 : Nat) : Int)) := fun _ => by
      rw [z_nat, ← Int32.ofInt_add]
      exact congrArg Int32.ofInt (by omega)
    refine w_ar kw_WN 40 [3, 35] ?_
    refine z_lt (i : Int) 0 (fun h => by omega) (fun _ => ?_)
    by_cases q : i < k
    · have hb := hx (k - 1 - i) (by omega)
      rw [Nat.zero_add] at hb
      refine z_le ((x (k - 1 - i) - 96 : Nat) : Int) 0 (fun h => by omega) (fun _ => ?_) (hx := (hdig0 trivial).trans (congrArg nI (if_pos q)))
      show q_G q_mt (L, xs, q_shp) E nX11_writeName (d + 6) (roc (T.length + k) (T.length + (k - (i + 1)))) (ros (T.length + k) (T.length + (k - (i + 1)))) (q_Q (L, xs, q_shp) E Q) 35 _ [.int _, .ref 270] M1
      rw [← e1]
      have e6 : (T ++ ltT x (k - (i + 1)) ++ [x (k - 1 - i)]).length = T.length + (k - i) := by
        rw [List.length_append, e1]
        show T.length + (k - (i + 1)) + 1 = _
        omega
      refine w_apc (d := d) (ch := x (k - 1 - i)) hE hs (by rw [e6]; omega) hl (by omega) ?_ (q_in_mem (j := 1726) (by decide +kernel)) (by decide +kernel) (fun M2 hf2 hs2 => ?_)
      · rw [(hdig0 trivial).trans (congrArg nI (if_pos q))]
        have e2 : Int32.ofInt 97 + nI (x (k - 1 - i) - 96) - Int32.ofInt 1 = nI (x (k - 1 - i)) := by (first | assumption | (simp only [z_nat, z_lit, ← Int32.ofInt_add, ← Int32.ofInt_sub, ← Int32.ofInt_mul]; exact congrArg Int32.ofInt (by omega)) | (simp only [z_nat, z_lit, ← Int32.ofInt_add, ← Int32.ofInt_sub, ← Int32.ofInt_mul]; done) | exact congrArg Int32.ofInt (by omega) | rfl)
        rw [e2]
        exact (zb_b7 _ (by omega)).2.2
      · have e3 : ltT x (k - i) = ltT x (k - (i + 1)) ++ [x (k - 1 - i)] := by
          rw [show k - i = (k - (i + 1)) + 1 by omega, ltT_s, show k - (i + 1) = k - 1 - i by omega]
        rw [List.append_assoc, ← e3] at hs2
        rw [e6]
        refine w_ar kw_WN 10 [3, 35] ?_
        exact ih M2 ⟨hf.tr hf2, hs2⟩ _ _ (eu trivial)
    · refine z_le ((0 : Nat) : Int) 0 (fun _ => ?_) (fun h => by omega) (hx := (hdig0 trivial).trans (congrArg nI (if_neg q)))
      have e4 : k - (i + 1) = k - i := by omega
      rw [e4] at hs
      rw [e4]
      exact ih M1 ⟨hf, hs⟩ _ _ (eu trivial)
theorem lnT_b {e : Nat} (h6 : t 8 0 ≤ 6) (he : e < t 8 0) (hn : t 30 (10 + e) ≤ 7) (h0 : 0 ≤ toF t n e ∧ toF t n e ≤ 108000) : (lnT t n e).length ≤ 18 := by
  have h1 : (dgL (rkN t n (toF t n) e)).length = 1 := by
    have := (rk_6 (n := n) (f := toF t n) h6 he).2
    rw [dgL_1 (by omega)]
    rfl
  have h2 := (dgL_b (v := (toF t n e).toNat / 100)).2
  unfold lnT
  rw [List.length_append, List.length_append, List.length_append, List.length_append, List.length_append, List.length_append, List.length_append, List.length_append, h1, ltT_len]
  show 1 + (1 + (t 30 (10 + e) + (1 + ((dgL ((toF t n e).toNat / 100)).length + (1 + (1 + (1 + 1))))))) ≤ 18
  omega
theorem pgT_b {es : Nat → Nat} (h : ∀ i, i < t 8 0 → (lnT t n (es i)).length ≤ 18) : ∀ k, k ≤ t 8 0 → (pgT t n es k).length ≤ 18 * k
  | 0, _ => Nat.le_refl _
  | k + 1, hk => by
    have ih := pgT_b h k (by omega)
    have := h k (by omega)
    show (pgT t n es k ++ lnT t n (es k)).length ≤ _
    rw [List.length_append]
    omega
set_option maxRecDepth 100000 in
set_option maxHeartbeats 4000000 in
theorem k2_writePage {es : Nat → Nat} (hE : zb_E E) (g : g_A 43 M t n) (nm : g_nm M t) (h27 : M.1 270 0 = 1) (hes : ∀ i, i < t 8 0 → es i < t 8 0 ∧ plN t n (toF t n) (es i) = i) (hQ : ∀ M', q_fs [270] [] M M' → sbT M' (pgT t n es (t 8 0)) → Q none M') : q_C q_mt (L, xs, q_shp) E nX11_writePage (d + 7) (roc 142 0) (ros 142 0) [.ref 2] M Q := by
  have h6 := g.R.e6
  have hb : ∀ i, i < t 8 0 → (lnT t n (es i)).length ≤ 18 := fun i hi => lnT_b h6 (hes i hi).1 (nm.2 _ (hes i hi).1).1.2.1 (toE_b g.R (hes i hi).1)
  have W := lp_m (W := fun i M1 => ∀ u x y, u = nI i → q_G q_mt (L, xs, q_shp) E nX11_writePage (d + 7) (roc 142 (pgT t n es i).length) (ros 142 (pgT t n es i).length) (q_Q (L, xs, q_shp) E Q) 10 [some (.ref 2), some (.int u), x, y] [] M1) (J := fun i M1 => q_fs [270] [] M M1 ∧ sbT M1 (pgT t n es i)) (t 8 0) ?_ ?_ 0
  · refine q_en q_ok (Nat.le_of_ble_eq_true (show Nat.blt nX11_writePage 436 = true from rfl)) rfl ?_
    refine w_ar kw_WP 10 [5] ?_
    show q_G q_mt (L, xs, q_shp) E nX11_writePage (d + 1 + 6) (roc 142 0) (ros 142 0) (q_Q (L, xs, q_shp) E Q) 5 _ [.int 0, .ref 270] M
    refine w_clr hE h27 (q_in_mem (j := 1635) (by decide +kernel)) (by decide +kernel) (fun M1 hf hs => ?_)
    refine w_ar kw_WP 10 [10] ?_
    exact W M1 (Nat.zero_le _) ⟨hf, hs⟩ _ _ _ rfl
  · rintro M1 ⟨hf, hs⟩ u x y rfl
    have g1 := g.fs hf g_o.of
    refine w_ar kw_WP 10 [10] ?_
    refine ⟨nI (t 8 0), g1.eN, ?_⟩
    exact z_le (t 8 0) (t 8 0) (fun _ => hQ M1 hf hs) (fun h => by omega)
  · rintro i M1 hi ⟨hf, hs⟩ ih u x y rfl
    obtain ⟨he, hp⟩ := hes i hi
    have g1 := g.fs hf g_o.of
    have b1 := pgT_b hb i (by omega)
    have tb := toE_b (dr := t 1 0) (bar := -1) g.R he
    have rb := rk_6 (n := n) (f := toF t n) h6 he
    obtain ⟨no, n12, -⟩ := nm.2 (es i) he
    have etot : toF t n (es i) = ((toF t n (es i)).toNat : Int) := (Int.toNat_of_nonneg tb.1).symm
    have tn : (toF t n (es i)).toNat ≤ 108000 := by
      have h := tb.2
      have h : toF t n (es i) ≤ 108000 := h
      omega
    have hto : M1.1 50 (es i) = nI (toF t n (es i)).toNat := (g1.to he).trans (congrArg Int32.ofInt etot)
    have hd4 := (dgL_b (v := (toF t n (es i)).toNat / 100)).2
    have hd1 : (dgL (rkN t n (toF t n) (es i))).length = 1 := by
      rw [dgL_1 (by omega)]
      rfl
    have k7 := no.2.1
    have fin : ∀ M9, q_fs [270] [] M1 M9 → sbT M9 (pgT t n es i ++ lnT t n (es i)) → q_G q_mt (L, xs, q_shp) E nX11_writePage (d + 7) (roc 142 (pgT t n es i ++ lnT t n (es i)).length) (ros 142 (pgT t n es i ++ lnT t n (es i)).length) (q_Q (L, xs, q_shp) E Q) 163 [some (.ref 2), some (.int (nI i)), some (.int (nI (es i))), some (.int (nI (toF t n (es i)).toNat))] [.ref 270] M9 := by
      intro M9 hf9 hs9
      refine w_ar kw_WP 10 [10] ?_
      exact ih M9 ⟨hf.tr hf9, hs9⟩ _ _ _ (by (first | assumption | (simp only [z_nat, z_lit, ← Int32.ofInt_add, ← Int32.ofInt_sub, ← Int32.ofInt_mul]; exact congrArg Int32.ofInt (by omega)) | (simp only [z_nat, z_lit, ← Int32.ofInt_add, ← Int32.ofInt_sub, ← Int32.ofInt_mul]; done) | exact congrArg Int32.ofInt (by omega) | rfl))
    refine w_ar kw_WP 60 [10, 60] ?_
    refine ⟨nI (t 8 0), g1.eN, ?_⟩
    refine z_le (t 8 0) (i : Int) (fun h => by omega) (fun _ => ?_)
    refine k2_entrantAt g1 (i : Int) (by omega) (fun e he' h1 h2 => ?_) (fun h0 => absurd (congrArg Int.ofNat hp) (h0 _ he))
    obtain rfl : e = es i := Classical.byContradiction (fun z => pl_ne (t := t) (n := n) (f := toF t n) he' he z (by omega))
    refine z_ne ((es i : Nat) : Int) (-1) (fun _ => ?_) (fun h => by omega)
    refine ⟨es i, nI (toF t n (es i)).toNat, by (first | assumption | (simp only [z_nat, z_lit, ← Int32.ofInt_add, ← Int32.ofInt_sub, ← Int32.ofInt_mul]; exact congrArg Int32.ofInt (by omega)) | (simp only [z_nat, z_lit, ← Int32.ofInt_add, ← Int32.ofInt_sub, ← Int32.ofInt_mul]; done) | exact congrArg Int32.ofInt (by omega) | rfl), by (dsimp only; omega), hto, ?_⟩
    refine k2_rankOf_43 g1.Z (es i) he ?_
    refine w_api (d := d + 1) (v := rkN t n (toF t n) (es i)) hE hs (by (simp only [List.length_append, List.length_cons, List.length_nil, ltT_len, hd1]; omega)) (by decide) (by omega) rfl (q_in_mem (j := 1689) (by decide +kernel)) (by decide +kernel) (fun M2 hf2 hs2 => ?_)
    refine w_ar kw_WP 20 [10, 70] ?_
    refine w_apc (d := d + 1) (ch := 32) hE hs2 (by (simp only [List.length_append, List.length_cons, List.length_nil, ltT_len, hd1]; omega)) (by decide) (by decide) rfl (q_in_mem (j := 1726) (by decide +kernel)) (by decide +kernel) (fun M3 hf3 hs3 => ?_)
    have hF3 := hf2.tr hf3
    refine w_ar kw_WP 20 [10, 84] ?_
    refine ⟨es i, Int64.ofInt ((n5 t (10 + es i) : Nat) : Int), by (first | assumption | (simp only [z_nat, z_lit, ← Int32.ofInt_add, ← Int32.ofInt_sub, ← Int32.ofInt_mul]; exact congrArg Int32.ofInt (by omega)) | (simp only [z_nat, z_lit, ← Int32.ofInt_add, ← Int32.ofInt_sub, ← Int32.ofInt_mul]; done) | exact congrArg Int32.ofInt (by omega) | rfl), by (dsimp only; omega), ((hf.tr hF3).p2 12 (es i)).trans n12, ?_⟩
    have l3 : (pgT t n es i ++ dgL (rkN t n (toF t n) (es i)) ++ [32]).length + t 30 (10 + es i) ≤ 142 := by (simp only [List.length_append, List.length_cons, List.length_nil, ltT_len, hd1]; omega)
    obtain ⟨r1, r2⟩ := ro_3 (m := (pgT t n es i ++ dgL (rkN t n (toF t n) (es i)) ++ [32]).length) (m' := (pgT t n es i ++ dgL (rkN t n (toF t n) (es i)) ++ [32]).length + t 30 (10 + es i)) (b := 142) (by omega) l3
    show q_G q_mt (L, xs, q_shp) E nX11_writePage (d + 7) (roc 142 (pgT t n es i ++ dgL (rkN t n (toF t n) (es i)) ++ [32]).length) (ros 142 (pgT t n es i ++ dgL (rkN t n (toF t n) (es i)) ++ [32]).length) (q_Q (L, xs, q_shp) E Q) 84 _ [.long (Int64.ofInt ((n5 t (10 + es i) : Nat) : Int)), .ref 2] M3
    rw [r1, r2]
    refine q_invR (idx := 409) (mj := nX11_writeName) (r := 2) (as := [.long (Int64.ofInt ((n5 t (10 + es i) : Nat) : Int))]) (rest := []) (C := RX11) (T := TX11) (N := 17) (k2_writeName (d := d) (x := t (31 + (10 + es i))) (k := t 30 (10 + es i)) (Q := fun v M' => v = none ∧ q_fs [270] [] M3 M' ∧ sbT M' (pgT t n es i ++ dgL (rkN t n (toF t n) (es i)) ++ [32] ++ ltT (t (31 + (10 + es i))) (t 30 (10 + es i)))) hE hs3 k7 no.2.2.1 l3 (fun M' a b => ⟨rfl, a, b⟩)) (show q_cell (L, xs, q_shp) 2 = some (0, 12, 17, [some 3, some 6, some 24, some 42, some 43, some 51, some 68, some 238, some 242, some 244, some 251, some 256, some 270, none, none, none, none]) from rfl) rfl rfl (q_in_mem (j := 1758) (by decide +kernel)) (q_in_mem (j := 1760) (by decide +kernel)) (q_in_mem (j := 57) (by decide +kernel)) (q_in_mem (j := 206) (by decide +kernel)) (q_ok.1 nX11_writeName (Nat.le_of_ble_eq_true rfl)).2.2.1 (q_yok.el (show q_yok (q_mt nX11_writeName) 1 = true by decide +kernel)) (q_ok.1 nX11_writeName (Nat.le_of_ble_eq_true rfl)).2.2.2.1 (Nat.zero_le _) (by decide +kernel) (fun v M4 hq => ?_)
    obtain ⟨rfl, hf4, hs4⟩ := hq
    have hF4 := hF3.tr hf4
    have e9 : (pgT t n es i ++ dgL (rkN t n (toF t n) (es i)) ++ [32]).length + t 30 (10 + es i) = (pgT t n es i ++ dgL (rkN t n (toF t n) (es i)) ++ [32] ++ ltT (t (31 + (10 + es i))) (t 30 (10 + es i))).length := by simp only [List.length_append, ltT_len]
    rw [e9]
    refine w_ar kw_WP 20 [10, 93] ?_
    refine w_apc (d := d + 1) (ch := 32) hE hs4 (by (simp only [List.length_append, List.length_cons, List.length_nil, ltT_len, hd1]; omega)) (by decide) (by decide) rfl (q_in_mem (j := 1726) (by decide +kernel)) (by decide +kernel) (fun M5 hf5 hs5 => ?_)
    refine w_ar kw_WP 20 [10, 105] ?_
    refine ⟨by decide, ?_⟩
    refine w_api (d := d + 1) (v := (toF t n (es i)).toNat / 100) hE hs5 (by (simp only [List.length_append, List.length_cons, List.length_nil, ltT_len, hd1]; omega)) (by decide) (by omega) (pk_div (a := (toF t n (es i)).toNat) (d := 100) (by omega) (by omega) (by omega)) (q_in_mem (j := 1689) (by decide +kernel)) (by decide +kernel) (fun M6 hf6 hs6 => ?_)
    refine w_ar kw_WP 20 [10, 115] ?_
    refine w_apc (d := d + 1) (ch := 46) hE hs6 (by (simp only [List.length_append, List.length_cons, List.length_nil, ltT_len, hd1]; omega)) (by decide) (by decide) rfl (q_in_mem (j := 1726) (by decide +kernel)) (by decide +kernel) (fun M7 hf7 hs7 => ?_)
    have hF7 := ((hF4.tr hf5).tr hf6).tr hf7
    have p1 : nI (toF t n (es i)).toNat / Int32.ofInt 10 = nI ((toF t n (es i)).toNat / 10) := pk_div (a := (toF t n (es i)).toNat) (d := 10) (by omega) (by omega) (by omega)
    have p2 : nI ((toF t n (es i)).toNat / 10) - nI ((toF t n (es i)).toNat / 10) / Int32.ofInt 10 * Int32.ofInt 10 = nI ((toF t n (es i)).toNat / 10 % 10) := pk_rem (a := (toF t n (es i)).toNat / 10) (d := 10) (by omega) (by omega) (by omega)
    have p3 : nI (toF t n (es i)).toNat - nI (toF t n (es i)).toNat / Int32.ofInt 10 * Int32.ofInt 10 = nI ((toF t n (es i)).toNat % 10) := pk_rem (a := (toF t n (es i)).toNat) (d := 10) (by omega) (by omega) (by omega)
    refine w_ar kw_WP 20 [10, 134] ?_
    refine ⟨by decide, by decide, ?_⟩
    refine w_apc (d := d + 1) (ch := 48 + (toF t n (es i)).toNat / 10 % 10) hE hs7 (by (simp only [List.length_append, List.length_cons, List.length_nil, ltT_len, hd1]; omega)) (by decide) (by omega) ?_ (q_in_mem (j := 1726) (by decide +kernel)) (by decide +kernel) (fun M8 hf8 hs8 => ?_)
    · rw [p1, p2, show Int32.ofInt 48 + nI ((toF t n (es i)).toNat / 10 % 10) = nI (48 + (toF t n (es i)).toNat / 10 % 10) from nI_add 48 _]
      exact (zb_b7 _ (by omega)).2.2
    refine w_ar kw_WP 20 [10, 150] ?_
    refine ⟨by decide, ?_⟩
    refine w_apc (d := d + 1) (ch := 48 + (toF t n (es i)).toNat % 10) hE hs8 (by (simp only [List.length_append, List.length_cons, List.length_nil, ltT_len, hd1]; omega)) (by decide) (by omega) ?_ (q_in_mem (j := 1726) (by decide +kernel)) (by decide +kernel) (fun M9 hf9 hs9 => ?_)
    · rw [p3, show Int32.ofInt 48 + nI ((toF t n (es i)).toNat % 10) = nI (48 + (toF t n (es i)).toNat % 10) from nI_add 48 _]
      exact (zb_b7 _ (by omega)).2.2
    refine w_ar kw_WP 20 [10, 160] ?_
    refine w_apc (d := d + 1) (ch := 59) hE hs9 (by (simp only [List.length_append, List.length_cons, List.length_nil, ltT_len, hd1]; omega)) (by decide) (by decide) rfl (q_in_mem (j := 1726) (by decide +kernel)) (by decide +kernel) (fun M10 hf10 hs10 => ?_)
    have eT : pgT t n es i ++ dgL (rkN t n (toF t n) (es i)) ++ [32] ++ ltT (t (31 + (10 + es i))) (t 30 (10 + es i)) ++ [32] ++ dgL ((toF t n (es i)).toNat / 100) ++ [46] ++ [48 + (toF t n (es i)).toNat / 10 % 10] ++ [48 + (toF t n (es i)).toNat % 10] ++ [59] = pgT t n es i ++ lnT t n (es i) := by
      unfold lnT
      simp only [List.append_assoc]
    rw [eT] at hs10 ⊢
    exact fin M10 (((hF7.tr hf8).tr hf9).tr hf10) hs10
end SG
