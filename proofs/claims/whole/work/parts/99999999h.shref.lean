/-! the reference says the page -/
section SR
variable {L : Nat} {xs : Nat → Int32} {E : q_E} {d : Nat} {M : q_M} {t : q_T} {n : sN} {Q : Option Value → q_M → Prop} {P : q_M → Prop}
set_option maxRecDepth 100000 in
set_option maxHeartbeats 4000000 in
theorem k_says {T : List Nat} {ch : Nat} {a : Int32} (hT : rfT M T) (hl : T.length < 256) (hQ : ∀ M', q_fs [299] [(271, 47)] M M' → rfT M' (T ++ [ch]) → Q none M') (ha : a = nI ch := by (first | assumption | (simp only [z_nat, z_lit, ← Int32.ofInt_add, ← Int32.ofInt_sub, ← Int32.ofInt_mul]; exact congrArg Int32.ofInt (by omega)) | (simp only [z_nat, z_lit, ← Int32.ofInt_add, ← Int32.ofInt_sub, ← Int32.ofInt_mul]; done) | exact congrArg Int32.ofInt (by omega) | rfl)) : q_C q_mt (L, xs, q_shp) E nX12_says (d) 0 0 [.ref 271, .int (a)] M Q := by
  subst ha
  refine w_in 90 [] ?_
  refine ⟨nI T.length, hT.1, ?_⟩
  refine ⟨T.length, _, by (first | assumption | (simp only [z_nat, z_lit, ← Int32.ofInt_add, ← Int32.ofInt_sub, ← Int32.ofInt_mul]; exact congrArg Int32.ofInt (by omega)) | (simp only [z_nat, z_lit, ← Int32.ofInt_add, ← Int32.ofInt_sub, ← Int32.ofInt_mul]; done) | exact congrArg Int32.ofInt (by omega) | rfl), by (dsimp only; omega), rfl, ?_⟩
  refine ⟨nI T.length, hT.1, ?_⟩
  refine ⟨_, rfl, ?_⟩
  refine hQ _ q_fs.rf.s1.s1 ⟨?_, fun i hi => ?_⟩
  · rw [List.length_append, q_si_s]
    exact nI_add T.length 1
  · rw [List.length_append] at hi
    have hi : i < T.length + 1 := hi
    rw [q_si_nn (fun e => absurd e.1 (by omega))]
    rcases Nat.lt_or_ge i T.length with q | q
    · rw [gD_l q, q_si_n (by omega)]
      exact hT.2 i q
    · obtain rfl : i = T.length := by omega
      rw [q_si_s]
      exact congrArg nI (gD_r (T := T) (L := [ch]) (i := 0)).symm
set_option maxRecDepth 100000 in
set_option maxHeartbeats 4000000 in
theorem k_saysNumber {T : List Nat} {v : Nat} {a : Int32} (hT : rfT M T) (hv : v < 1100) (hl : T.length + 4 < 256) (hQ : ∀ M', q_fs [299] [(271, 47)] M M' → rfT M' (T ++ dgL v) → Q none M') (ha : a = nI v := by (first | assumption | (simp only [z_nat, z_lit, ← Int32.ofInt_add, ← Int32.ofInt_sub, ← Int32.ofInt_mul]; exact congrArg Int32.ofInt (by omega)) | (simp only [z_nat, z_lit, ← Int32.ofInt_add, ← Int32.ofInt_sub, ← Int32.ofInt_mul]; done) | exact congrArg Int32.ofInt (by omega) | rfl)) : q_C q_mt (L, xs, q_shp) E nX12_saysNumber (d + 1) 0 0 [.ref 271, .int (a)] M Q := by
  subst ha
  have s20 : ∀ (p : Nat) (M1 : q_M) (T1 : List Nat) (u w : Int32), 0 < p → p ≤ 1000 → T1.length ≤ T.length + 4 → q_fs [299] [(271, 47)] M M1 → rfT M1 T1 → (∀ M2 (u2 : Int32), q_fs [299] [(271, 47)] M M2 → rfT M2 (T1 ++ [48 + v / p % 10]) → u2 = nI (p / 10) → q_G q_mt (L, xs, q_shp) E nX12_saysNumber (d + 1) 0 0 (q_Q (L, xs, q_shp) E Q) 20 [some (.ref 271), some (.int (nI v)), some (.int (w)), some (.int (u2))] [] M2) → u = nI p → q_G q_mt (L, xs, q_shp) E nX12_saysNumber (d + 1) 0 0 (q_Q (L, xs, q_shp) E Q) 20 [some (.ref 271), some (.int (nI v)), some (.int (w)), some (.int (u))] [] M1 := by
    rintro p M1 T1 u w h0 hp hl1 hf hs kk rfl
    have hne : ¬ nI p = 0 := nI_ne0 h0 (by omega)
    have e1 : nI v / nI p = nI (v / p) := pk_div (by omega) h0 (by omega)
    have b1 : v / p ≤ v := Nat.div_le_self _ _
    have e2 : nI (v / p) - nI (v / p) / Int32.ofInt 10 * Int32.ofInt 10 = nI (v / p % 10) := pk_rem (a := v / p) (d := 10) (by omega) (by omega) (by omega)
    refine w_at 90 [20] ?_
    refine z_le (p : Int) 0 (fun h => by omega) (fun _ => ?_)
    refine ⟨hne, by decide, ?_⟩
    refine k_says (ch := 48 + v / p % 10) hs (by omega) (fun M2 hf2 hs2 => ?_) (by rw [e1, e2]; exact nI_add 48 _)
    refine ⟨by decide, ?_⟩
    exact kk M2 _ (hf.tr hf2) hs2 (pk_div (a := p) (d := 10) (by omega) (by omega) (by omega))
  have l20 : ∀ (M1 : q_M) (u w : Int32), q_fs [299] [(271, 47)] M M1 → rfT M1 (T ++ dgL v) → u = nI 0 → q_G q_mt (L, xs, q_shp) E nX12_saysNumber (d + 1) 0 0 (q_Q (L, xs, q_shp) E Q) 20 [some (.ref 271), some (.int (nI v)), some (.int (w)), some (.int (u))] [] M1 := by
    rintro M1 u w hf hs rfl
    refine w_at 90 [20] ?_
    exact z_le 0 0 (fun _ => hQ M1 hf hs) (fun h => by omega)
  have s2 : ∀ (P : Nat) (u : Int32) (y : Option Value), (P = 1 ∨ P = 10 ∨ P = 100 ∨ P = 1000) → (v / P < 10 → ∀ (u1 w : Int32), u1 = nI P → q_G q_mt (L, xs, q_shp) E nX12_saysNumber (d + 1) 0 0 (q_Q (L, xs, q_shp) E Q) 20 [some (.ref 271), some (.int (nI v)), some (.int (w)), some (.int (u1))] [] M) → (10 ≤ v / P → ∀ (u1 : Int32) (y : Option Value), u1 = nI (P * 10) → q_G q_mt (L, xs, q_shp) E nX12_saysNumber (d + 1) 0 0 (q_Q (L, xs, q_shp) E Q) 2 [some (.ref 271), some (.int (nI v)), some (.int (u1)), y] [] M) → u = nI P → q_G q_mt (L, xs, q_shp) E nX12_saysNumber (d + 1) 0 0 (q_Q (L, xs, q_shp) E Q) 2 [some (.ref 271), some (.int (nI v)), some (.int (u)), y] [] M := by
    rintro P u y hP h1 h2 rfl
    have hne : ¬ nI P = 0 := nI_ne0 (by omega) (by omega)
    have e1 : nI v / nI P = nI (v / P) := pk_div (by omega) (by omega) (by omega)
    have b1 : v / P ≤ v := Nat.div_le_self _ _
    obtain ⟨D, hD⟩ : ∃ D, v / P = D := ⟨_, rfl⟩
    rw [hD] at e1 b1 h1 h2
    refine w_at 90 [2, 20] ?_
    refine ⟨hne, ?_⟩
    refine z_lt (D : Int) 10 (fun h => ?_) (fun h => ?_) (hx := e1)
    · exact h1 (by omega) _ _ rfl
    · exact h2 (by omega) _ _ (pk_mul P 10)
  have c1 : v < 10 → ∀ (u1 w : Int32), u1 = nI 1 → q_G q_mt (L, xs, q_shp) E nX12_saysNumber (d + 1) 0 0 (q_Q (L, xs, q_shp) E Q) 20 [some (.ref 271), some (.int (nI v)), some (.int (w)), some (.int (u1))] [] M := fun h u1 w hu => by
    refine s20 1 M T u1 w (by omega) (by omega) (by omega) q_fs.rf hT (fun M2 u2 hf2 hs2 e2 => ?_) hu
    rw [show v / 1 % 10 = v by omega, ← dgL_1 h] at hs2
    exact l20 M2 u2 w hf2 hs2 e2
  have c2 : 10 ≤ v → v < 100 → ∀ (u1 w : Int32), u1 = nI 10 → q_G q_mt (L, xs, q_shp) E nX12_saysNumber (d + 1) 0 0 (q_Q (L, xs, q_shp) E Q) 20 [some (.ref 271), some (.int (nI v)), some (.int (w)), some (.int (u1))] [] M := fun h h' u1 w hu => by
    refine s20 10 M T u1 w (by omega) (by omega) (by omega) q_fs.rf hT (fun M2 u2 hf2 hs2 e2 => ?_) hu
    refine s20 1 M2 _ u2 w (by omega) (by omega) (by rw [List.length_append]; show T.length + 1 ≤ _; omega) hf2 hs2 (fun M3 u3 hf3 hs3 e3 => ?_) e2
    rw [List.append_assoc, show [48 + v / 10 % 10] ++ [48 + v / 1 % 10] = dgL v by
      rw [dgL_2 h h']
      show [48 + v / 10 % 10, 48 + v / 1 % 10] = _
      rw [show v / 10 % 10 = v / 10 by omega, Nat.div_one]] at hs3
    exact l20 M3 u3 w hf3 hs3 e3
  have c3 : 100 ≤ v → v < 1000 → ∀ (u1 w : Int32), u1 = nI 100 → q_G q_mt (L, xs, q_shp) E nX12_saysNumber (d + 1) 0 0 (q_Q (L, xs, q_shp) E Q) 20 [some (.ref 271), some (.int (nI v)), some (.int (w)), some (.int (u1))] [] M := fun h h' u1 w hu => by
    refine s20 100 M T u1 w (by omega) (by omega) (by omega) q_fs.rf hT (fun M2 u2 hf2 hs2 e2 => ?_) hu
    refine s20 10 M2 _ u2 w (by omega) (by omega) (by rw [List.length_append]; show T.length + 1 ≤ _; omega) hf2 hs2 (fun M3 u3 hf3 hs3 e3 => ?_) e2
    refine s20 1 M3 _ u3 w (by omega) (by omega) (by rw [List.length_append, List.length_append]; show T.length + 1 + 1 ≤ _; omega) hf3 hs3 (fun M4 u4 hf4 hs4 e4 => ?_) e3
    rw [List.append_assoc, List.append_assoc, show [48 + v / 100 % 10] ++ ([48 + v / 10 % 10] ++ [48 + v / 1 % 10]) = dgL v by
      rw [dgL_3 h h']
      show [48 + v / 100 % 10, 48 + v / 10 % 10, 48 + v / 1 % 10] = _
      rw [show v / 100 % 10 = v / 100 by omega, show v / 10 % 10 = v % 100 / 10 by omega, show v / 1 % 10 = v % 100 % 10 by omega]] at hs4
    exact l20 M4 u4 w hf4 hs4 e4
  have c4 : 1000 ≤ v → ∀ (u1 w : Int32), u1 = nI 1000 → q_G q_mt (L, xs, q_shp) E nX12_saysNumber (d + 1) 0 0 (q_Q (L, xs, q_shp) E Q) 20 [some (.ref 271), some (.int (nI v)), some (.int (w)), some (.int (u1))] [] M := fun h u1 w hu => by
    refine s20 1000 M T u1 w (by omega) (by omega) (by omega) q_fs.rf hT (fun M2 u2 hf2 hs2 e2 => ?_) hu
    refine s20 100 M2 _ u2 w (by omega) (by omega) (by rw [List.length_append]; show T.length + 1 ≤ _; omega) hf2 hs2 (fun M3 u3 hf3 hs3 e3 => ?_) e2
    refine s20 10 M3 _ u3 w (by omega) (by omega) (by rw [List.length_append, List.length_append]; show T.length + 1 + 1 ≤ _; omega) hf3 hs3 (fun M4 u4 hf4 hs4 e4 => ?_) e3
    refine s20 1 M4 _ u4 w (by omega) (by omega) (by rw [List.length_append, List.length_append, List.length_append]; show T.length + 1 + 1 + 1 ≤ _; omega) hf4 hs4 (fun M5 u5 hf5 hs5 e5 => ?_) e4
    rw [List.append_assoc, List.append_assoc, List.append_assoc, show [48 + v / 1000 % 10] ++ ([48 + v / 100 % 10] ++ ([48 + v / 10 % 10] ++ [48 + v / 1 % 10])) = dgL v by
      rw [dgL_4 h]
      show [48 + v / 1000 % 10, 48 + v / 100 % 10, 48 + v / 10 % 10, 48 + v / 1 % 10] = _
      rw [show v / 1000 % 10 = v / 100 / 10 by omega, show v / 10 % 10 = v % 100 / 10 by omega, show v / 1 % 10 = v % 100 % 10 by omega]] at hs5
    exact l20 M5 u5 w hf5 hs5 e5
  refine w_in 90 [2] ?_
  refine s2 1 _ _ (Or.inl rfl) (fun h => c1 (by omega)) (fun w1 u1 y1 e1 => ?_) rfl
  refine s2 10 _ _ (Or.inr (Or.inl rfl)) (fun h => c2 (by omega) (by omega)) (fun w2 u2 y2 e2 => ?_) e1
  refine s2 100 _ _ (Or.inr (Or.inr (Or.inl rfl))) (fun h => c3 (by omega) (by omega)) (fun w3 u3 y3 e3 => ?_) e2
  exact s2 1000 _ _ (Or.inr (Or.inr (Or.inr rfl))) (fun h => c4 (by omega)) (fun w4 => by omega) e3
set_option maxRecDepth 100000 in
set_option maxHeartbeats 4000000 in
theorem k_saysName {x : Nat → Nat} {k : Nat} {T : List Nat} (hT : rfT M T) (hk : k ≤ 7) (hx : ∀ p, p < k → 97 ≤ x (0 + p) ∧ x (0 + p) ≤ 122) (hl : T.length + k < 256) (hQ : ∀ M', q_fs [299] [(271, 47)] M M' → rfT M' (T ++ ltT x k) → Q none M') : q_C q_mt (L, xs, q_shp) E nX12_saysName (d + 1) 0 0 [.ref 271, .long (Int64.ofInt ((w8E x 0 k : Nat) : Int))] M Q := by
  have hw : w8E x 0 k < 2 ^ 63 := by
    have h := (w8E_b (x := x) (i := 0) (k := k) (by omega) hx).1
    have h2 : 256 ^ k ≤ 256 ^ 7 := Nat.pow_le_pow_right (by omega) (by omega)
    have h3 : (256 : Nat) ^ 7 = 72057594037927936 := by decide
    have h4 : (2 : Nat) ^ 63 = 9223372036854775808 := by decide
    have h5 : (2 : Nat) * 128 ^ 1 = 256 := by decide
    have h6 := (w8E_b (x := x) (i := 0) (k := k) (by omega) hx).2
    have h7 : (if k = 0 then 1 else 0) ≤ 1 := by split <;> omega
    omega
  have h0 : rfT M (T ++ ltT x (k - (7 - 0))) := by
    rw [show k - (7 - 0) = 0 by omega, ltT_0, List.append_nil]
    exact hT
  have W := lp_m (W := fun j M1 => ∀ u y, u = Int32.ofInt (48 - 8 * (j : Int)) → q_G q_mt (L, xs, q_shp) E nX12_saysName (d + 1) 0 0 (q_Q (L, xs, q_shp) E Q) 3 [some (.ref 271), some (.long (Int64.ofInt ((w8E x 0 k : Nat) : Int))), none, some (.int (u)), y] [] M1) (J := fun j M1 => q_fs [299] [(271, 47)] M M1 ∧ rfT M1 (T ++ ltT x (k - (7 - j)))) 7 ?_ ?_ 0 M (Nat.zero_le _) ⟨q_fs.rf, h0⟩
  · refine w_in 90 [3] ?_
    exact W _ _ rfl
  · rintro M1 ⟨hf, hs⟩ u y rfl
    rw [show k - (7 - 7) = k by omega] at hs
    refine w_at 90 [3] ?_
    exact z_lt (-8) 0 (fun _ => hQ M1 hf hs) (fun h => by omega)
  · rintro j M1 hj ⟨hf, hs⟩ ih u y rfl
    obtain ⟨i, hi, rfl⟩ : ∃ i, i ≤ 6 ∧ j = 6 - i := ⟨6 - j, by omega, by omega⟩
    rw [show Int32.ofInt (48 - 8 * ((6 - i : Nat) : Int)) = nI (8 * i) by rw [z_nat]; exact congrArg Int32.ofInt (by omega)]
    rw [show 7 - (6 - i) = i + 1 by omega] at hs
    rw [show 7 - (6 - i + 1) = i by omega] at ih
    have eu : True → nI (8 * i) + Int32.ofInt (-8) = Int32.ofInt (48 - 8 * ((6 - i + 1 : Nat) : Int)) := fun _ => by
      rw [z_nat, ← Int32.ofInt_add]
      exact congrArg Int32.ofInt (by omega)
    have hdig0 : True → ((Int64.ofInt ((w8E x 0 k : Nat) : Int) >>> ((nI (8 * i)).toInt64 &&& 63)) &&& Int64.ofNat 255).toInt32 = nI (if i < k then x (k - 1 - i) else 0) := fun _ => by
      have e255 : Int64.ofNat 255 = lN (2 ^ 8 - 1) := by decide
      have ew : Int64.ofInt ((w8E x 0 k : Nat) : Int) = lN (w8E x 0 k) := rfl
      rw [e255, ew, lN_shr hw (by omega), fb_maskL, lN_i, Nat.pow_mul, show (2 : Nat) ^ 8 = 256 from rfl, d8 (by omega) hx]
    refine w_at 90 [3] ?_
    refine z_lt ((8 * i : Nat) : Int) 0 (fun h => by omega) (fun _ => ?_)
    by_cases q : i < k
    · have hb := hx (k - 1 - i) (by omega)
      rw [Nat.zero_add] at hb
      refine z_eq ((x (k - 1 - i) : Nat) : Int) 0 (fun h => by omega) (fun _ => ?_) (hx := (hdig0 trivial).trans (congrArg nI (if_pos q)))
      refine k_says (ch := x (k - 1 - i)) hs (by rw [List.length_append, ltT_len]; omega) (fun M2 hf2 hs2 => ?_) ((hdig0 trivial).trans (congrArg nI (if_pos q)))
      have e3 : ltT x (k - i) = ltT x (k - (i + 1)) ++ [x (k - 1 - i)] := by
        rw [show k - i = (k - (i + 1)) + 1 by omega, ltT_s, show k - (i + 1) = k - 1 - i by omega]
      rw [List.append_assoc, ← e3] at hs2
      exact ih M2 ⟨hf.tr hf2, hs2⟩ _ _ (eu trivial)
    · refine z_eq ((0 : Nat) : Int) 0 (fun _ => ?_) (fun h => absurd rfl h) (hx := (hdig0 trivial).trans (congrArg nI (if_neg q)))
      rw [show k - (i + 1) = k - i by omega] at hs
      exact ih M1 ⟨hf, hs⟩ _ _ (eu trivial)
def lSh : List Nat := [293, 294, 299]
def fSh : List (Nat × Nat) := (271, 47) :: fD
set_option maxRecDepth 100000 in
set_option maxHeartbeats 4000000 in
theorem k_saysSheet {es : Nat → Nat} (g : g_R M t n) (nm : ∀ e, e < t 8 0 → nmO t (10 + e) ∧ M.2 282 (10 + e) = Int64.ofInt (n8 t (10 + e) : Nat)) (hes : ∀ i, i < t 8 0 → es i < t 8 0 ∧ plN t n (toF t n) (es i) = i) (hQ : ∀ M', q_fs lSh fSh M M' → rfT M' (pgT t n es (t 8 0)) → Q none M') : q_C q_mt (L, xs, q_shp) E nX12_saysSheet (d + 9) 0 0 [.ref 271] M Q := by
  have h6 := g.e6
  have hb : ∀ i, i < t 8 0 → (lnT t n (es i)).length ≤ 18 := fun i hi => lnT_b h6 (hes i hi).1 (nm _ (hes i hi).1).1.2.1 (toE_b g (hes i hi).1)
  have W := lp_m (W := fun i M1 => ∀ u y, u = nI i → q_G q_mt (L, xs, q_shp) E nX12_saysSheet (d + 9) 0 0 (q_Q (L, xs, q_shp) E Q) 11 [some (.ref 271), some (.int (u)), y] [] M1) (J := fun i M1 => q_fs lSh fSh M M1 ∧ g_sm M1 t (toF t n) ∧ rfT M1 (pgT t n es i)) (t 8 0) ?_ ?_ 0
  · refine w_in 90 [11] ?_
    refine ⟨_, rfl, ?_⟩
    refine k_laysTotals (g.fs (l := lSh) (f := fSh) (q_fs.rf.s1)) (fun M1 hf hs => ?_)
    refine W M1 (Nat.zero_le _) ⟨q_fs.rf.s1.tr (hf.mono), hs, ?_⟩ _ _ rfl
    exact ⟨(hf.p1 271 47).trans q_si_s, fun i hi => absurd hi (Nat.not_lt_zero _)⟩
  · rintro M1 ⟨hf, hm, hs⟩ u y rfl
    refine w_at 90 [11] ?_
    refine ⟨4, nI (t 8 0), by (first | assumption | (simp only [z_nat, z_lit, ← Int32.ofInt_add, ← Int32.ofInt_sub, ← Int32.ofInt_mul]; exact congrArg Int32.ofInt (by omega)) | (simp only [z_nat, z_lit, ← Int32.ofInt_add, ← Int32.ofInt_sub, ← Int32.ofInt_mul]; done) | exact congrArg Int32.ofInt (by omega) | rfl), by (dsimp only; omega), (g.fs hf).R4, ?_⟩
    exact z_le (t 8 0) (t 8 0) (fun _ => hQ M1 hf hs) (fun h => by omega)
  · rintro i M1 hi ⟨hf, hm, hs⟩ ih u y rfl
    obtain ⟨he, hp⟩ := hes i hi
    have g1 := g.fs hf
    have b1 := pgT_b hb i (by omega)
    have tb := toE_b (dr := t 1 0) (bar := -1) g he
    have rb := rk_6 (n := n) (f := toF t n) h6 he
    obtain ⟨no, n28⟩ := nm (es i) he
    have etot : toF t n (es i) = ((toF t n (es i)).toNat : Int) := (Int.toNat_of_nonneg tb.1).symm
    have tn : (toF t n (es i)).toNat ≤ 108000 := by
      have h := tb.2
      have h : toF t n (es i) ≤ 108000 := h
      omega
    have hto : M1.1 294 (es i) = nI (toF t n (es i)).toNat := (hm _ he).1.trans (congrArg Int32.ofInt etot)
    have hd4 := (dgL_b (v := (toF t n (es i)).toNat / 100)).2
    have hd1 : (dgL (rkN t n (toF t n) (es i))).length = 1 := by
      rw [dgL_1 (by omega)]
      rfl
    have k7 := no.2.1
    refine w_at 90 [11] ?_
    refine ⟨4, nI (t 8 0), by (first | assumption | (simp only [z_nat, z_lit, ← Int32.ofInt_add, ← Int32.ofInt_sub, ← Int32.ofInt_mul]; exact congrArg Int32.ofInt (by omega)) | (simp only [z_nat, z_lit, ← Int32.ofInt_add, ← Int32.ofInt_sub, ← Int32.ofInt_mul]; done) | exact congrArg Int32.ofInt (by omega) | rfl), by (dsimp only; omega), g1.R4, ?_⟩
    refine z_le (t 8 0) (i : Int) (fun h => by omega) (fun _ => ?_)
    refine k_atLaid g1 hm (i : Int) (by omega) (fun e he' h1 h2 => ?_) (fun h0 => absurd (congrArg Int.ofNat hp) (h0 _ he))
    obtain rfl : e = es i := Classical.byContradiction (fun z => pl_ne (t := t) (n := n) (f := toF t n) he' he z (by omega))
    refine k_rankOfLaid g1 hm (es i) he ?_
    refine k_saysNumber (v := rkN t n (toF t n) (es i)) hs (by omega) (by omega) (fun M2 hf2 hs2 => ?_) rfl
    refine k_says (ch := 32) hs2 (by (simp only [List.length_append, List.length_cons, List.length_nil, ltT_len, hd1]; omega)) (fun M3 hf3 hs3 => ?_) rfl
    have hF3 := hf2.tr hf3
    refine ⟨10 + es i, Int64.ofInt ((n8 t (10 + es i) : Nat) : Int), by (first | assumption | (simp only [z_nat, z_lit, ← Int32.ofInt_add, ← Int32.ofInt_sub, ← Int32.ofInt_mul]; exact congrArg Int32.ofInt (by omega)) | (simp only [z_nat, z_lit, ← Int32.ofInt_add, ← Int32.ofInt_sub, ← Int32.ofInt_mul]; done) | exact congrArg Int32.ofInt (by omega) | rfl), by (dsimp only; omega), (hF3.p2 282 (10 + es i)).trans ((hf.p2 282 (10 + es i)).trans n28), ?_⟩
    refine k_saysName (x := t (31 + (10 + es i))) (k := t 30 (10 + es i)) hs3 k7 no.2.2.1 (by (simp only [List.length_append, List.length_cons, List.length_nil, ltT_len, hd1]; omega)) (fun M4 hf4 hs4 => ?_)
    refine k_says (ch := 32) hs4 (by (simp only [List.length_append, List.length_cons, List.length_nil, ltT_len, hd1]; omega)) (fun M5 hf5 hs5 => ?_) rfl
    have hF5 := (hF3.tr hf4).tr hf5
    refine ⟨es i, nI (toF t n (es i)).toNat, by (first | assumption | (simp only [z_nat, z_lit, ← Int32.ofInt_add, ← Int32.ofInt_sub, ← Int32.ofInt_mul]; exact congrArg Int32.ofInt (by omega)) | (simp only [z_nat, z_lit, ← Int32.ofInt_add, ← Int32.ofInt_sub, ← Int32.ofInt_mul]; done) | exact congrArg Int32.ofInt (by omega) | rfl), by (dsimp only; omega), (hF5.p1 294 (es i)).trans hto, ?_⟩
    refine ⟨by decide, ?_⟩
    refine k_saysNumber (v := (toF t n (es i)).toNat / 100) hs5 (by omega) (by (simp only [List.length_append, List.length_cons, List.length_nil, ltT_len, hd1]; omega)) (fun M6 hf6 hs6 => ?_) (pk_div (a := (toF t n (es i)).toNat) (d := 100) (by omega) (by omega) (by omega))
    refine k_says (ch := 46) hs6 (by (simp only [List.length_append, List.length_cons, List.length_nil, ltT_len, hd1]; omega)) (fun M7 hf7 hs7 => ?_) rfl
    have hF7 := (hF5.tr hf6).tr hf7
    have p1 : nI (toF t n (es i)).toNat / Int32.ofInt 10 = nI ((toF t n (es i)).toNat / 10) := pk_div (a := (toF t n (es i)).toNat) (d := 10) (by omega) (by omega) (by omega)
    have p2 : nI ((toF t n (es i)).toNat / 10) - nI ((toF t n (es i)).toNat / 10) / Int32.ofInt 10 * Int32.ofInt 10 = nI ((toF t n (es i)).toNat / 10 % 10) := pk_rem (a := (toF t n (es i)).toNat / 10) (d := 10) (by omega) (by omega) (by omega)
    have p3 : nI (toF t n (es i)).toNat - nI (toF t n (es i)).toNat / Int32.ofInt 10 * Int32.ofInt 10 = nI ((toF t n (es i)).toNat % 10) := pk_rem (a := (toF t n (es i)).toNat) (d := 10) (by omega) (by omega) (by omega)
    refine ⟨es i, nI (toF t n (es i)).toNat, by (first | assumption | (simp only [z_nat, z_lit, ← Int32.ofInt_add, ← Int32.ofInt_sub, ← Int32.ofInt_mul]; exact congrArg Int32.ofInt (by omega)) | (simp only [z_nat, z_lit, ← Int32.ofInt_add, ← Int32.ofInt_sub, ← Int32.ofInt_mul]; done) | exact congrArg Int32.ofInt (by omega) | rfl), by (dsimp only; omega), (hF7.p1 294 (es i)).trans hto, ?_⟩
    refine ⟨by decide, by decide, ?_⟩
    refine k_says (ch := 48 + (toF t n (es i)).toNat / 10 % 10) hs7 (by (simp only [List.length_append, List.length_cons, List.length_nil, ltT_len, hd1]; omega)) (fun M8 hf8 hs8 => ?_) (by rw [p1, p2]; exact nI_add 48 _)
    have hF8 := hF7.tr hf8
    refine ⟨es i, nI (toF t n (es i)).toNat, by (first | assumption | (simp only [z_nat, z_lit, ← Int32.ofInt_add, ← Int32.ofInt_sub, ← Int32.ofInt_mul]; exact congrArg Int32.ofInt (by omega)) | (simp only [z_nat, z_lit, ← Int32.ofInt_add, ← Int32.ofInt_sub, ← Int32.ofInt_mul]; done) | exact congrArg Int32.ofInt (by omega) | rfl), by (dsimp only; omega), (hF8.p1 294 (es i)).trans hto, ?_⟩
    refine ⟨by decide, ?_⟩
    refine k_says (ch := 48 + (toF t n (es i)).toNat % 10) hs8 (by (simp only [List.length_append, List.length_cons, List.length_nil, ltT_len, hd1]; omega)) (fun M9 hf9 hs9 => ?_) (by rw [p3]; exact nI_add 48 _)
    refine k_says (ch := 59) hs9 (by (simp only [List.length_append, List.length_cons, List.length_nil, ltT_len, hd1]; omega)) (fun M10 hf10 hs10 => ?_) rfl
    have eT : pgT t n es i ++ dgL (rkN t n (toF t n) (es i)) ++ [32] ++ ltT (t (31 + (10 + es i))) (t 30 (10 + es i)) ++ [32] ++ dgL ((toF t n (es i)).toNat / 100) ++ [46] ++ [48 + (toF t n (es i)).toNat / 10 % 10] ++ [48 + (toF t n (es i)).toNat % 10] ++ [59] = pgT t n es i ++ lnT t n (es i) := by
      unfold lnT
      simp only [List.append_assoc]
    rw [eT] at hs10
    have hFF := (hF8.tr hf9).tr hf10
    exact ih M10 ⟨hf.tr (hFF.mono), fun e he => ⟨(hFF.p1 294 e).trans (hm e he).1, (hm e he).2⟩, hs10⟩ _ _ (by (first | assumption | (simp only [z_nat, z_lit, ← Int32.ofInt_add, ← Int32.ofInt_sub, ← Int32.ofInt_mul]; exact congrArg Int32.ofInt (by omega)) | (simp only [z_nat, z_lit, ← Int32.ofInt_add, ← Int32.ofInt_sub, ← Int32.ofInt_mul]; done) | exact congrArg Int32.ofInt (by omega) | rfl))
end SR
