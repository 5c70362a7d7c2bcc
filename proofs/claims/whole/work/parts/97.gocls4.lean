/-! who is next: the class's callNext -/
theorem cut_none {t : q_T} {n : sN} {c : Nat} {R : Nat → Nat} (h : inN t n = 0) : ∀ i, i < 624 → cutN t n c R i = n i := by
  intro i hi
  have hn := inN_no h
  have hs : ∀ e, e < t 8 0 → sty t n c e = false := fun e he => by unfold sty; rw [hn e he]; rfl
  unfold cutN
  by_cases q1 : 612 ≤ i ∧ i < 612 + t 8 0
  · rw [if_pos q1, if_neg]
    rw [hn (i - 612) (by omega), Bool.false_and]
    decide
  · rw [if_neg q1]
    by_cases q2 : 618 ≤ i ∧ i < 618 + t 8 0
    · rw [if_pos q2, if_neg]
      rw [hs (i - 618) (by omega), Bool.false_and]
      decide
    · rw [if_neg q2, if_neg (by omega), if_neg (by omega)]
theorem g_S0.rnd {c : Nat} {M M' : q_M} {t : q_T} {n : sN} {v : Int} (h : g_S0 c M t n) (h6 : t 8 0 ≤ 6) (h7 : t 0 0 ≤ 6) (h11 : t 2 0 ≤ 11) (hf : ∀ r, (!(Nat.beq r c)) = true → M'.1 r = M.1 r) (e7 : M'.1 c 7 = Int32.ofInt v) : g_S0 c M' t (up n 631 v) := by
  have key : ∀ k, 0 < k → M'.1 (c + k) = M.1 (c + k) := fun k hk => hf _ (by
    cases q : Nat.beq (c + k) c with
    | false => rfl
    | true => exact absurd (Nat.eq_of_beq_eq_true q) (by omega))
  obtain ⟨y1, y2, y3, y4⟩ := h
  refine ⟨fun s hs => ?_, fun s hs => ?_, fun e he => ?_, by rw [e7, up_s]⟩
  · rw [key 1 (by omega), y1 s hs]
    unfold lS
    rw [up_n (by omega)]
  · have ep : pS t (up n 631 v) s = pS t n s := by
      unfold pS
      rw [up_n (by omega), ptE_lo (n := n) (by omega) (by omega) h11 (fun k hk => up_n (by omega))]
    rw [key 2 (by omega), ep, up_n (by omega), up_n (by omega), up_n (by omega), up_n (by omega)]
    refine ⟨(y2 s hs).1, fun j hj => ?_⟩
    rw [up_n (by omega)]
    exact (y2 s hs).2 j hj
  · rw [key 3 (by omega), key 4 (by omega), key 6 (by omega), key 7 (by omega), up_n (by omega)]
    obtain ⟨d1, d2, d3, d4⟩ := y3 e he
    refine ⟨d1, ?_, ?_, ?_⟩
    · rw [d2]
      unfold bS
      rw [up_n (by omega)]
    · rw [d3]
      unfold gS
      rw [gvN_eq (n' := up n 631 v) (n := n) (fun r hr => up_n (by omega))]
    · rw [d4]
      unfold tS
      rw [toE_lo (n' := up n 631 v) (n := n) he h7 h11 (fun k hk => up_n (by omega))]
section GE
variable {L : Nat} {xs : Nat → Int32} {E : q_E} {d : Nat} {M : q_M} {t : q_T} {n : sN} {Q : Option Value → q_M → Prop} {P : q_M → Prop}
set_option maxRecDepth 100000 in
set_option maxHeartbeats 4000000 in
theorem k3_findCut (C : r_C 6 M t) (ba : b_A t n) {a : Int32} (r : Int) (hr : 0 ≤ r ∧ r ≤ 6) (h1 : ∀ k, k < t 13 0 → (t 14 k : Int) = r → Q (some (.int (nI k))) M) (h0 : (∀ i, i < t 13 0 → ¬ (t 14 i : Int) = r) → Q (some (.int (Int32.ofInt (-1)))) M) (ha : a = Int32.ofInt r := by (first | assumption | (simp only [z_nat, z_lit, ← Int32.ofInt_add, ← Int32.ofInt_sub, ← Int32.ofInt_mul]; exact congrArg Int32.ofInt (by omega)) | (simp only [z_nat, z_lit, ← Int32.ofInt_add, ← Int32.ofInt_sub, ← Int32.ofInt_mul]; done) | exact congrArg Int32.ofInt (by omega) | rfl)) : q_C q_mt (L, xs, q_shp) E nX2_findCutBehind (d) 0 0 [.ref 6, .int (a)] M Q := by
  subst ha
  have h3 := ba.c3
  have cN : M.1 6 16 = nI (t 13 0) := C.2.2.2.2.2.1
  have W := lp_up (W := fun k => (∀ i, i < k → ¬ (t 14 i : Int) = r) → ∀ v, v = nI k → q_G q_mt (L, xs, q_shp) E nX2_findCutBehind (d) 0 0 (q_Q (L, xs, q_shp) E Q) 2 [some (.ref 6), some (.int (Int32.ofInt r)), some (.int (v))] [] M) (t 13 0) ?_ ?_ 0 (Nat.zero_le _)
  · refine w_in 90 [2] ?_
    exact W (fun i hi => by omega) _ rfl
  · rintro hno v rfl
    refine w_at 90 [2] ?_
    refine ⟨nI (t 13 0), cN, ?_⟩
    exact z_le (t 13 0) (t 13 0) (fun h => ⟨_, rfl, h0 hno⟩) (fun h => by omega)
  · rintro k hk ih hno v rfl
    have hb := ba.b2.2.1 k hk
    have h6 := ba.r6
    refine w_at 90 [2] ?_
    refine ⟨nI (t 13 0), cN, ?_⟩
    refine z_le (t 13 0) k (fun h => by omega) (fun h => ?_)
    refine ⟨k, nI (t 14 k), by (first | assumption | (simp only [z_nat, z_lit, ← Int32.ofInt_add, ← Int32.ofInt_sub, ← Int32.ofInt_mul]; exact congrArg Int32.ofInt (by omega)) | (simp only [z_nat, z_lit, ← Int32.ofInt_add, ← Int32.ofInt_sub, ← Int32.ofInt_mul]; done) | exact congrArg Int32.ofInt (by omega) | rfl), by (dsimp only; omega), (C.2.2.2.2.2.2.2.2.2.2.2 k hk).1, ?_⟩
    refine z_ne (t 14 k) r (fun h2 => ?_) (fun h2 => ⟨_, rfl, h1 k hk h2⟩)
    refine ih (fun i hi => ?_) _ (by (first | assumption | (simp only [z_nat, z_lit, ← Int32.ofInt_add, ← Int32.ofInt_sub, ← Int32.ofInt_mul]; exact congrArg Int32.ofInt (by omega)) | (simp only [z_nat, z_lit, ← Int32.ofInt_add, ← Int32.ofInt_sub, ← Int32.ofInt_mul]; done) | exact congrArg Int32.ofInt (by omega) | rfl))
    by_cases q : i = k
    · subst q
      exact h2
    · exact hno i (by omega)
/-- the State that has called somebody -/
theorem go_fin_43 {n2 n' : sN} {M2 : q_M} {i k : Nat} {qu : Nat → Nat} (s0 : g_S0 43 M2 t n2) (C : r_C 6 M2 t) (ba : b_A t n) (hJ : b_J t n') (hlo : ∀ x, x < 624 → n' x = n2 x) (hmid : ∀ x, 624 ≤ x → x ≤ 630 → n' x = n2 x) (e31 : n' 631 = n2 631) (e32 : n' 632 = k) (e33 : n' 633 = 0) (h0 : ¬ t 0 0 = 0) (h30 : n2 630 ≤ 6) (hi : i < t 8 0) (e8 : M2.1 43 8 = nI i) (e9 : M2.1 43 9 = nI (qu i)) (hqu : ∀ x, x < 6 → x < t 8 0 → M2.1 48 x = nI (qu x) ∧ qu x < t 8 0) (ek : n2 (624 + k) = qu i) (hk6 : k < 6) {p : Nat → Bool} (hq : qRl t n2 p qu) (hp : ∀ x, x < t 8 0 → inE n2 x = true → p x = true) : g_Z 43 M2 t n' := by
  have h6 := ba.e6
  have ek' : n' (624 + (n' 632).toNat) = qu i := by rw [e32, Int.toNat_natCast, hmid _ (by omega) (by omega), ek]
  refine ⟨⟨ba.1, hJ.1.1⟩, C, (s0.tail h6 ba.r6 ba.j11 hlo e31).S ?_ (fun _ => ⟨i, qu, hi, e8, hqu, ek', ?_⟩)⟩
  · rw [e9]
    unfold brd
    rw [if_neg (fun z => z.elim h0 (fun y => by omega)), ek']
    rfl
  · exact hq.of h6 h30 hmid (fun x hx z => hp x hx (by rw [inE_eq (hlo _ (by omega))] at z; exact z)) (fun x hx => (hqu x (by omega) hx).2)
set_option maxRecDepth 100000 in
set_option maxHeartbeats 4000000 in
theorem k2_callNext_43 {n' : sN} (s0 : g_S0 43 M t n) (C : r_C 6 M t) (ba : b_A t n) (hW : b_W t n) (qm : qMid 43 M t n) (hg : isGo t n n') (hQ : ∀ M', q_fs [43, 46, 47, 48, 50, 243] [] M M' → g_Z 43 M' t n' → Q none M') : q_C q_mt (L, xs, q_shp) E nX6_callNext (d + 2) 0 0 [.ref 242] M Q := by
  have h6 := ba.e6
  have h7 := ba.r6
  have hJ := isGo.J hW ba.b2 h6 h7 ba.j11 hg
  obtain ⟨h1, ⟨h0, h33⟩, ⟨m1, m2⟩, ⟨m3, m4⟩, m5, m6, m7, m8⟩ := hW
  obtain ⟨T, qu, p, a0, hT, h8, hqu, hq, hp, hpT, ha, ea, h32⟩ := qm
  have hu : ∀ i, i < t 8 0 → qu i < t 8 0 := fun i hi => (hqu i (by omega) hi).2
  have hM : ∀ e : Nat, e < t 8 0 → inE n e = true → ∃ a : Nat, (a : Int) < n 630 ∧ n (624 + a) = e := fun e he hi => by
    obtain ⟨-, a, a1, a2, -⟩ := m8 e he hi
    exact ⟨a, a1, a2⟩
  have hf1 : q_fs [43] [] M (q_si M 43 9 (Int32.ofInt (-1))) := q_fs.rf.s1
  have s1 : g_S0 43 (q_si M 43 9 (Int32.ofInt (-1))) t n := s0.fs (q_si_n (by decide)) hf1
  have C1 : r_C 6 (q_si M 43 9 (Int32.ofInt (-1))) t := C.fs hf1
  have st1 := s1.st_43 C1 ba
  have e8 : (q_si M 43 9 (Int32.ofInt (-1))).1 43 8 = nI T := (q_si_n (by decide)).trans h8
  have e9 : (q_si M 43 9 (Int32.ofInt (-1))).1 43 9 = Int32.ofInt (-1) := q_si_s
  -- behind a cut or none: it is over
  have E58 : ∀ (m : sN) (M2 : q_M) (x : Option Value), q_fs [43, 46, 47, 48, 50, 243] [] M M2 → g_S0 43 M2 t m → r_C 6 M2 t → sts 43 M2 t m → m 631 = n 631 → (∀ i, i < 624 → n' i = m i) → n' 631 = n 631 → n' 633 = 1 → M2.1 43 9 = Int32.ofInt (-1) → (n 631 = t 0 0 ∨ inN t m = 0) → q_G q_mt (L, xs, q_shp) E nX6_callNext (d + 2) 0 0 (q_Q (L, xs, q_shp) E Q) 58 [some (.ref 242), x] [] M2 := by
    intro m M2 x hf s2 C2 st2 e31 elo e31' e33 e9 hend
    have e7 : M2.1 43 7 = Int32.ofInt (n 631) := by rw [← e31]; exact s2.2.2.2
    have e0 : M2.1 6 0 = nI (t 0 0) := C2.1
    have fin : Q none M2 := hQ M2 hf ⟨⟨ba.1, hJ.1.1⟩, C2, (s2.tail h6 h7 ba.j11 elo (e31'.trans e31.symm)).S (by rw [e9, brd_no (fun z => z.2 e33)]) (fun z => absurd e33 z.2)⟩
    refine w_at 90 [58] ?_
    refine ⟨_, e7, ?_⟩
    refine ⟨_, e0, ?_⟩
    refine z_le (t 0 0) (n 631) (fun _ => fin) (fun z => ?_)
    have hz : inN t m = 0 := hend.elim (fun y => by omega) id
    refine k3_countIn_43 st2 ?_
    rw [hz]
    exact z_le (0 : Nat) 0 (fun _ => fin) (fun z => by omega)
  by_cases qA : inN t n = 0
  · have en : n' = up n 633 1 := by
      rcases hg with ⟨_, e⟩ | ⟨z, _⟩ | ⟨z, _⟩
      · exact e
      · exact absurd qA z
      · exact absurd qA z
    subst en
    refine w_in 90 [58] ?_
    refine ⟨_, rfl, ?_⟩
    refine ⟨_, e8, ?_⟩
    refine k2_callFrom_43 st1 (qu := qu) hqu (T + 1) (by omega) (fun i hi1 hi2 hin hno => ?_) (fun hno => ?_)
    · rw [inN_no qA (qu i) (hu i hi2)] at hin
      cases hin
    · refine ⟨_, e9, ?_⟩
      refine z_eq (-1) (-1) (fun _ => ?_) (fun z => absurd rfl z)
      refine ⟨_, s1.2.2.2, ?_⟩
      refine k3_findCut C1 ba (n 631) (by omega) (fun cc hcc ecc => ?_) (fun hno2 => ?_)
      · have c3 := ba.c3
        refine z_eq (cc : Int) (-1) (fun z => by omega) (fun _ => ?_)
        obtain ⟨R, hR⟩ := isR_ex (A := sty t n cc) (c := kyF (toF t n)) (k := t 8 0)
        refine k2_doCut_43 s1 C1 ba cc hcc (by omega) hR (fun e he hi => by rw [inN_no qA e he] at hi; cases hi) (fun M2 qu2 hf2 s2 hq2 _ => ?_)
        have z0 := cut_none (c := cc) (R := R) qA
        have hf3 : q_fs [43, 46, 47, 48, 50, 243] [] M M2 := hf1.mono.tr hf2.mono
        have C2 := C1.fs hf2
        have s3 : g_S0 43 M2 t n := s2.tail h6 h7 ba.j11 (fun i hi => (z0 i hi).symm) (cut_hi (by omega) h6).symm
        exact E58 n M2 _ hf3 s3 C2 (s3.st_43 C2 ba) rfl (fun i hi => up_n (by omega)) (up_n (by omega)) up_s (by rw [hf2.c1 43]; exact e9) (Or.inr qA)
      · refine z_eq (-1) (-1) (fun _ => ?_) (fun z => absurd rfl z)
        exact E58 n _ _ hf1.mono s1 C1 st1 rfl (fun i hi => up_n (by omega)) (up_n (by omega)) up_s e9 (Or.inr qA)
  · rcases Classical.em (noIn n (n 632).toNat) with qN | qN
    · have hno := q_none hM hu hT hq hp hpT ha ea h32 qN
      have hcd : (n 631 = t 0 0 ∧ n' = up (up n 632 (n 630)) 633 1) ∨ (¬ n 631 = t 0 0 ∧ ∃ n2, isCt t (up n 632 (n 630)) n2 ∧ ∃ k, firstIn n2 0 k ∧ n' = up (up n2 631 (n 631 + 1)) 632 k) := by
        rcases hg with ⟨z, _⟩ | ⟨_, k, ⟨k1, k2, k3, _⟩, _⟩ | ⟨_, _, e⟩
        · exact absurd z qA
        · rw [qN k k1 k2] at k3
          cases k3
        · exact e
      refine w_in 90 [58] ?_
      refine ⟨_, rfl, ?_⟩
      refine ⟨_, e8, ?_⟩
      refine k2_callFrom_43 st1 (qu := qu) hqu (T + 1) (by omega) (fun i hi1 hi2 hin _ => by rw [hno i hi1 hi2] at hin; cases hin) (fun _ => ?_)
      refine ⟨_, e9, ?_⟩
      refine z_eq (-1) (-1) (fun _ => ?_) (fun z => absurd rfl z)
      refine ⟨_, s1.2.2.2, ?_⟩
      rcases hcd with ⟨q2, rfl⟩ | ⟨q2, n2, hct, k, hk, rfl⟩
      · refine k3_findCut C1 ba (n 631) (by omega) (fun cc hcc ecc => by have := ba.b2.2.1 cc hcc; omega) (fun _ => ?_)
        refine z_eq (-1) (-1) (fun _ => ?_) (fun z => absurd rfl z)
        exact E58 n _ _ hf1.mono s1 C1 st1 rfl (fun i hi => (up_n (by omega)).trans (up_n (by omega))) ((up_n (by omega)).trans (up_n (by omega))) up_s e9 (Or.inl q2)
      · -- a round's begin
        have eo : ∀ i, i < 631 → up (up n2 631 (n 631 + 1)) 632 (k : Int) i = n2 i := fun i hi => (up_n (by omega)).trans (up_n (by omega))
        have e33 : n2 633 = 0 ∧ n2 631 = n 631 := by
          rcases hct with ⟨c, R, -, -, -, rfl⟩ | ⟨-, rfl⟩
          · rw [cut_hi (by omega) h6, cut_hi (by omega) h6, up_n (by omega), up_n (by omega)]
            exact ⟨h33, rfl⟩
          · rw [up_n (by omega), up_n (by omega)]
            exact ⟨h33, rfl⟩
        have hB' : isB t (up (up n2 631 (n 631 + 1)) 632 (k : Int)) := ⟨h0, by rw [up_n (by omega), up_n (by omega), e33.1]; decide⟩
        obtain ⟨⟨b1, b2, b3, b4, b5, b6⟩, b7, b8⟩ := hJ.2.2 hB'
        rw [eo 630 (by omega)] at b2
        have b4' : ∀ a : Nat, (a : Int) < n2 630 → 0 ≤ n2 (624 + a) ∧ n2 (624 + a) < t 8 0 := fun a ha => by
          have := b4 a (by rw [eo 630 (by omega)]; exact ha)
          rw [eo _ (by omega)] at this
          exact this
        have bM2 : ∀ e : Nat, e < t 8 0 → inE n2 e = true → ∃ a : Nat, (a : Int) < n2 630 ∧ n2 (624 + a) = e := fun e he hi => by
          obtain ⟨-, a, a1, a2, -⟩ := b6 e he (by rw [inE_eq (eo _ (by omega))]; exact hi)
          rw [eo 630 (by omega)] at a1
          rw [eo _ (by omega)] at a2
          exact ⟨a, a1, a2⟩
        have bN2 : b_N t n2 := hJ.1.1.of h6 h7 ba.j11 (fun i hi => (eo i (by omega)).symm) (fun e he => by
          have := hJ.1.1.2.1 e he
          rw [eo _ (by omega), eo _ (by omega)] at this
          exact this)
        have ba2 : b_A t n2 := ⟨ba.1, bN2⟩
        have O58 : ∀ (M2 : q_M) (x : Option Value) (qu2 : Nat → Nat), q_fs [43, 46, 47, 48, 50, 243] [] M M2 → g_S0 43 M2 t n2 → r_C 6 M2 t → (∀ i, i < 6 → i < t 8 0 → M2.1 48 i = nI (qu2 i) ∧ qu2 i < t 8 0) → qRl t n2 (inE n2) qu2 → q_G q_mt (L, xs, q_shp) E nX6_callNext (d + 2) 0 0 (q_Q (L, xs, q_shp) E Q) 58 [some (.ref 242), x] [] M2 := by
          intro M2 x qu2 hf s2 C2 hq2 hr2
          have e7 : M2.1 43 7 = Int32.ofInt (n 631) := by rw [← e33.2]; exact s2.2.2.2
          have e0 : M2.1 6 0 = nI (t 0 0) := C2.1
          have st2 := s2.st_43 C2 ba2
          obtain ⟨i, hi, ei, hin, hlt⟩ := q_first0 bM2 b4' (fun i hi => (hq2 i (by omega) hi).2) hr2 hk
          have hpos : 0 < inN t n2 := fb_ct_pos.mpr ⟨qu2 i, (hq2 i (by omega) hi).2, hin⟩
          have hle : inN t n2 ≤ t 8 0 := fb_ct_le _ _
          refine w_at 90 [58] ?_
          refine ⟨_, e7, ?_⟩
          refine ⟨_, e0, ?_⟩
          refine z_le (t 0 0) (n 631) (fun z => by omega) (fun _ => ?_)
          refine k3_countIn_43 st2 ?_
          refine z_le (inN t n2) 0 (fun z => by omega) (fun _ => ?_)
          refine ⟨_, e7, ?_⟩
          refine ⟨Int32.ofInt (n 631 + 1), by (first | assumption | (simp only [z_nat, z_lit, ← Int32.ofInt_add, ← Int32.ofInt_sub, ← Int32.ofInt_mul]; exact congrArg Int32.ofInt (by omega)) | (simp only [z_nat, z_lit, ← Int32.ofInt_add, ← Int32.ofInt_sub, ← Int32.ofInt_mul]; done) | exact congrArg Int32.ofInt (by omega) | rfl), ?_⟩
          have hfm : q_fs [43] [] M2 (q_si M2 43 7 (Int32.ofInt (n 631 + 1))) := q_fs.rf.s1
          have st3 : sts 43 (q_si M2 43 7 (Int32.ofInt (n 631 + 1))) t n2 := st2
          refine k2_callFrom_43 st3 (qu := qu2) hq2 0 (Nat.zero_le _) (fun j _ hj hjn hjl => ?_) (fun hall => ?_)
          · obtain rfl : j = i := by
              rcases Nat.lt_trichotomy j i with z | z | z
              · rw [hlt j z] at hjn
                cases hjn
              · exact z
              · rw [hjl i (Nat.zero_le _) z] at hin
                cases hin
            refine hQ _ (hf.s1.s1.s1) ?_
            have hk6 : k < 6 := by have := hk.2.1; omega
            have C3 : r_C 6 (q_si (q_si (q_si M2 43 7 (Int32.ofInt (n 631 + 1))) 43 8 (nI j)) 43 9 (nI (qu2 j))) t := C2.fs (l := [43]) (f := []) q_fs.rf.s1.s1.s1
            -- rows as the next round has them
            have s3 : g_S0 43 (q_si (q_si (q_si M2 43 7 (Int32.ofInt (n 631 + 1))) 43 8 (nI j)) 43 9 (nI (qu2 j))) t (up n2 631 (n 631 + 1)) := s2.rnd h6 h7 ba.j11 (fun r hr => (q_fs.rf.s1.s1.s1 : q_fs [43] [] M2 (q_si (q_si (q_si M2 43 7 (Int32.ofInt (n 631 + 1))) 43 8 (nI j)) 43 9 (nI (qu2 j)))).c1 r (q_out (p := fun a => !(Nat.beq a 43)) rfl hr)) ((q_si_n (by decide)).trans ((q_si_n (by decide)).trans q_si_s))
            exact go_fin_43 (n := n) (i := j) (k := k) (qu := qu2) s3 C3 ba hJ (fun x hx => up_n (by omega)) (fun x h1 h2 => up_n (by omega)) (up_n (by omega)) up_s (by rw [up_n (by omega), up_n (by omega)]; exact e33.1) h0 (by rw [up_n (by omega)]; omega) hj ((q_si_n (by decide)).trans q_si_s) q_si_s hq2 (by rw [up_n (by omega)]; exact ei) hk6 (p := inE n2) (hr2.of h6 (by omega) (fun x h1 h2 => up_n (by omega)) (fun x _ z => z) (fun x hx => (hq2 x (by omega) hx).2)) (fun x hx z => by rw [inE_eq (up_n (by omega))] at z; exact z)
          · rw [hall i (Nat.zero_le _) hi] at hin
            cases hin
        have em : ∀ i, ¬ i = 632 → up n 632 (n 630) i = n i := fun i hi => up_n hi
        rcases hct with ⟨cc, R, hcc, ecc, hR, e2⟩ | ⟨hnc, e2⟩
        · rw [em 631 (by omega)] at ecc
          refine k3_findCut C1 ba (n 631) (by omega) (fun c' hc' ec' => ?_) (fun z => absurd ecc (z cc hcc))
          obtain rfl : c' = cc := by
            rcases Nat.lt_trichotomy c' cc with z | z | z
            · have := ba.b2.2.2.1 c' cc z hcc
              omega
            · exact z
            · have := ba.b2.2.2.1 cc c' z hc'
              omega
          have c3 := ba.c3
          refine z_eq (c' : Int) (-1) (fun z => by omega) (fun _ => ?_)
          have bam : b_A t (up n 632 (n 630)) := ⟨ba.1, (up_tail h1 h6 h7 ba.j11 (by omega)).1⟩
          refine k2_doCut_43 (n := up n 632 (n 630)) (s1.tail h6 h7 ba.j11 (fun i hi => em i (by omega)) (em 631 (by omega))) C1 bam c' hcc (by rw [em 631 (by omega)]; omega) hR (fun e he hi r hr hgv => ?_) (fun M2 qu2 hf2 s2 hq2 hr2 => ?_)
          · rw [inE_eq (em _ (by omega))] at hi
            rw [em _ (by omega)] at hgv
            rw [em 631 (by omega)]
            have x := (h1.2.2.1 e he hi r hr).mp hgv
            obtain ⟨-, a, a1, a2, a3⟩ := m8 e he hi
            split at a3 <;> omega
          · rw [← e2] at s2 hr2
            exact O58 M2 _ qu2 (hf1.mono.tr hf2.mono) s2 (C1.fs hf2) hq2 hr2
        · refine k3_findCut C1 ba (n 631) (by omega) (fun c' hc' ec' => absurd ((em 631 (by omega)).trans ec'.symm).symm (fun z => hnc c' hc' z)) (fun _ => ?_)
          refine z_eq (-1) (-1) (fun _ => ?_) (fun z => absurd rfl z)
          refine O58 _ _ qu hf1.mono ?_ C1 hqu ?_
          · rw [e2]
            exact s1.tail h6 h7 ba.j11 (fun i hi => em i (by omega)) (em 631 (by omega))
          · rw [e2]
            exact hq.of h6 (by omega) (fun x h1 h2 => em x (by omega)) (fun x hx z => hp x hx (by rw [inE_eq (em _ (by omega))] at z; exact z)) hu
    · have hb : ∃ k, firstIn n (n 632).toNat k ∧ n' = up n 632 k := by
        rcases hg with ⟨z, _⟩ | ⟨_, k, hk, e⟩ | ⟨_, z, _⟩
        · exact absurd z qA
        · exact ⟨k, hk, e⟩
        · exact absurd z qN
      obtain ⟨k, hk, rfl⟩ := hb
      obtain ⟨i, hi1, hi2, ei, hin, hlt⟩ := q_first hM m6 hu hT hq hp hpT ha ea h32 hk
      refine w_in 90 [58] ?_
      refine ⟨_, rfl, ?_⟩
      refine ⟨_, e8, ?_⟩
      refine k2_callFrom_43 st1 (qu := qu) hqu (T + 1) (by omega) (fun j hj1 hj2 hjn hjl => ?_) (fun hall => by rw [hall i hi1 hi2] at hin; cases hin)
      obtain rfl : j = i := by
        rcases Nat.lt_trichotomy j i with z | z | z
        · rw [hlt j hj1 z] at hjn
          cases hjn
        · exact z
        · rw [hjl i hi1 z] at hin
          cases hin
      have hqj := hu j hj2
      refine ⟨_, q_si_s, ?_⟩
      refine z_eq (qu j : Int) (-1) (fun z => by omega) (fun _ => ?_)
      refine hQ _ (hf1.mono.s1.s1) ?_
      have hf5 : q_fs [43] [] M (q_si (q_si (q_si M 43 9 (Int32.ofInt (-1))) 43 8 (nI j)) 43 9 (nI (qu j))) := q_fs.rf.s1.s1.s1
      exact go_fin_43 (n := n) (n2 := n) (i := j) (k := k) (qu := qu) (s0.fs ((q_si_n (by decide)).trans ((q_si_n (by decide)).trans (q_si_n (by decide)))) hf5) (C.fs hf5) ba hJ (fun x hx => up_n (by omega)) (fun x h1 h2 => up_n (by omega)) (up_n (by omega)) up_s (by rw [up_n (by omega)]; exact h33) h0 (by omega) hj2 ((q_si_n (by decide)).trans q_si_s) q_si_s hqu ei (by have := hk.2.1; omega) hq hp
/-- the State that has called somebody -/
theorem go_fin_257 {n2 n' : sN} {M2 : q_M} {i k : Nat} {qu : Nat → Nat} (s0 : g_S0 257 M2 t n2) (C : r_C 6 M2 t) (ba : b_A t n) (hJ : b_J t n') (hlo : ∀ x, x < 624 → n' x = n2 x) (hmid : ∀ x, 624 ≤ x → x ≤ 630 → n' x = n2 x) (e31 : n' 631 = n2 631) (e32 : n' 632 = k) (e33 : n' 633 = 0) (h0 : ¬ t 0 0 = 0) (h30 : n2 630 ≤ 6) (hi : i < t 8 0) (e8 : M2.1 257 8 = nI i) (e9 : M2.1 257 9 = nI (qu i)) (hqu : ∀ x, x < 6 → x < t 8 0 → M2.1 262 x = nI (qu x) ∧ qu x < t 8 0) (ek : n2 (624 + k) = qu i) (hk6 : k < 6) {p : Nat → Bool} (hq : qRl t n2 p qu) (hp : ∀ x, x < t 8 0 → inE n2 x = true → p x = true) : g_Z 257 M2 t n' := by
  have h6 := ba.e6
  have ek' : n' (624 + (n' 632).toNat) = qu i := by rw [e32, Int.toNat_natCast, hmid _ (by omega) (by omega), ek]
  refine ⟨⟨ba.1, hJ.1.1⟩, C, (s0.tail h6 ba.r6 ba.j11 hlo e31).S ?_ (fun _ => ⟨i, qu, hi, e8, hqu, ek', ?_⟩)⟩
  · rw [e9]
    unfold brd
    rw [if_neg (fun z => z.elim h0 (fun y => by omega)), ek']
    rfl
  · exact hq.of h6 h30 hmid (fun x hx z => hp x hx (by rw [inE_eq (hlo _ (by omega))] at z; exact z)) (fun x hx => (hqu x (by omega) hx).2)
set_option maxRecDepth 100000 in
set_option maxHeartbeats 4000000 in
theorem k2_callNext_257 {n' : sN} (s0 : g_S0 257 M t n) (C : r_C 6 M t) (ba : b_A t n) (hW : b_W t n) (qm : qMid 257 M t n) (hg : isGo t n n') (hQ : ∀ M', q_fs [257, 260, 261, 262, 264, 266] [] M M' → g_Z 257 M' t n' → Q none M') : q_C q_mt (L, xs, q_shp) E nX6_callNext (d + 2) 0 0 [.ref 265] M Q := by
  have h6 := ba.e6
  have h7 := ba.r6
  have hJ := isGo.J hW ba.b2 h6 h7 ba.j11 hg
  obtain ⟨h1, ⟨h0, h33⟩, ⟨m1, m2⟩, ⟨m3, m4⟩, m5, m6, m7, m8⟩ := hW
  obtain ⟨T, qu, p, a0, hT, h8, hqu, hq, hp, hpT, ha, ea, h32⟩ := qm
  have hu : ∀ i, i < t 8 0 → qu i < t 8 0 := fun i hi => (hqu i (by omega) hi).2
  have hM : ∀ e : Nat, e < t 8 0 → inE n e = true → ∃ a : Nat, (a : Int) < n 630 ∧ n (624 + a) = e := fun e he hi => by
    obtain ⟨-, a, a1, a2, -⟩ := m8 e he hi
    exact ⟨a, a1, a2⟩
  have hf1 : q_fs [257] [] M (q_si M 257 9 (Int32.ofInt (-1))) := q_fs.rf.s1
  have s1 : g_S0 257 (q_si M 257 9 (Int32.ofInt (-1))) t n := s0.fs (q_si_n (by decide)) hf1
  have C1 : r_C 6 (q_si M 257 9 (Int32.ofInt (-1))) t := C.fs hf1
  have st1 := s1.st_257 C1 ba
  have e8 : (q_si M 257 9 (Int32.ofInt (-1))).1 257 8 = nI T := (q_si_n (by decide)).trans h8
  have e9 : (q_si M 257 9 (Int32.ofInt (-1))).1 257 9 = Int32.ofInt (-1) := q_si_s
  -- behind a cut or none: it is over
  have E58 : ∀ (m : sN) (M2 : q_M) (x : Option Value), q_fs [257, 260, 261, 262, 264, 266] [] M M2 → g_S0 257 M2 t m → r_C 6 M2 t → sts 257 M2 t m → m 631 = n 631 → (∀ i, i < 624 → n' i = m i) → n' 631 = n 631 → n' 633 = 1 → M2.1 257 9 = Int32.ofInt (-1) → (n 631 = t 0 0 ∨ inN t m = 0) → q_G q_mt (L, xs, q_shp) E nX6_callNext (d + 2) 0 0 (q_Q (L, xs, q_shp) E Q) 58 [some (.ref 265), x] [] M2 := by
    intro m M2 x hf s2 C2 st2 e31 elo e31' e33 e9 hend
    have e7 : M2.1 257 7 = Int32.ofInt (n 631) := by rw [← e31]; exact s2.2.2.2
    have e0 : M2.1 6 0 = nI (t 0 0) := C2.1
    have fin : Q none M2 := hQ M2 hf ⟨⟨ba.1, hJ.1.1⟩, C2, (s2.tail h6 h7 ba.j11 elo (e31'.trans e31.symm)).S (by rw [e9, brd_no (fun z => z.2 e33)]) (fun z => absurd e33 z.2)⟩
    refine w_at 90 [58] ?_
    refine ⟨_, e7, ?_⟩
    refine ⟨_, e0, ?_⟩
    refine z_le (t 0 0) (n 631) (fun _ => fin) (fun z => ?_)
    have hz : inN t m = 0 := hend.elim (fun y => by omega) id
    refine k3_countIn_257 st2 ?_
    rw [hz]
    exact z_le (0 : Nat) 0 (fun _ => fin) (fun z => by omega)
  by_cases qA : inN t n = 0
  · have en : n' = up n 633 1 := by
      rcases hg with ⟨_, e⟩ | ⟨z, _⟩ | ⟨z, _⟩
      · exact e
      · exact absurd qA z
      · exact absurd qA z
    subst en
    refine w_in 90 [58] ?_
    refine ⟨_, rfl, ?_⟩
    refine ⟨_, e8, ?_⟩
    refine k2_callFrom_257 st1 (qu := qu) hqu (T + 1) (by omega) (fun i hi1 hi2 hin hno => ?_) (fun hno => ?_)
    · rw [inN_no qA (qu i) (hu i hi2)] at hin
      cases hin
    · refine ⟨_, e9, ?_⟩
      refine z_eq (-1) (-1) (fun _ => ?_) (fun z => absurd rfl z)
      refine ⟨_, s1.2.2.2, ?_⟩
      refine k3_findCut C1 ba (n 631) (by omega) (fun cc hcc ecc => ?_) (fun hno2 => ?_)
      · have c3 := ba.c3
        refine z_eq (cc : Int) (-1) (fun z => by omega) (fun _ => ?_)
        obtain ⟨R, hR⟩ := isR_ex (A := sty t n cc) (c := kyF (toF t n)) (k := t 8 0)
        refine k2_doCut_257 s1 C1 ba cc hcc (by omega) hR (fun e he hi => by rw [inN_no qA e he] at hi; cases hi) (fun M2 qu2 hf2 s2 hq2 _ => ?_)
        have z0 := cut_none (c := cc) (R := R) qA
        have hf3 : q_fs [257, 260, 261, 262, 264, 266] [] M M2 := hf1.mono.tr hf2.mono
        have C2 := C1.fs hf2
        have s3 : g_S0 257 M2 t n := s2.tail h6 h7 ba.j11 (fun i hi => (z0 i hi).symm) (cut_hi (by omega) h6).symm
        exact E58 n M2 _ hf3 s3 C2 (s3.st_257 C2 ba) rfl (fun i hi => up_n (by omega)) (up_n (by omega)) up_s (by rw [hf2.c1 257]; exact e9) (Or.inr qA)
      · refine z_eq (-1) (-1) (fun _ => ?_) (fun z => absurd rfl z)
        exact E58 n _ _ hf1.mono s1 C1 st1 rfl (fun i hi => up_n (by omega)) (up_n (by omega)) up_s e9 (Or.inr qA)
  · rcases Classical.em (noIn n (n 632).toNat) with qN | qN
    · have hno := q_none hM hu hT hq hp hpT ha ea h32 qN
      have hcd : (n 631 = t 0 0 ∧ n' = up (up n 632 (n 630)) 633 1) ∨ (¬ n 631 = t 0 0 ∧ ∃ n2, isCt t (up n 632 (n 630)) n2 ∧ ∃ k, firstIn n2 0 k ∧ n' = up (up n2 631 (n 631 + 1)) 632 k) := by
        rcases hg with ⟨z, _⟩ | ⟨_, k, ⟨k1, k2, k3, _⟩, _⟩ | ⟨_, _, e⟩
        · exact absurd z qA
        · rw [qN k k1 k2] at k3
          cases k3
        · exact e
      refine w_in 90 [58] ?_
      refine ⟨_, rfl, ?_⟩
      refine ⟨_, e8, ?_⟩
      refine k2_callFrom_257 st1 (qu := qu) hqu (T + 1) (by omega) (fun i hi1 hi2 hin _ => by rw [hno i hi1 hi2] at hin; cases hin) (fun _ => ?_)
      refine ⟨_, e9, ?_⟩
      refine z_eq (-1) (-1) (fun _ => ?_) (fun z => absurd rfl z)
      refine ⟨_, s1.2.2.2, ?_⟩
      rcases hcd with ⟨q2, rfl⟩ | ⟨q2, n2, hct, k, hk, rfl⟩
      · refine k3_findCut C1 ba (n 631) (by omega) (fun cc hcc ecc => by have := ba.b2.2.1 cc hcc; omega) (fun _ => ?_)
        refine z_eq (-1) (-1) (fun _ => ?_) (fun z => absurd rfl z)
        exact E58 n _ _ hf1.mono s1 C1 st1 rfl (fun i hi => (up_n (by omega)).trans (up_n (by omega))) ((up_n (by omega)).trans (up_n (by omega))) up_s e9 (Or.inl q2)
      · -- a round's begin
        have eo : ∀ i, i < 631 → up (up n2 631 (n 631 + 1)) 632 (k : Int) i = n2 i := fun i hi => (up_n (by omega)).trans (up_n (by omega))
        have e33 : n2 633 = 0 ∧ n2 631 = n 631 := by
          rcases hct with ⟨c, R, -, -, -, rfl⟩ | ⟨-, rfl⟩
          · rw [cut_hi (by omega) h6, cut_hi (by omega) h6, up_n (by omega), up_n (by omega)]
            exact ⟨h33, rfl⟩
          · rw [up_n (by omega), up_n (by omega)]
            exact ⟨h33, rfl⟩
        have hB' : isB t (up (up n2 631 (n 631 + 1)) 632 (k : Int)) := ⟨h0, by rw [up_n (by omega), up_n (by omega), e33.1]; decide⟩
        obtain ⟨⟨b1, b2, b3, b4, b5, b6⟩, b7, b8⟩ := hJ.2.2 hB'
        rw [eo 630 (by omega)] at b2
        have b4' : ∀ a : Nat, (a : Int) < n2 630 → 0 ≤ n2 (624 + a) ∧ n2 (624 + a) < t 8 0 := fun a ha => by
          have := b4 a (by rw [eo 630 (by omega)]; exact ha)
          rw [eo _ (by omega)] at this
          exact this
        have bM2 : ∀ e : Nat, e < t 8 0 → inE n2 e = true → ∃ a : Nat, (a : Int) < n2 630 ∧ n2 (624 + a) = e := fun e he hi => by
          obtain ⟨-, a, a1, a2, -⟩ := b6 e he (by rw [inE_eq (eo _ (by omega))]; exact hi)
          rw [eo 630 (by omega)] at a1
          rw [eo _ (by omega)] at a2
          exact ⟨a, a1, a2⟩
        have bN2 : b_N t n2 := hJ.1.1.of h6 h7 ba.j11 (fun i hi => (eo i (by omega)).symm) (fun e he => by
          have := hJ.1.1.2.1 e he
          rw [eo _ (by omega), eo _ (by omega)] at this
          exact this)
        have ba2 : b_A t n2 := ⟨ba.1, bN2⟩
        have O58 : ∀ (M2 : q_M) (x : Option Value) (qu2 : Nat → Nat), q_fs [257, 260, 261, 262, 264, 266] [] M M2 → g_S0 257 M2 t n2 → r_C 6 M2 t → (∀ i, i < 6 → i < t 8 0 → M2.1 262 i = nI (qu2 i) ∧ qu2 i < t 8 0) → qRl t n2 (inE n2) qu2 → q_G q_mt (L, xs, q_shp) E nX6_callNext (d + 2) 0 0 (q_Q (L, xs, q_shp) E Q) 58 [some (.ref 265), x] [] M2 := by
          intro M2 x qu2 hf s2 C2 hq2 hr2
          have e7 : M2.1 257 7 = Int32.ofInt (n 631) := by rw [← e33.2]; exact s2.2.2.2
          have e0 : M2.1 6 0 = nI (t 0 0) := C2.1
          have st2 := s2.st_257 C2 ba2
          obtain ⟨i, hi, ei, hin, hlt⟩ := q_first0 bM2 b4' (fun i hi => (hq2 i (by omega) hi).2) hr2 hk
          have hpos : 0 < inN t n2 := fb_ct_pos.mpr ⟨qu2 i, (hq2 i (by omega) hi).2, hin⟩
          have hle : inN t n2 ≤ t 8 0 := fb_ct_le _ _
          refine w_at 90 [58] ?_
          refine ⟨_, e7, ?_⟩
          refine ⟨_, e0, ?_⟩
          refine z_le (t 0 0) (n 631) (fun z => by omega) (fun _ => ?_)
          refine k3_countIn_257 st2 ?_
          refine z_le (inN t n2) 0 (fun z => by omega) (fun _ => ?_)
          refine ⟨_, e7, ?_⟩
          refine ⟨Int32.ofInt (n 631 + 1), by (first | assumption | (simp only [z_nat, z_lit, ← Int32.ofInt_add, ← Int32.ofInt_sub, ← Int32.ofInt_mul]; exact congrArg Int32.ofInt (by omega)) | (simp only [z_nat, z_lit, ← Int32.ofInt_add, ← Int32.ofInt_sub, ← Int32.ofInt_mul]; done) | exact congrArg Int32.ofInt (by omega) | rfl), ?_⟩
          have hfm : q_fs [257] [] M2 (q_si M2 257 7 (Int32.ofInt (n 631 + 1))) := q_fs.rf.s1
          have st3 : sts 257 (q_si M2 257 7 (Int32.ofInt (n 631 + 1))) t n2 := st2
          refine k2_callFrom_257 st3 (qu := qu2) hq2 0 (Nat.zero_le _) (fun j _ hj hjn hjl => ?_) (fun hall => ?_)
          · obtain rfl : j = i := by
              rcases Nat.lt_trichotomy j i with z | z | z
              · rw [hlt j z] at hjn
                cases hjn
              · exact z
              · rw [hjl i (Nat.zero_le _) z] at hin
                cases hin
            refine hQ _ (hf.s1.s1.s1) ?_
            have hk6 : k < 6 := by have := hk.2.1; omega
            have C3 : r_C 6 (q_si (q_si (q_si M2 257 7 (Int32.ofInt (n 631 + 1))) 257 8 (nI j)) 257 9 (nI (qu2 j))) t := C2.fs (l := [257]) (f := []) q_fs.rf.s1.s1.s1
            -- rows as the next round has them
            have s3 : g_S0 257 (q_si (q_si (q_si M2 257 7 (Int32.ofInt (n 631 + 1))) 257 8 (nI j)) 257 9 (nI (qu2 j))) t (up n2 631 (n 631 + 1)) := s2.rnd h6 h7 ba.j11 (fun r hr => (q_fs.rf.s1.s1.s1 : q_fs [257] [] M2 (q_si (q_si (q_si M2 257 7 (Int32.ofInt (n 631 + 1))) 257 8 (nI j)) 257 9 (nI (qu2 j)))).c1 r (q_out (p := fun a => !(Nat.beq a 257)) rfl hr)) ((q_si_n (by decide)).trans ((q_si_n (by decide)).trans q_si_s))
            exact go_fin_257 (n := n) (i := j) (k := k) (qu := qu2) s3 C3 ba hJ (fun x hx => up_n (by omega)) (fun x h1 h2 => up_n (by omega)) (up_n (by omega)) up_s (by rw [up_n (by omega), up_n (by omega)]; exact e33.1) h0 (by rw [up_n (by omega)]; omega) hj ((q_si_n (by decide)).trans q_si_s) q_si_s hq2 (by rw [up_n (by omega)]; exact ei) hk6 (p := inE n2) (hr2.of h6 (by omega) (fun x h1 h2 => up_n (by omega)) (fun x _ z => z) (fun x hx => (hq2 x (by omega) hx).2)) (fun x hx z => by rw [inE_eq (up_n (by omega))] at z; exact z)
          · rw [hall i (Nat.zero_le _) hi] at hin
            cases hin
        have em : ∀ i, ¬ i = 632 → up n 632 (n 630) i = n i := fun i hi => up_n hi
        rcases hct with ⟨cc, R, hcc, ecc, hR, e2⟩ | ⟨hnc, e2⟩
        · rw [em 631 (by omega)] at ecc
          refine k3_findCut C1 ba (n 631) (by omega) (fun c' hc' ec' => ?_) (fun z => absurd ecc (z cc hcc))
          obtain rfl : c' = cc := by
            rcases Nat.lt_trichotomy c' cc with z | z | z
            · have := ba.b2.2.2.1 c' cc z hcc
              omega
            · exact z
            · have := ba.b2.2.2.1 cc c' z hc'
              omega
          have c3 := ba.c3
          refine z_eq (c' : Int) (-1) (fun z => by omega) (fun _ => ?_)
          have bam : b_A t (up n 632 (n 630)) := ⟨ba.1, (up_tail h1 h6 h7 ba.j11 (by omega)).1⟩
          refine k2_doCut_257 (n := up n 632 (n 630)) (s1.tail h6 h7 ba.j11 (fun i hi => em i (by omega)) (em 631 (by omega))) C1 bam c' hcc (by rw [em 631 (by omega)]; omega) hR (fun e he hi r hr hgv => ?_) (fun M2 qu2 hf2 s2 hq2 hr2 => ?_)
          · rw [inE_eq (em _ (by omega))] at hi
            rw [em _ (by omega)] at hgv
            rw [em 631 (by omega)]
            have x := (h1.2.2.1 e he hi r hr).mp hgv
            obtain ⟨-, a, a1, a2, a3⟩ := m8 e he hi
            split at a3 <;> omega
          · rw [← e2] at s2 hr2
            exact O58 M2 _ qu2 (hf1.mono.tr hf2.mono) s2 (C1.fs hf2) hq2 hr2
        · refine k3_findCut C1 ba (n 631) (by omega) (fun c' hc' ec' => absurd ((em 631 (by omega)).trans ec'.symm).symm (fun z => hnc c' hc' z)) (fun _ => ?_)
          refine z_eq (-1) (-1) (fun _ => ?_) (fun z => absurd rfl z)
          refine O58 _ _ qu hf1.mono ?_ C1 hqu ?_
          · rw [e2]
            exact s1.tail h6 h7 ba.j11 (fun i hi => em i (by omega)) (em 631 (by omega))
          · rw [e2]
            exact hq.of h6 (by omega) (fun x h1 h2 => em x (by omega)) (fun x hx z => hp x hx (by rw [inE_eq (em _ (by omega))] at z; exact z)) hu
    · have hb : ∃ k, firstIn n (n 632).toNat k ∧ n' = up n 632 k := by
        rcases hg with ⟨z, _⟩ | ⟨_, k, hk, e⟩ | ⟨_, z, _⟩
        · exact absurd z qA
        · exact ⟨k, hk, e⟩
        · exact absurd z qN
      obtain ⟨k, hk, rfl⟩ := hb
      obtain ⟨i, hi1, hi2, ei, hin, hlt⟩ := q_first hM m6 hu hT hq hp hpT ha ea h32 hk
      refine w_in 90 [58] ?_
      refine ⟨_, rfl, ?_⟩
      refine ⟨_, e8, ?_⟩
      refine k2_callFrom_257 st1 (qu := qu) hqu (T + 1) (by omega) (fun j hj1 hj2 hjn hjl => ?_) (fun hall => by rw [hall i hi1 hi2] at hin; cases hin)
      obtain rfl : j = i := by
        rcases Nat.lt_trichotomy j i with z | z | z
        · rw [hlt j hj1 z] at hjn
          cases hjn
        · exact z
        · rw [hjl i hi1 z] at hin
          cases hin
      have hqj := hu j hj2
      refine ⟨_, q_si_s, ?_⟩
      refine z_eq (qu j : Int) (-1) (fun z => by omega) (fun _ => ?_)
      refine hQ _ (hf1.mono.s1.s1) ?_
      have hf5 : q_fs [257] [] M (q_si (q_si (q_si M 257 9 (Int32.ofInt (-1))) 257 8 (nI j)) 257 9 (nI (qu j))) := q_fs.rf.s1.s1.s1
      exact go_fin_257 (n := n) (n2 := n) (i := j) (k := k) (qu := qu) (s0.fs ((q_si_n (by decide)).trans ((q_si_n (by decide)).trans (q_si_n (by decide)))) hf5) (C.fs hf5) ba hJ (fun x hx => up_n (by omega)) (fun x h1 h2 => up_n (by omega)) (up_n (by omega)) up_s (by rw [up_n (by omega)]; exact h33) h0 (by omega) hj2 ((q_si_n (by decide)).trans q_si_s) q_si_s hqu ei (by have := hk.2.1; omega) hq hp
end GE
