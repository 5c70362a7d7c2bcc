/-! a SCRIPT's acts are done -/
/-- what an act does: i its token, v its detail -/
def isDo (t : q_T) (tok : Nat → Tok) (i v : Nat) (n : sN) (R : aRs) : Prop := ((tok i).2 = 26 ∧ R = aMs t n (decide (v = pnN t (bE n))) (fun j => ((tok (i + 1 + fb_ct (fun i => onP t i (bE n)) j)).2 : Nat))) ∨ ((tok i).2 = 27 ∧ R = aMs t n true (fun _ => (v : Nat))) ∨ ((tok i).2 = 28 ∧ R = aBalk t n) ∨ ((tok i).2 = 29 ∧ R = aCap t n v) ∨ ((tok i).2 = 30 ∧ R = aHalf t n v) ∨ ((tok i).2 = 31 ∧ R = aFail t n) ∨ ((tok i).2 = 32 ∧ isGv t n R) ∨ ((tok i).2 = 33 ∧ isOt t n v R)
/-- what is known of an act that was read -/
def okA (t : q_T) (tok : Nat → Tok) (i v : Nat) : Prop := (26 ≤ (tok i).2 ∧ (tok i).2 ≤ 33) ∧ ((tok i).2 = 26 → v ≤ 11 ∧ ∀ p, p < v → (tok (i + 1 + p)).2 ≤ 20) ∧ ((tok i).2 = 27 ∨ (tok i).2 = 29 → v ≤ 20) ∧ ((tok i).2 = 30 → v < 2) ∧ ((tok i).2 = 33 → v < t 8 0)
theorem actP_ok {t : q_T} {x : Nat → Nat} {len : Nat} {tok : Nat → Tok} {i v m j : Nat} (hA : isA tok i) (h : actP t x len tok i = .inr ((v, m), j)) : okA t tok i v ∧ 1 ≤ m ∧ m ≤ 20 := by
  obtain ⟨j1, j2, e1, e2, e3, e4⟩ := actP_i h
  refine ⟨⟨hA.2, fun hw => ?_, fun hw => ?_, fun hw => ?_, fun hw => ?_⟩, ?_⟩
  · unfold detP at e1
    rw [if_pos hw] at e1
    obtain ⟨a, b⟩ := mkP_11 (by omega) e1
    exact ⟨a.2.2, fun p hp => (b p (by omega)).2⟩
  · unfold detP at e1
    rw [if_neg (by omega), if_pos hw] at e1
    have := (numP_t e1).2.2.2.1
    omega
  · unfold detP at e1
    rw [if_neg (by omega), if_neg (by omega), if_pos hw] at e1
    split at e1
    · cases e1; omega
    · split at e1
      · cases e1; omega
      · cases e1
  · unfold detP at e1
    rw [if_neg (by omega), if_neg (by omega), if_neg (by omega), if_pos hw] at e1
    split at e1
    · split at e1
      · next q => cases e1; exact q
      · cases e1
    · cases e1
  · unfold timP at e2
    split at e2
    · have := numP_t e2
      omega
    · cases e2
      omega
theorem isDo_ex {t : q_T} {tok : Nat → Tok} {i v : Nat} {n : sN} (ho : okA t tok i v) (hJ : b_J t n) (ba : b_A t n) : ∃ R, isDo t tok i v n R ∧ aOK t R := by
  obtain ⟨o1, o2, o3, o4, o5⟩ := ho
  obtain hw | hw | hw | hw | hw | hw | hw | hw : (tok i).2 = 26 ∨ (tok i).2 = 27 ∨ (tok i).2 = 28 ∨ (tok i).2 = 29 ∨ (tok i).2 = 30 ∨ (tok i).2 = 31 ∨ (tok i).2 = 32 ∨ (tok i).2 = 33 := by omega
  · refine ⟨_, Or.inl ⟨hw, rfl⟩, aMs_ok hJ ba (fun hc j hj o => ?_)⟩
    rw [decide_eq_true_iff] at hc
    have a := ct_t (p := fun i => onP t i (bE n)) (k := j) o
    have b : fb_ct (fun i => onP t i (bE n)) (j + 1) ≤ fb_ct (fun i => onP t i (bE n)) (t 2 0) := fb_ct_mono _ (by omega)
    have e : pnN t (bE n) = fb_ct (fun i => onP t i (bE n)) (t 2 0) := rfl
    have := (o2 hw).2 (fb_ct (fun i => onP t i (bE n)) j) (by omega)
    omega
  · exact ⟨_, Or.inr (Or.inl ⟨hw, rfl⟩), aMs_ok hJ ba (fun _ j hj o => by have := o3 (Or.inl hw); omega)⟩
  · exact ⟨_, Or.inr (Or.inr (Or.inl ⟨hw, rfl⟩)), aBalk_ok hJ ba⟩
  · exact ⟨_, Or.inr (Or.inr (Or.inr (Or.inl ⟨hw, rfl⟩))), aCap_ok hJ ba (by have := o3 (Or.inr hw); omega)⟩
  · exact ⟨_, Or.inr (Or.inr (Or.inr (Or.inr (Or.inl ⟨hw, rfl⟩)))), aHalf_ok hJ ba (o4 hw)⟩
  · exact ⟨_, Or.inr (Or.inr (Or.inr (Or.inr (Or.inr (Or.inl ⟨hw, rfl⟩))))), aFail_ok hJ ba⟩
  · obtain ⟨R, hR⟩ := isGv_ex hJ ba
    exact ⟨R, Or.inr (Or.inr (Or.inr (Or.inr (Or.inr (Or.inr (Or.inl ⟨hw, hR⟩)))))), hR.ok hJ ba⟩
  · obtain ⟨R, hR⟩ := isOt_ex hJ ba (o5 hw)
    exact ⟨R, Or.inr (Or.inr (Or.inr (Or.inr (Or.inr (Or.inr (Or.inr ⟨hw, hR⟩)))))), hR.ok hJ ba (o5 hw)⟩
/-- one act so often; all acts -/
def inT (F : sN → aRs) : Nat → sN → Option sN
  | 0, n => some n
  | j + 1, n => match F n with
    | none => none
    | some (_, m) => inT F j m
def rnA (F : Nat → sN → aRs) (tm : Nat → Nat) : Nat → Nat → sN → Nat ⊕ sN
  | 0, _, n => .inr n
  | r + 1, k, n => match inT (F k) (tm k) n with
    | none => .inl k
    | some m => rnA F tm r (k + 1) m
section RA
variable {L : Nat} {xs : Nat → Int32} {E : q_E} {d : Nat} {M : q_M} {t : q_T} {n : sN} {Q : Option Value → q_M → Prop} {P : q_M → Prop}
variable {x : Nat → Nat} {len : Nat} {tok : Nat → Tok} {T : Nat}
set_option maxRecDepth 100000 in
set_option maxHeartbeats 4000000 in
theorem k2_runAct {k v : Nat} {i : Nat} {R : aRs} (g : g_Z 43 M t n) (hJ : b_J t n) (hk : k < 60) (ne : newS k M tok i v) (ho : okA t tok i v) (hR : isDo t tok i v n R) (hQ : cQ 43 lC_43 fC M t R Q) {a : Int32} (ha : a = nI k := by (first | assumption | (simp only [z_nat, z_lit, ← Int32.ofInt_add, ← Int32.ofInt_sub, ← Int32.ofInt_mul]; exact congrArg Int32.ofInt (by omega)) | (simp only [z_nat, z_lit, ← Int32.ofInt_add, ← Int32.ofInt_sub, ← Int32.ofInt_mul]; done) | exact congrArg Int32.ofInt (by omega) | rfl)) : q_C q_mt (L, xs, q_shp) E nX7_runAct (d + 5) 0 0 [.ref 251, .int (a)] M Q := by
  subst ha
  obtain ⟨o1, o2, o3, o4, o5⟩ := ho
  obtain ⟨e1, e2, e3⟩ := ne
  rcases hR with ⟨hw, rfl⟩ | ⟨hw, rfl⟩ | ⟨hw, rfl⟩ | ⟨hw, rfl⟩ | ⟨hw, rfl⟩ | ⟨hw, rfl⟩ | ⟨hw, hR⟩ | ⟨hw, hR⟩
  · rw [hw] at e1
    refine w_in 90 [] ?_
    refine ⟨k, _, by (first | assumption | (simp only [z_nat, z_lit, ← Int32.ofInt_add, ← Int32.ofInt_sub, ← Int32.ofInt_mul]; exact congrArg Int32.ofInt (by omega)) | (simp only [z_nat, z_lit, ← Int32.ofInt_add, ← Int32.ofInt_sub, ← Int32.ofInt_mul]; done) | exact congrArg Int32.ofInt (by omega) | rfl), by (dsimp only; omega), e1, ?_⟩
    refine ⟨fun z => absurd z (by decide), sw_at 0 (by decide) rfl ?_⟩
    refine ⟨k, _, by (first | assumption | (simp only [z_nat, z_lit, ← Int32.ofInt_add, ← Int32.ofInt_sub, ← Int32.ofInt_mul]; exact congrArg Int32.ofInt (by omega)) | (simp only [z_nat, z_lit, ← Int32.ofInt_add, ← Int32.ofInt_sub, ← Int32.ofInt_mul]; done) | exact congrArg Int32.ofInt (by omega) | rfl), by (dsimp only; omega), e2, ?_⟩
    exact k2_doMarks g hJ k v hk (o2 hw).1 (fun p => (tok (i + 1 + p)).2) (fun p hp => ⟨(o2 hw).2 p hp, e3 hw p hp⟩) ⟨fun e => ⟨_, rfl, hQ.1 e⟩, fun v' m e M' hf g' => ⟨_, rfl, hQ.2 v' m e M' hf.mono g'⟩⟩
  · rw [hw] at e1
    refine w_in 90 [] ?_
    refine ⟨k, _, by (first | assumption | (simp only [z_nat, z_lit, ← Int32.ofInt_add, ← Int32.ofInt_sub, ← Int32.ofInt_mul]; exact congrArg Int32.ofInt (by omega)) | (simp only [z_nat, z_lit, ← Int32.ofInt_add, ← Int32.ofInt_sub, ← Int32.ofInt_mul]; done) | exact congrArg Int32.ofInt (by omega) | rfl), by (dsimp only; omega), e1, ?_⟩
    refine ⟨fun z => absurd z (by decide), sw_at 1 (by decide) rfl ?_⟩
    refine ⟨k, _, by (first | assumption | (simp only [z_nat, z_lit, ← Int32.ofInt_add, ← Int32.ofInt_sub, ← Int32.ofInt_mul]; exact congrArg Int32.ofInt (by omega)) | (simp only [z_nat, z_lit, ← Int32.ofInt_add, ← Int32.ofInt_sub, ← Int32.ofInt_mul]; done) | exact congrArg Int32.ofInt (by omega) | rfl), by (dsimp only; omega), e2, ?_⟩
    exact k2_doAll g hJ (v : Nat) (by have := o3 (Or.inl hw); omega) ⟨fun e => ⟨_, rfl, hQ.1 e⟩, fun v' m e M' hf g' => ⟨_, rfl, hQ.2 v' m e M' hf.mono g'⟩⟩
  · rw [hw] at e1
    refine w_in 90 [] ?_
    refine ⟨k, _, by (first | assumption | (simp only [z_nat, z_lit, ← Int32.ofInt_add, ← Int32.ofInt_sub, ← Int32.ofInt_mul]; exact congrArg Int32.ofInt (by omega)) | (simp only [z_nat, z_lit, ← Int32.ofInt_add, ← Int32.ofInt_sub, ← Int32.ofInt_mul]; done) | exact congrArg Int32.ofInt (by omega) | rfl), by (dsimp only; omega), e1, ?_⟩
    refine ⟨fun z => absurd z (by decide), sw_at 2 (by decide) rfl ?_⟩
    exact k2_doBalk_43 g hJ ⟨fun e => ⟨_, rfl, hQ.1 e⟩, fun v' m e M' hf g' => ⟨_, rfl, hQ.2 v' m e M' hf.mono g'⟩⟩
  · rw [hw] at e1
    refine w_in 90 [] ?_
    refine ⟨k, _, by (first | assumption | (simp only [z_nat, z_lit, ← Int32.ofInt_add, ← Int32.ofInt_sub, ← Int32.ofInt_mul]; exact congrArg Int32.ofInt (by omega)) | (simp only [z_nat, z_lit, ← Int32.ofInt_add, ← Int32.ofInt_sub, ← Int32.ofInt_mul]; done) | exact congrArg Int32.ofInt (by omega) | rfl), by (dsimp only; omega), e1, ?_⟩
    refine ⟨fun z => absurd z (by decide), sw_at 3 (by decide) rfl ?_⟩
    refine ⟨k, _, by (first | assumption | (simp only [z_nat, z_lit, ← Int32.ofInt_add, ← Int32.ofInt_sub, ← Int32.ofInt_mul]; exact congrArg Int32.ofInt (by omega)) | (simp only [z_nat, z_lit, ← Int32.ofInt_add, ← Int32.ofInt_sub, ← Int32.ofInt_mul]; done) | exact congrArg Int32.ofInt (by omega) | rfl), by (dsimp only; omega), e2, ?_⟩
    exact k2_doCap_43 g hJ (v : Nat) (by have := o3 (Or.inr hw); omega) ⟨fun e => ⟨_, rfl, hQ.1 e⟩, fun v' m e M' hf g' => ⟨_, rfl, hQ.2 v' m e M' hf.mono g'⟩⟩
  · rw [hw] at e1
    refine w_in 90 [] ?_
    refine ⟨k, _, by (first | assumption | (simp only [z_nat, z_lit, ← Int32.ofInt_add, ← Int32.ofInt_sub, ← Int32.ofInt_mul]; exact congrArg Int32.ofInt (by omega)) | (simp only [z_nat, z_lit, ← Int32.ofInt_add, ← Int32.ofInt_sub, ← Int32.ofInt_mul]; done) | exact congrArg Int32.ofInt (by omega) | rfl), by (dsimp only; omega), e1, ?_⟩
    refine ⟨fun z => absurd z (by decide), sw_at 4 (by decide) rfl ?_⟩
    refine ⟨k, _, by (first | assumption | (simp only [z_nat, z_lit, ← Int32.ofInt_add, ← Int32.ofInt_sub, ← Int32.ofInt_mul]; exact congrArg Int32.ofInt (by omega)) | (simp only [z_nat, z_lit, ← Int32.ofInt_add, ← Int32.ofInt_sub, ← Int32.ofInt_mul]; done) | exact congrArg Int32.ofInt (by omega) | rfl), by (dsimp only; omega), e2, ?_⟩
    exact k2_doHalf_43 g hJ v (o4 hw) ⟨fun e => ⟨_, rfl, hQ.1 e⟩, fun v' m e M' hf g' => ⟨_, rfl, hQ.2 v' m e M' hf.mono g'⟩⟩
  · rw [hw] at e1
    refine w_in 90 [] ?_
    refine ⟨k, _, by (first | assumption | (simp only [z_nat, z_lit, ← Int32.ofInt_add, ← Int32.ofInt_sub, ← Int32.ofInt_mul]; exact congrArg Int32.ofInt (by omega)) | (simp only [z_nat, z_lit, ← Int32.ofInt_add, ← Int32.ofInt_sub, ← Int32.ofInt_mul]; done) | exact congrArg Int32.ofInt (by omega) | rfl), by (dsimp only; omega), e1, ?_⟩
    refine ⟨fun z => absurd z (by decide), sw_at 5 (by decide) rfl ?_⟩
    exact k2_doFail_43 g hJ ⟨fun e => ⟨_, rfl, hQ.1 e⟩, fun v' m e M' hf g' => ⟨_, rfl, hQ.2 v' m e M' hf.mono g'⟩⟩
  · rw [hw] at e1
    refine w_in 90 [] ?_
    refine ⟨k, _, by (first | assumption | (simp only [z_nat, z_lit, ← Int32.ofInt_add, ← Int32.ofInt_sub, ← Int32.ofInt_mul]; exact congrArg Int32.ofInt (by omega)) | (simp only [z_nat, z_lit, ← Int32.ofInt_add, ← Int32.ofInt_sub, ← Int32.ofInt_mul]; done) | exact congrArg Int32.ofInt (by omega) | rfl), by (dsimp only; omega), e1, ?_⟩
    refine ⟨fun z => absurd z (by decide), sw_at 6 (by decide) rfl ?_⟩
    exact k2_doGive_43 g hJ hR ⟨fun e => ⟨_, rfl, hQ.1 e⟩, fun v' m e M' hf g' => ⟨_, rfl, hQ.2 v' m e M' hf.mono g'⟩⟩
  · rw [hw] at e1
    refine w_in 90 [] ?_
    refine ⟨k, _, by (first | assumption | (simp only [z_nat, z_lit, ← Int32.ofInt_add, ← Int32.ofInt_sub, ← Int32.ofInt_mul]; exact congrArg Int32.ofInt (by omega)) | (simp only [z_nat, z_lit, ← Int32.ofInt_add, ← Int32.ofInt_sub, ← Int32.ofInt_mul]; done) | exact congrArg Int32.ofInt (by omega) | rfl), by (dsimp only; omega), e1, ?_⟩
    refine ⟨fun _ => ?_, sw_no (Or.inr (by decide))⟩
    refine ⟨k, _, by (first | assumption | (simp only [z_nat, z_lit, ← Int32.ofInt_add, ← Int32.ofInt_sub, ← Int32.ofInt_mul]; exact congrArg Int32.ofInt (by omega)) | (simp only [z_nat, z_lit, ← Int32.ofInt_add, ← Int32.ofInt_sub, ← Int32.ofInt_mul]; done) | exact congrArg Int32.ofInt (by omega) | rfl), by (dsimp only; omega), e2, ?_⟩
    exact k2_doOut_43 g hJ v (o5 hw) hR ⟨fun e => ⟨_, rfl, hQ.1 e⟩, fun v' m e M' hf g' => ⟨_, rfl, hQ.2 v' m e M' hf.mono g'⟩⟩
/-- the reference's act: done or not -/
def dQ (M : q_M) (t : q_T) (R : aRs) (Q : Option Value → q_M → Prop) : Prop := (R = none → Q (some (.int 0)) M) ∧ ∀ v m, R = some (v, m) → ∀ M', q_fs lG fD M M' → g_R M' t m → Q (some (.int 1)) M'
set_option maxRecDepth 100000 in
set_option maxHeartbeats 4000000 in
theorem k_does {k v : Nat} {i : Nat} {R : aRs} (g : g_R M t n) (hJ : b_J t n) (hk : k < 60) (ne : newR k M tok i v) (ho : okA t tok i v) (hR : isDo t tok i v n R) (ok : aOK t R) (hQ : dQ M t R Q) {a : Int32} (ha : a = nI k := by (first | assumption | (simp only [z_nat, z_lit, ← Int32.ofInt_add, ← Int32.ofInt_sub, ← Int32.ofInt_mul]; exact congrArg Int32.ofInt (by omega)) | (simp only [z_nat, z_lit, ← Int32.ofInt_add, ← Int32.ofInt_sub, ← Int32.ofInt_mul]; done) | exact congrArg Int32.ofInt (by omega) | rfl)) : q_C q_mt (L, xs, q_shp) E nX12_does (d + 14) 0 0 [.ref 271, .int (a)] M Q := by
  subst ha
  obtain ⟨o1, o2, o3, o4, o5⟩ := ho
  obtain ⟨e1, e2, e3⟩ := ne
  have A := g.A
  have ret : ∀ v m, R = some (v, m) → 0 ≤ v ∧ v ≤ 20000 := fun v m e => (ok v m e).2
  rcases hR with ⟨hw, rfl⟩ | ⟨hw, rfl⟩ | ⟨hw, rfl⟩ | ⟨hw, rfl⟩ | ⟨hw, rfl⟩ | ⟨hw, rfl⟩ | ⟨hw, hR⟩ | ⟨hw, hR⟩
  · rw [hw] at e1
    refine w_in 90 [] ?_
    refine ⟨k, _, by (first | assumption | (simp only [z_nat, z_lit, ← Int32.ofInt_add, ← Int32.ofInt_sub, ← Int32.ofInt_mul]; exact congrArg Int32.ofInt (by omega)) | (simp only [z_nat, z_lit, ← Int32.ofInt_add, ← Int32.ofInt_sub, ← Int32.ofInt_mul]; done) | exact congrArg Int32.ofInt (by omega) | rfl), by (dsimp only; omega), e2, ?_⟩
    refine ⟨k, _, by (first | assumption | (simp only [z_nat, z_lit, ← Int32.ofInt_add, ← Int32.ofInt_sub, ← Int32.ofInt_mul]; exact congrArg Int32.ofInt (by omega)) | (simp only [z_nat, z_lit, ← Int32.ofInt_add, ← Int32.ofInt_sub, ← Int32.ofInt_mul]; done) | exact congrArg Int32.ofInt (by omega) | rfl), by (dsimp only; omega), e1, ?_⟩
    refine ⟨fun z => absurd z (by decide), sw_at 0 (by decide) rfl ?_⟩
    have ct : isO t n → decide (v = pnN t (bE n)) = true → ∀ j, j < t 2 0 → onP t j (bE n) = true → fb_ct (fun i => onP t i (bE n)) j < v := fun _ hc j hj o => by
      rw [decide_eq_true_iff] at hc
      have a := ct_t (p := fun i => onP t i (bE n)) (k := j) o
      have b : fb_ct (fun i => onP t i (bE n)) (j + 1) ≤ fb_ct (fun i => onP t i (bE n)) (t 2 0) := fb_ct_mono _ (by omega)
      have e : pnN t (bE n) = fb_ct (fun i => onP t i (bE n)) (t 2 0) := rfl
      omega
    have v11 := (o2 hw).1
    refine k_marksAll g hJ (11 * k) (v : Nat) 0 (by omega) (by omega) _ _ (fun _ => ?_) (fun hc j hj o => ?_) (fun q hc j hj o => ⟨fun z => by omega, fun _ => ?_⟩) (fun e => ⟨z_0, hQ.1 e⟩) (fun m e M' hf g' => ⟨z_1, hQ.2 _ m e M' hf.mono g'⟩)
    · rw [decide_eq_true_iff]
      omega
    · rw [decide_eq_true_iff] at hc
      have a := ct_t (p := fun i => onP t i (bE n)) (k := j) o
      have b : fb_ct (fun i => onP t i (bE n)) (j + 1) ≤ fb_ct (fun i => onP t i (bE n)) (t 2 0) := fb_ct_mono _ (by omega)
      have e : pnN t (bE n) = fb_ct (fun i => onP t i (bE n)) (t 2 0) := rfl
      have := (o2 hw).2 (fb_ct (fun i => onP t i (bE n)) j) (by omega)
      omega
    · exact e3 hw _ (ct q hc j hj o)
  · rw [hw] at e1
    refine w_in 90 [] ?_
    refine ⟨k, _, by (first | assumption | (simp only [z_nat, z_lit, ← Int32.ofInt_add, ← Int32.ofInt_sub, ← Int32.ofInt_mul]; exact congrArg Int32.ofInt (by omega)) | (simp only [z_nat, z_lit, ← Int32.ofInt_add, ← Int32.ofInt_sub, ← Int32.ofInt_mul]; done) | exact congrArg Int32.ofInt (by omega) | rfl), by (dsimp only; omega), e2, ?_⟩
    refine ⟨k, _, by (first | assumption | (simp only [z_nat, z_lit, ← Int32.ofInt_add, ← Int32.ofInt_sub, ← Int32.ofInt_mul]; exact congrArg Int32.ofInt (by omega)) | (simp only [z_nat, z_lit, ← Int32.ofInt_add, ← Int32.ofInt_sub, ← Int32.ofInt_mul]; done) | exact congrArg Int32.ofInt (by omega) | rfl), by (dsimp only; omega), e1, ?_⟩
    refine ⟨fun z => absurd z (by decide), sw_at 1 (by decide) rfl ?_⟩
    have v20 := o3 (Or.inl hw)
    exact k_marksAll g hJ 0 (-1) (v : Nat) (by omega) (by omega) _ _ (fun _ => ⟨fun _ => Or.inl (by omega), fun _ => rfl⟩) (fun _ j hj o => by omega) (fun q hc j hj o => ⟨fun _ => rfl, fun z => by omega⟩) (fun e => ⟨z_0, hQ.1 e⟩) (fun m e M' hf g' => ⟨z_1, hQ.2 _ m e M' hf.mono g'⟩)
  · rw [hw] at e1
    refine w_in 90 [] ?_
    refine ⟨k, _, by (first | assumption | (simp only [z_nat, z_lit, ← Int32.ofInt_add, ← Int32.ofInt_sub, ← Int32.ofInt_mul]; exact congrArg Int32.ofInt (by omega)) | (simp only [z_nat, z_lit, ← Int32.ofInt_add, ← Int32.ofInt_sub, ← Int32.ofInt_mul]; done) | exact congrArg Int32.ofInt (by omega) | rfl), by (dsimp only; omega), e2, ?_⟩
    refine ⟨k, _, by (first | assumption | (simp only [z_nat, z_lit, ← Int32.ofInt_add, ← Int32.ofInt_sub, ← Int32.ofInt_mul]; exact congrArg Int32.ofInt (by omega)) | (simp only [z_nat, z_lit, ← Int32.ofInt_add, ← Int32.ofInt_sub, ← Int32.ofInt_mul]; done) | exact congrArg Int32.ofInt (by omega) | rfl), by (dsimp only; omega), e1, ?_⟩
    refine ⟨fun z => absurd z (by decide), sw_at 2 (by decide) rfl ?_⟩
    exact k_balkBy g hJ ⟨fun e => z_lt (-3) 0 (fun _ => ⟨z_0, hQ.1 e⟩) (fun z => by omega), fun v' m e M' hf g' => by
      have := ret v' m e
      exact z_lt v' 0 (fun z => by omega) (fun _ => ⟨z_1, hQ.2 v' m e M' hf.mono g'⟩)⟩
  · rw [hw] at e1
    refine w_in 90 [] ?_
    refine ⟨k, _, by (first | assumption | (simp only [z_nat, z_lit, ← Int32.ofInt_add, ← Int32.ofInt_sub, ← Int32.ofInt_mul]; exact congrArg Int32.ofInt (by omega)) | (simp only [z_nat, z_lit, ← Int32.ofInt_add, ← Int32.ofInt_sub, ← Int32.ofInt_mul]; done) | exact congrArg Int32.ofInt (by omega) | rfl), by (dsimp only; omega), e2, ?_⟩
    refine ⟨k, _, by (first | assumption | (simp only [z_nat, z_lit, ← Int32.ofInt_add, ← Int32.ofInt_sub, ← Int32.ofInt_mul]; exact congrArg Int32.ofInt (by omega)) | (simp only [z_nat, z_lit, ← Int32.ofInt_add, ← Int32.ofInt_sub, ← Int32.ofInt_mul]; done) | exact congrArg Int32.ofInt (by omega) | rfl), by (dsimp only; omega), e1, ?_⟩
    refine ⟨fun z => absurd z (by decide), sw_at 3 (by decide) rfl ?_⟩
    exact k_capBy g hJ (v : Nat) (by have := o3 (Or.inr hw); omega) ⟨fun e => z_lt (-3) 0 (fun _ => ⟨z_0, hQ.1 e⟩) (fun z => by omega), fun v' m e M' hf g' => by
      have := ret v' m e
      exact z_lt v' 0 (fun z => by omega) (fun _ => ⟨z_1, hQ.2 v' m e M' hf.mono g'⟩)⟩
  · rw [hw] at e1
    refine w_in 90 [] ?_
    refine ⟨k, _, by (first | assumption | (simp only [z_nat, z_lit, ← Int32.ofInt_add, ← Int32.ofInt_sub, ← Int32.ofInt_mul]; exact congrArg Int32.ofInt (by omega)) | (simp only [z_nat, z_lit, ← Int32.ofInt_add, ← Int32.ofInt_sub, ← Int32.ofInt_mul]; done) | exact congrArg Int32.ofInt (by omega) | rfl), by (dsimp only; omega), e2, ?_⟩
    refine ⟨k, _, by (first | assumption | (simp only [z_nat, z_lit, ← Int32.ofInt_add, ← Int32.ofInt_sub, ← Int32.ofInt_mul]; exact congrArg Int32.ofInt (by omega)) | (simp only [z_nat, z_lit, ← Int32.ofInt_add, ← Int32.ofInt_sub, ← Int32.ofInt_mul]; done) | exact congrArg Int32.ofInt (by omega) | rfl), by (dsimp only; omega), e1, ?_⟩
    refine ⟨fun z => absurd z (by decide), sw_at 4 (by decide) rfl ?_⟩
    exact k_halfBy g hJ v (o4 hw) ⟨fun e => z_lt (-3) 0 (fun _ => ⟨z_0, hQ.1 e⟩) (fun z => by omega), fun v' m e M' hf g' => by
      have := ret v' m e
      exact z_lt v' 0 (fun z => by omega) (fun _ => ⟨z_1, hQ.2 v' m e M' hf.mono g'⟩)⟩
  · rw [hw] at e1
    refine w_in 90 [] ?_
    refine ⟨k, _, by (first | assumption | (simp only [z_nat, z_lit, ← Int32.ofInt_add, ← Int32.ofInt_sub, ← Int32.ofInt_mul]; exact congrArg Int32.ofInt (by omega)) | (simp only [z_nat, z_lit, ← Int32.ofInt_add, ← Int32.ofInt_sub, ← Int32.ofInt_mul]; done) | exact congrArg Int32.ofInt (by omega) | rfl), by (dsimp only; omega), e2, ?_⟩
    refine ⟨k, _, by (first | assumption | (simp only [z_nat, z_lit, ← Int32.ofInt_add, ← Int32.ofInt_sub, ← Int32.ofInt_mul]; exact congrArg Int32.ofInt (by omega)) | (simp only [z_nat, z_lit, ← Int32.ofInt_add, ← Int32.ofInt_sub, ← Int32.ofInt_mul]; done) | exact congrArg Int32.ofInt (by omega) | rfl), by (dsimp only; omega), e1, ?_⟩
    refine ⟨fun z => absurd z (by decide), sw_at 5 (by decide) rfl ?_⟩
    exact k_failBy g hJ ⟨fun e => z_lt (-3) 0 (fun _ => ⟨z_0, hQ.1 e⟩) (fun z => by omega), fun v' m e M' hf g' => by
      have := ret v' m e
      exact z_lt v' 0 (fun z => by omega) (fun _ => ⟨z_1, hQ.2 v' m e M' hf.mono g'⟩)⟩
  · rw [hw] at e1
    refine w_in 90 [] ?_
    refine ⟨k, _, by (first | assumption | (simp only [z_nat, z_lit, ← Int32.ofInt_add, ← Int32.ofInt_sub, ← Int32.ofInt_mul]; exact congrArg Int32.ofInt (by omega)) | (simp only [z_nat, z_lit, ← Int32.ofInt_add, ← Int32.ofInt_sub, ← Int32.ofInt_mul]; done) | exact congrArg Int32.ofInt (by omega) | rfl), by (dsimp only; omega), e2, ?_⟩
    refine ⟨k, _, by (first | assumption | (simp only [z_nat, z_lit, ← Int32.ofInt_add, ← Int32.ofInt_sub, ← Int32.ofInt_mul]; exact congrArg Int32.ofInt (by omega)) | (simp only [z_nat, z_lit, ← Int32.ofInt_add, ← Int32.ofInt_sub, ← Int32.ofInt_mul]; done) | exact congrArg Int32.ofInt (by omega) | rfl), by (dsimp only; omega), e1, ?_⟩
    refine ⟨fun z => absurd z (by decide), sw_at 6 (by decide) rfl ?_⟩
    exact k_giveBy g hJ hR ⟨fun e => z_lt (-3) 0 (fun _ => ⟨z_0, hQ.1 e⟩) (fun z => by omega), fun v' m e M' hf g' => by
      have := ret v' m e
      exact z_lt v' 0 (fun z => by omega) (fun _ => ⟨z_1, hQ.2 v' m e M' hf.mono g'⟩)⟩
  · rw [hw] at e1
    refine w_in 90 [] ?_
    refine ⟨k, _, by (first | assumption | (simp only [z_nat, z_lit, ← Int32.ofInt_add, ← Int32.ofInt_sub, ← Int32.ofInt_mul]; exact congrArg Int32.ofInt (by omega)) | (simp only [z_nat, z_lit, ← Int32.ofInt_add, ← Int32.ofInt_sub, ← Int32.ofInt_mul]; done) | exact congrArg Int32.ofInt (by omega) | rfl), by (dsimp only; omega), e2, ?_⟩
    refine ⟨k, _, by (first | assumption | (simp only [z_nat, z_lit, ← Int32.ofInt_add, ← Int32.ofInt_sub, ← Int32.ofInt_mul]; exact congrArg Int32.ofInt (by omega)) | (simp only [z_nat, z_lit, ← Int32.ofInt_add, ← Int32.ofInt_sub, ← Int32.ofInt_mul]; done) | exact congrArg Int32.ofInt (by omega) | rfl), by (dsimp only; omega), e1, ?_⟩
    refine ⟨fun _ => ?_, sw_no (Or.inr (by decide))⟩
    exact k_outBy g hJ v (o5 hw) hR ⟨fun e => z_lt (-3) 0 (fun _ => ⟨z_0, hQ.1 e⟩) (fun z => by omega), fun v' m e M' hf g' => by
      have := ret v' m e
      exact z_lt v' 0 (fun z => by omega) (fun _ => ⟨z_1, hQ.2 v' m e M' hf.mono g'⟩)⟩
end RA
