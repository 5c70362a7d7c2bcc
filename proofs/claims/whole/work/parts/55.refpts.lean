/-! POINTS: the pure picture, and the reference's way to it -/
def cv1 (hal : Int) (s : Nat) (v : Int) : Int := if (s = 1 ∧ hal % 2 = 1) ∨ (s = 2 ∧ 2 ≤ hal) then 0 else v
def cv2 (hal : Int) (s : Nat) (v : Int) : Int := if s = 3 ∧ ¬ hal = 0 then min v 4 else v
def cv3 (bal v : Int) : Int := if 0 < bal then clp (v - 4) else v
/-- what counts of an award -/
def cvl (cap bal hal : Int) (s : Nat) (m : Int) : Int := cv3 bal (cv2 hal s (cv1 hal s (min m cap)))
theorem clp_le (a : Int) : 0 ≤ clp a ∧ clp a ≤ 20 := by
  unfold clp
  split
  · omega
  · split <;> omega
theorem cv1_b {hal v : Int} {s : Nat} (h : -1 ≤ v ∧ v ≤ 20) : -1 ≤ cv1 hal s v ∧ cv1 hal s v ≤ 20 := by
  unfold cv1
  split <;> omega
theorem cv2_b {hal v : Int} {s : Nat} (h : -1 ≤ v ∧ v ≤ 20) : -1 ≤ cv2 hal s v ∧ cv2 hal s v ≤ 20 := by
  unfold cv2
  split <;> omega
theorem cv3_b {bal v : Int} (h : -1 ≤ v ∧ v ≤ 20) : -1 ≤ cv3 bal v ∧ cv3 bal v ≤ 20 := by
  unfold cv3
  have := clp_le (v - 4)
  split <;> omega
theorem cvl_b {cap bal hal m : Int} {s : Nat} (h : -1 ≤ m ∧ m ≤ 20) (hc : 0 ≤ cap) : -1 ≤ cvl cap bal hal s m ∧ cvl cap bal hal s m ≤ 20 := cv3_b (cv2_b (cv1_b ⟨by omega, by omega⟩))
theorem cvl_0 {cap bal hal m : Int} {s : Nat} (h : 0 ≤ m) (hc : 0 ≤ cap) : 0 ≤ cvl cap bal hal s m := by
  unfold cvl cv3 cv2 cv1
  have := clp_le ((if s = 3 ∧ ¬ hal = 0 then min (if (s = 1 ∧ hal % 2 = 1) ∨ (s = 2 ∧ 2 ≤ hal) then 0 else min m cap) 4 else (if (s = 1 ∧ hal % 2 = 1) ∨ (s = 2 ∧ 2 ≤ hal) then 0 else min m cap)) - 4)
  split
  · exact this.1
  · split <;> split <;> omega
/-- who stands ahead of whom -/
def bfr (c : Nat → Int) (k j : Nat) : Bool := decide (c k < c j) || (decide (c k = c j) && decide (k < j))
theorem bfr_iff {c : Nat → Int} {k j : Nat} : bfr c k j = true ↔ c k < c j ∨ (c k = c j ∧ k < j) := by unfold bfr; simp
theorem bfr_f {c : Nat → Int} {k j : Nat} (h : ¬ (c k < c j ∨ (c k = c j ∧ k < j))) : bfr c k j = false := by
  rcases Bool.eq_false_or_eq_true (bfr c k j) with q | q
  · exact absurd (bfr_iff.mp q) h
  · exact q
def plc (t : q_T) (S : Nat → Bool) (c : Nat → Int) (j : Nat) : Nat := fb_ct (fun k => S k && (decide (t 4 k = t 4 j) && bfr c k j)) (t 2 0)
def pan (t : q_T) (S : Nat → Bool) (s : Nat) : Nat := fb_ct (fun k => S k && decide (t 4 k = s)) (t 2 0)
def dwn (drop p : Nat) : Nat := min drop ((p - 1) / 2)
def fat (t : q_T) (S : Nat → Bool) (c : Nat → Int) (drop j : Nat) : Nat := if plc t S c j < dwn drop (pan t S (t 4 j)) then 0 else if pan t S (t 4 j) - dwn drop (pan t S (t 4 j)) ≤ plc t S c j then 1 else 2
def kpt (t : q_T) (S : Nat → Bool) (c : Nat → Int) (drop j : Nat) : Bool := S j && decide (fat t S c drop j = 2)
def smS (t : q_T) (S : Nat → Bool) (c : Nat → Int) (drop k : Nat) : Int := fb_si (fun j => if kpt t S c drop j then c j else 0) k
def ptS (t : q_T) (S : Nat → Bool) (c : Nat → Int) (drop : Nat) (deg : Int) : Int := if fb_ct (kpt t S c drop) (t 2 0) = 0 then 0 else (smS t S c drop (t 2 0) * 15 * deg).tdiv (fb_ct (kpt t S c drop) (t 2 0))
/-- a dive that is laid -/
def g_L (M : q_M) (m : Nat → Int) (cap bal hal deg : Int) : Prop := (∀ j, j < 11 → M.1 293 j = Int32.ofInt (m j) ∧ -1 ≤ m j ∧ m j ≤ 20) ∧ (M.1 271 36 = Int32.ofInt cap ∧ 0 ≤ cap ∧ cap ≤ 20) ∧ (M.1 271 37 = Int32.ofInt bal ∧ 0 ≤ bal ∧ bal ≤ 2) ∧ (M.1 271 38 = Int32.ofInt hal ∧ 0 ≤ hal ∧ hal ≤ 3) ∧ (M.1 271 39 = Int32.ofInt deg ∧ 0 ≤ deg ∧ deg ≤ 60)
/-- who takes part: has marked, is not barred -/
def prt (m : Nat → Int) (bar : Int) (j : Nat) : Bool := !decide (m j = -1) && !decide ((j : Int) = bar)
theorem bt_h {h : Int} (h0 : 0 ≤ h) (h3 : h ≤ 3) : bt (Int32.ofInt h) 0 = decide (h % 2 = 1) ∧ bt (Int32.ofInt h) 1 = decide (2 ≤ h) := by
  have : h = 0 ∨ h = 1 ∨ h = 2 ∨ h = 3 := by omega
  rcases this with rfl | rfl | rfl | rfl <;> decide
section RP
variable {m : Nat → Int} {cap bal hal deg : Int}
variable {L : Nat} {xs : Nat → Int32} {E : q_E} {d : Nat} {M : q_M} {t : q_T} {n : sN} {Q : Option Value → q_M → Prop} {P : q_M → Prop}
set_option maxRecDepth 100000 in
set_option maxHeartbeats 4000000 in
theorem k_countOf (g : g_R M t n) (l : g_L M m cap bal hal deg) {a : Int32} (j : Nat) (hj : j < t 2 0) (hQ : Q (some (.int (Int32.ofInt (cvl cap bal hal (t 4 j) (m j))))) M) (ha : a = nI j := by (first | assumption | (simp only [z_nat, z_lit, ← Int32.ofInt_add, ← Int32.ofInt_sub, ← Int32.ofInt_mul]; exact congrArg Int32.ofInt (by omega)) | (simp only [z_nat, z_lit, ← Int32.ofInt_add, ← Int32.ofInt_sub, ← Int32.ofInt_mul]; done) | exact congrArg Int32.ofInt (by omega) | rfl)) : q_C q_mt (L, xs, q_shp) E nX12_countOf (d + 1) 0 0 [.ref 271, .int (a)] M Q := by
  subst ha
  have h11 := g.j11
  have h4 := (g.bj hj).2
  obtain ⟨l1, l2, l3, l4, l5⟩ := l
  have hm := l1 j (by omega)
  have hbt := bt_h l4.2.1 l4.2.2
  unfold cvl at hQ
  have W72 : ∀ v : Int, -1 ≤ v ∧ v ≤ 20 → cv3 bal v = cv3 bal (cv2 hal (t 4 j) (cv1 hal (t 4 j) (min (m j) cap))) → q_G q_mt (L, xs, q_shp) E nX12_countOf (d + 1) 0 0 (q_Q (L, xs, q_shp) E Q) 72 [some (.ref 271), some (.int (nI j)), some (.int (Int32.ofInt v)), some (.int (nI (t 4 j)))] [] M := by
    intro v hv e
    rw [← e] at hQ
    unfold cv3 at hQ
    refine w_at 90 [] ?_
    refine ⟨Int32.ofInt bal, l3.1, ?_⟩
    refine z_le bal 0 (fun h => ?_) (fun h => ?_)
    · rw [if_neg (by omega)] at hQ
      exact ⟨_, rfl, hQ⟩
    · rw [if_pos h] at hQ
      exact k_clipped (v - 4) (by omega) ⟨_, rfl, hQ⟩
  have W54 : ∀ v : Int, -1 ≤ v ∧ v ≤ 20 → v = cv1 hal (t 4 j) (min (m j) cap) → q_G q_mt (L, xs, q_shp) E nX12_countOf (d + 1) 0 0 (q_Q (L, xs, q_shp) E Q) 54 [some (.ref 271), some (.int (nI j)), some (.int (Int32.ofInt v)), some (.int (nI (t 4 j)))] [] M := by
    intro v hv e
    rw [← e] at W72
    unfold cv2 at W72
    refine w_at 90 [72] ?_
    refine z_ne (t 4 j) 3 (fun h => ?_) (fun h => ?_)
    · rw [if_neg (by omega)] at W72
      exact W72 v hv rfl
    · refine ⟨Int32.ofInt hal, l4.1, ?_⟩
      refine z_eq hal 0 (fun h2 => ?_) (fun h2 => ?_)
      · rw [if_neg (by omega)] at W72
        exact W72 v hv rfl
      · rw [if_pos (by omega)] at W72
        exact k_lesser v 4 (by omega) (by omega) (W72 (min v 4) (by omega) rfl)
  unfold cv1 at W54
  refine w_in 90 [54] ?_
  refine ⟨j, Int32.ofInt (m j), by (first | assumption | (simp only [z_nat, z_lit, ← Int32.ofInt_add, ← Int32.ofInt_sub, ← Int32.ofInt_mul]; exact congrArg Int32.ofInt (by omega)) | (simp only [z_nat, z_lit, ← Int32.ofInt_add, ← Int32.ofInt_sub, ← Int32.ofInt_mul]; done) | exact congrArg Int32.ofInt (by omega) | rfl), by (dsimp only; omega), hm.1, ?_⟩
  refine ⟨Int32.ofInt cap, l2.1, ?_⟩
  refine k_lesser (m j) cap (by omega) (by omega) ?_
  refine k_sortOf g j hj ?_
  refine z_ne (t 4 j) 1 (fun h => ?_) (fun h => ?_)
  · refine z_ne (t 4 j) 2 (fun h2 => ?_) (fun h2 => ?_)
    · rw [if_neg (by omega)] at W54
      exact W54 _ (by omega) rfl
    · refine ⟨Int32.ofInt hal, l4.1, ?_⟩
      refine k_has (Int32.ofInt hal) 1 (by omega) (fun h3 => br_f (by decide) ?_) (fun h3 => br_t (by decide) ?_)
      · rw [hbt.2] at h3
        have h3 := of_decide_eq_true h3
        rw [if_pos (by omega)] at W54
        exact W54 0 (by omega) rfl
      · rw [hbt.2] at h3
        have h3 := of_decide_eq_false h3
        rw [if_neg (by omega)] at W54
        exact W54 _ (by omega) rfl
  · refine ⟨Int32.ofInt hal, l4.1, ?_⟩
    refine k_has (Int32.ofInt hal) 0 (by omega) (fun h3 => bn_t (by decide) ?_) (fun h3 => bn_f (by decide) ?_)
    · rw [hbt.1] at h3
      have h3 := of_decide_eq_true h3
      rw [if_pos (by omega)] at W54
      exact W54 0 (by omega) rfl
    · rw [hbt.1] at h3
      have h3 := of_decide_eq_false h3
      refine z_ne (t 4 j) 2 (fun h2 => ?_) (fun h2 => by omega)
      rw [if_neg (by omega)] at W54
      exact W54 _ (by omega) rfl
set_option maxRecDepth 100000 in
set_option maxHeartbeats 4000000 in
theorem k_isOfPanel (g : g_R M t n) (l : g_L M m cap bal hal deg) {a b c : Int32} (j s : Nat) (bar : Int) (hj : j < t 2 0) (hs : s ≤ 3) (hbar : -1 ≤ bar ∧ bar ≤ 10) (h1 : prt m bar j = true → t 4 j = s → Q (some (.int 1)) M) (h0 : ¬ (prt m bar j = true ∧ t 4 j = s) → Q (some (.int 0)) M) (ha : a = nI j := by (first | assumption | (simp only [z_nat, z_lit, ← Int32.ofInt_add, ← Int32.ofInt_sub, ← Int32.ofInt_mul]; exact congrArg Int32.ofInt (by omega)) | (simp only [z_nat, z_lit, ← Int32.ofInt_add, ← Int32.ofInt_sub, ← Int32.ofInt_mul]; done) | exact congrArg Int32.ofInt (by omega) | rfl)) (hb : b = nI s := by (first | assumption | (simp only [z_nat, z_lit, ← Int32.ofInt_add, ← Int32.ofInt_sub, ← Int32.ofInt_mul]; exact congrArg Int32.ofInt (by omega)) | (simp only [z_nat, z_lit, ← Int32.ofInt_add, ← Int32.ofInt_sub, ← Int32.ofInt_mul]; done) | exact congrArg Int32.ofInt (by omega) | rfl)) (hc : c = Int32.ofInt bar := by (first | assumption | (simp only [z_nat, z_lit, ← Int32.ofInt_add, ← Int32.ofInt_sub, ← Int32.ofInt_mul]; exact congrArg Int32.ofInt (by omega)) | (simp only [z_nat, z_lit, ← Int32.ofInt_add, ← Int32.ofInt_sub, ← Int32.ofInt_mul]; done) | exact congrArg Int32.ofInt (by omega) | rfl)) : q_C q_mt (L, xs, q_shp) E nX12_isOfPanel (d + 1) 0 0 [.ref 271, .int (a), .int (b), .int (c)] M Q := by
  subst ha hb hc
  have h11 := g.j11
  have h4 := (g.bj hj).2
  have hm := l.1 j (by omega)
  have hp : prt m bar j = true ↔ ¬ m j = -1 ∧ ¬ (j : Int) = bar := by
    unfold prt
    rw [Bool.and_eq_true, Bool.not_eq_true', Bool.not_eq_true', decide_eq_false_iff_not, decide_eq_false_iff_not]
  refine w_in 90 [] ?_
  refine z_eq j bar (fun h => ⟨z_0, h0 (fun z => (hp.mp z.1).2 h)⟩) (fun h => ?_)
  refine ⟨j, Int32.ofInt (m j), by (first | assumption | (simp only [z_nat, z_lit, ← Int32.ofInt_add, ← Int32.ofInt_sub, ← Int32.ofInt_mul]; exact congrArg Int32.ofInt (by omega)) | (simp only [z_nat, z_lit, ← Int32.ofInt_add, ← Int32.ofInt_sub, ← Int32.ofInt_mul]; done) | exact congrArg Int32.ofInt (by omega) | rfl), by (dsimp only; omega), hm.1, ?_⟩
  refine z_eq (m j) (-1) (fun h2 => ⟨z_0, h0 (fun z => (hp.mp z.1).1 h2)⟩) (fun h2 => ?_)
  refine k_sortOf g j hj ?_
  exact z_ne (t 4 j) s (fun h3 => ⟨z_0, h0 (fun z => h3 (by omega))⟩) (fun h3 => ⟨z_1, h1 (hp.mpr ⟨h2, h⟩) (by omega)⟩)
set_option maxRecDepth 100000 in
set_option maxHeartbeats 4000000 in
theorem k_panelOf (g : g_R M t n) (l : g_L M m cap bal hal deg) {a b : Int32} (s : Nat) (bar : Int) (hs : s ≤ 3) (hbar : -1 ≤ bar ∧ bar ≤ 10) (hQ : Q (some (.int (nI (pan t (prt m bar) s)))) M) (ha : a = nI s := by (first | assumption | (simp only [z_nat, z_lit, ← Int32.ofInt_add, ← Int32.ofInt_sub, ← Int32.ofInt_mul]; exact congrArg Int32.ofInt (by omega)) | (simp only [z_nat, z_lit, ← Int32.ofInt_add, ← Int32.ofInt_sub, ← Int32.ofInt_mul]; done) | exact congrArg Int32.ofInt (by omega) | rfl)) (hb : b = Int32.ofInt bar := by (first | assumption | (simp only [z_nat, z_lit, ← Int32.ofInt_add, ← Int32.ofInt_sub, ← Int32.ofInt_mul]; exact congrArg Int32.ofInt (by omega)) | (simp only [z_nat, z_lit, ← Int32.ofInt_add, ← Int32.ofInt_sub, ← Int32.ofInt_mul]; done) | exact congrArg Int32.ofInt (by omega) | rfl)) : q_C q_mt (L, xs, q_shp) E nX12_panelOf (d + 2) 0 0 [.ref 271, .int (a), .int (b)] M Q := by
  subst ha hb
  have h11 := g.j11
  have W := lp_up (W := fun k => ∀ u v, u = nI (fb_ct (fun k => prt m bar k && decide (t 4 k = s)) k) → v = nI k → q_G q_mt (L, xs, q_shp) E nX12_panelOf (d + 2) 0 0 (q_Q (L, xs, q_shp) E Q) 5 [some (.ref 271), some (.int (nI s)), some (.int (Int32.ofInt bar)), some (.int (u)), some (.int (v))] [] M) (t 2 0) ?_ ?_ 0 (Nat.zero_le _)
  · refine w_in 90 [5] ?_
    exact W _ _ rfl rfl
  · rintro u v rfl rfl
    refine w_at 90 [5] ?_
    refine ⟨2, nI (t 2 0), by (first | assumption | (simp only [z_nat, z_lit, ← Int32.ofInt_add, ← Int32.ofInt_sub, ← Int32.ofInt_mul]; exact congrArg Int32.ofInt (by omega)) | (simp only [z_nat, z_lit, ← Int32.ofInt_add, ← Int32.ofInt_sub, ← Int32.ofInt_mul]; done) | exact congrArg Int32.ofInt (by omega) | rfl), by (dsimp only; omega), g.R2, ?_⟩
    exact z_le (t 2 0) (t 2 0) (fun h => ⟨_, rfl, hQ⟩) (fun h => by omega)
  · rintro k hk ih u v rfl rfl
    have hc := fb_ct_le (fun k => prt m bar k && decide (t 4 k = s)) k
    refine w_at 90 [5] ?_
    refine ⟨2, nI (t 2 0), by (first | assumption | (simp only [z_nat, z_lit, ← Int32.ofInt_add, ← Int32.ofInt_sub, ← Int32.ofInt_mul]; exact congrArg Int32.ofInt (by omega)) | (simp only [z_nat, z_lit, ← Int32.ofInt_add, ← Int32.ofInt_sub, ← Int32.ofInt_mul]; done) | exact congrArg Int32.ofInt (by omega) | rfl), by (dsimp only; omega), g.R2, ?_⟩
    refine z_le (t 2 0) k (fun h => by omega) (fun h => ?_)
    refine k_isOfPanel g l k s bar hk hs hbar (fun h1 h2 => br_f (by decide) ?_) (fun h1 => br_t (by decide) ?_)
    · exact ih _ _ (by rw [ct_t (p := fun k => prt m bar k && decide (t 4 k = s)) (by rw [h1, decide_eq_true h2]; rfl)]; (first | assumption | (simp only [z_nat, z_lit, ← Int32.ofInt_add, ← Int32.ofInt_sub, ← Int32.ofInt_mul]; exact congrArg Int32.ofInt (by omega)) | (simp only [z_nat, z_lit, ← Int32.ofInt_add, ← Int32.ofInt_sub, ← Int32.ofInt_mul]; done) | exact congrArg Int32.ofInt (by omega) | rfl)) (by (first | assumption | (simp only [z_nat, z_lit, ← Int32.ofInt_add, ← Int32.ofInt_sub, ← Int32.ofInt_mul]; exact congrArg Int32.ofInt (by omega)) | (simp only [z_nat, z_lit, ← Int32.ofInt_add, ← Int32.ofInt_sub, ← Int32.ofInt_mul]; done) | exact congrArg Int32.ofInt (by omega) | rfl))
    · have hf : (prt m bar k && decide (t 4 k = s)) = false := by
        rcases Bool.eq_false_or_eq_true (prt m bar k) with q | q
        · rw [decide_eq_false (fun z => h1 ⟨q, z⟩), Bool.and_false]
        · rw [q, Bool.false_and]
      exact ih _ _ (by rw [ct_f (p := fun k => prt m bar k && decide (t 4 k = s)) hf]; (first | assumption | (simp only [z_nat, z_lit, ← Int32.ofInt_add, ← Int32.ofInt_sub, ← Int32.ofInt_mul]; exact congrArg Int32.ofInt (by omega)) | (simp only [z_nat, z_lit, ← Int32.ofInt_add, ← Int32.ofInt_sub, ← Int32.ofInt_mul]; done) | exact congrArg Int32.ofInt (by omega) | rfl)) (by (first | assumption | (simp only [z_nat, z_lit, ← Int32.ofInt_add, ← Int32.ofInt_sub, ← Int32.ofInt_mul]; exact congrArg Int32.ofInt (by omega)) | (simp only [z_nat, z_lit, ← Int32.ofInt_add, ← Int32.ofInt_sub, ← Int32.ofInt_mul]; done) | exact congrArg Int32.ofInt (by omega) | rfl))
theorem g_L.cb (l : g_L M m cap bal hal deg) (j : Nat) {s : Nat} (h : j < 11) : -1 ≤ cvl cap bal hal s (m j) ∧ cvl cap bal hal s (m j) ≤ 20 := cvl_b (l.1 j h).2 l.2.1.2.1
/-- what counts, judge by judge -/
abbrev cvt (t : q_T) (m : Nat → Int) (cap bal hal : Int) : Nat → Int := fun k => cvl cap bal hal (t 4 k) (m k)
set_option maxRecDepth 100000 in
set_option maxHeartbeats 4000000 in
theorem k_aheadOf (g : g_R M t n) (l : g_L M m cap bal hal deg) {a b : Int32} (j : Nat) (bar : Int) (hj : j < t 2 0) (hbar : -1 ≤ bar ∧ bar ≤ 10) (hQ : Q (some (.int (nI (plc t (prt m bar) (cvt t m cap bal hal) j)))) M) (ha : a = nI j := by (first | assumption | (simp only [z_nat, z_lit, ← Int32.ofInt_add, ← Int32.ofInt_sub, ← Int32.ofInt_mul]; exact congrArg Int32.ofInt (by omega)) | (simp only [z_nat, z_lit, ← Int32.ofInt_add, ← Int32.ofInt_sub, ← Int32.ofInt_mul]; done) | exact congrArg Int32.ofInt (by omega) | rfl)) (hb : b = Int32.ofInt bar := by (first | assumption | (simp only [z_nat, z_lit, ← Int32.ofInt_add, ← Int32.ofInt_sub, ← Int32.ofInt_mul]; exact congrArg Int32.ofInt (by omega)) | (simp only [z_nat, z_lit, ← Int32.ofInt_add, ← Int32.ofInt_sub, ← Int32.ofInt_mul]; done) | exact congrArg Int32.ofInt (by omega) | rfl)) : q_C q_mt (L, xs, q_shp) E nX12_aheadOf (d + 2) 0 0 [.ref 271, .int (a), .int (b)] M Q := by
  subst ha hb
  have h11 := g.j11
  have h4 := (g.bj hj).2
  have hcj := l.cb j (s := t 4 j) (by omega)
  have W := lp_up (W := fun k => ∀ u v, u = nI (fb_ct (fun k => prt m bar k && (decide (t 4 k = t 4 j) && bfr (cvt t m cap bal hal) k j)) k) → v = nI k → q_G q_mt (L, xs, q_shp) E nX12_aheadOf (d + 2) 0 0 (q_Q (L, xs, q_shp) E Q) 5 [some (.ref 271), some (.int (nI j)), some (.int (Int32.ofInt bar)), some (.int (u)), some (.int (v))] [] M) (t 2 0) ?_ ?_ 0 (Nat.zero_le _)
  · refine w_in 90 [5] ?_
    exact W _ _ rfl rfl
  · rintro u v rfl rfl
    refine w_at 90 [5] ?_
    refine ⟨2, nI (t 2 0), by (first | assumption | (simp only [z_nat, z_lit, ← Int32.ofInt_add, ← Int32.ofInt_sub, ← Int32.ofInt_mul]; exact congrArg Int32.ofInt (by omega)) | (simp only [z_nat, z_lit, ← Int32.ofInt_add, ← Int32.ofInt_sub, ← Int32.ofInt_mul]; done) | exact congrArg Int32.ofInt (by omega) | rfl), by (dsimp only; omega), g.R2, ?_⟩
    exact z_le (t 2 0) (t 2 0) (fun h => ⟨_, rfl, hQ⟩) (fun h => by omega)
  · rintro k hk ih u v rfl rfl
    have hc := fb_ct_le (fun k => prt m bar k && (decide (t 4 k = t 4 j) && bfr (cvt t m cap bal hal) k j)) k
    have hck := l.cb k (s := t 4 k) (by omega)
    have no : (prt m bar k && (decide (t 4 k = t 4 j) && bfr (cvt t m cap bal hal) k j)) = false → fb_ct (fun k => prt m bar k && (decide (t 4 k = t 4 j) && bfr (cvt t m cap bal hal) k j)) (k + 1) = fb_ct (fun k => prt m bar k && (decide (t 4 k = t 4 j) && bfr (cvt t m cap bal hal) k j)) k := fun h => ct_f h
    have yes : (prt m bar k && (decide (t 4 k = t 4 j) && bfr (cvt t m cap bal hal) k j)) = true → fb_ct (fun k => prt m bar k && (decide (t 4 k = t 4 j) && bfr (cvt t m cap bal hal) k j)) (k + 1) = fb_ct (fun k => prt m bar k && (decide (t 4 k = t 4 j) && bfr (cvt t m cap bal hal) k j)) k + 1 := fun h => ct_t h
    refine w_at 90 [5] ?_
    refine ⟨2, nI (t 2 0), by (first | assumption | (simp only [z_nat, z_lit, ← Int32.ofInt_add, ← Int32.ofInt_sub, ← Int32.ofInt_mul]; exact congrArg Int32.ofInt (by omega)) | (simp only [z_nat, z_lit, ← Int32.ofInt_add, ← Int32.ofInt_sub, ← Int32.ofInt_mul]; done) | exact congrArg Int32.ofInt (by omega) | rfl), by (dsimp only; omega), g.R2, ?_⟩
    refine z_le (t 2 0) k (fun h => by omega) (fun h => ?_)
    refine z_eq k j (fun h1 => ?_) (fun h1 => ?_)
    · obtain rfl : k = j := by omega
      refine ih _ _ (by rw [no (by unfold bfr; simp)]) (by (first | assumption | (simp only [z_nat, z_lit, ← Int32.ofInt_add, ← Int32.ofInt_sub, ← Int32.ofInt_mul]; exact congrArg Int32.ofInt (by omega)) | (simp only [z_nat, z_lit, ← Int32.ofInt_add, ← Int32.ofInt_sub, ← Int32.ofInt_mul]; done) | exact congrArg Int32.ofInt (by omega) | rfl))
    · refine k_sortOf g j hj ?_
      refine k_isOfPanel g l k (t 4 j) bar hk h4 hbar (fun h2 h3 => bn_t (by decide) ?_) (fun h2 => bn_f (by decide) ?_)
      · refine k_countOf g l k hk ?_
        refine k_countOf g l j hj ?_
        refine z_lt (cvl cap bal hal (t 4 k) (m k)) (cvl cap bal hal (t 4 j) (m j)) (fun h5 => ?_) (fun h5 => ?_)
        · exact ih _ _ (by rw [yes (by unfold bfr; rw [h2, decide_eq_true h3, decide_eq_true h5]; rfl)]; (first | assumption | (simp only [z_nat, z_lit, ← Int32.ofInt_add, ← Int32.ofInt_sub, ← Int32.ofInt_mul]; exact congrArg Int32.ofInt (by omega)) | (simp only [z_nat, z_lit, ← Int32.ofInt_add, ← Int32.ofInt_sub, ← Int32.ofInt_mul]; done) | exact congrArg Int32.ofInt (by omega) | rfl)) (by (first | assumption | (simp only [z_nat, z_lit, ← Int32.ofInt_add, ← Int32.ofInt_sub, ← Int32.ofInt_mul]; exact congrArg Int32.ofInt (by omega)) | (simp only [z_nat, z_lit, ← Int32.ofInt_add, ← Int32.ofInt_sub, ← Int32.ofInt_mul]; done) | exact congrArg Int32.ofInt (by omega) | rfl))
        · refine k_countOf g l k hk ?_
          refine k_countOf g l j hj ?_
          refine z_ne (cvl cap bal hal (t 4 k) (m k)) (cvl cap bal hal (t 4 j) (m j)) (fun h6 => ?_) (fun h6 => ?_)
          · have hf : (prt m bar k && (decide (t 4 k = t 4 j) && bfr (cvt t m cap bal hal) k j)) = false := by
              rw [bfr_f (show ¬ (cvl cap bal hal (t 4 k) (m k) < cvl cap bal hal (t 4 j) (m j) ∨ (cvl cap bal hal (t 4 k) (m k) = cvl cap bal hal (t 4 j) (m j) ∧ k < j)) by omega), Bool.and_false, Bool.and_false]
            exact ih _ _ (by rw [no hf]; (first | assumption | (simp only [z_nat, z_lit, ← Int32.ofInt_add, ← Int32.ofInt_sub, ← Int32.ofInt_mul]; exact congrArg Int32.ofInt (by omega)) | (simp only [z_nat, z_lit, ← Int32.ofInt_add, ← Int32.ofInt_sub, ← Int32.ofInt_mul]; done) | exact congrArg Int32.ofInt (by omega) | rfl)) (by (first | assumption | (simp only [z_nat, z_lit, ← Int32.ofInt_add, ← Int32.ofInt_sub, ← Int32.ofInt_mul]; exact congrArg Int32.ofInt (by omega)) | (simp only [z_nat, z_lit, ← Int32.ofInt_add, ← Int32.ofInt_sub, ← Int32.ofInt_mul]; done) | exact congrArg Int32.ofInt (by omega) | rfl))
          · refine z_le j k (fun h7 => ?_) (fun h7 => ?_)
            · have hf : (prt m bar k && (decide (t 4 k = t 4 j) && bfr (cvt t m cap bal hal) k j)) = false := by
                rw [bfr_f (show ¬ (cvl cap bal hal (t 4 k) (m k) < cvl cap bal hal (t 4 j) (m j) ∨ (cvl cap bal hal (t 4 k) (m k) = cvl cap bal hal (t 4 j) (m j) ∧ k < j)) by omega), Bool.and_false, Bool.and_false]
              exact ih _ _ (by rw [no hf]; (first | assumption | (simp only [z_nat, z_lit, ← Int32.ofInt_add, ← Int32.ofInt_sub, ← Int32.ofInt_mul]; exact congrArg Int32.ofInt (by omega)) | (simp only [z_nat, z_lit, ← Int32.ofInt_add, ← Int32.ofInt_sub, ← Int32.ofInt_mul]; done) | exact congrArg Int32.ofInt (by omega) | rfl)) (by (first | assumption | (simp only [z_nat, z_lit, ← Int32.ofInt_add, ← Int32.ofInt_sub, ← Int32.ofInt_mul]; exact congrArg Int32.ofInt (by omega)) | (simp only [z_nat, z_lit, ← Int32.ofInt_add, ← Int32.ofInt_sub, ← Int32.ofInt_mul]; done) | exact congrArg Int32.ofInt (by omega) | rfl))
            · have hf : (prt m bar k && (decide (t 4 k = t 4 j) && bfr (cvt t m cap bal hal) k j)) = true := by
                rw [h2, decide_eq_true h3, bfr_iff.mpr (Or.inr ⟨h6, by omega⟩)]; rfl
              exact ih _ _ (by rw [yes hf]; (first | assumption | (simp only [z_nat, z_lit, ← Int32.ofInt_add, ← Int32.ofInt_sub, ← Int32.ofInt_mul]; exact congrArg Int32.ofInt (by omega)) | (simp only [z_nat, z_lit, ← Int32.ofInt_add, ← Int32.ofInt_sub, ← Int32.ofInt_mul]; done) | exact congrArg Int32.ofInt (by omega) | rfl)) (by (first | assumption | (simp only [z_nat, z_lit, ← Int32.ofInt_add, ← Int32.ofInt_sub, ← Int32.ofInt_mul]; exact congrArg Int32.ofInt (by omega)) | (simp only [z_nat, z_lit, ← Int32.ofInt_add, ← Int32.ofInt_sub, ← Int32.ofInt_mul]; done) | exact congrArg Int32.ofInt (by omega) | rfl))
      · have hf : (prt m bar k && (decide (t 4 k = t 4 j) && bfr (cvt t m cap bal hal) k j)) = false := by
          rcases Bool.eq_false_or_eq_true (prt m bar k) with q | q
          · rw [decide_eq_false (fun z => h2 ⟨q, z⟩), Bool.false_and, Bool.and_false]
          · rw [q, Bool.false_and]
        exact ih _ _ (by rw [no hf]) (by (first | assumption | (simp only [z_nat, z_lit, ← Int32.ofInt_add, ← Int32.ofInt_sub, ← Int32.ofInt_mul]; exact congrArg Int32.ofInt (by omega)) | (simp only [z_nat, z_lit, ← Int32.ofInt_add, ← Int32.ofInt_sub, ← Int32.ofInt_mul]; done) | exact congrArg Int32.ofInt (by omega) | rfl))
set_option maxRecDepth 100000 in
set_option maxHeartbeats 4000000 in
theorem k_dropped {x y : Int32} (a b : Nat) (ha : a ≤ 3) (hb : b ≤ 11) (hQ : Q (some (.int (nI (dwn a b)))) M) (hx : x = nI a := by (first | assumption | (simp only [z_nat, z_lit, ← Int32.ofInt_add, ← Int32.ofInt_sub, ← Int32.ofInt_mul]; exact congrArg Int32.ofInt (by omega)) | (simp only [z_nat, z_lit, ← Int32.ofInt_add, ← Int32.ofInt_sub, ← Int32.ofInt_mul]; done) | exact congrArg Int32.ofInt (by omega) | rfl)) (hy : y = nI b := by (first | assumption | (simp only [z_nat, z_lit, ← Int32.ofInt_add, ← Int32.ofInt_sub, ← Int32.ofInt_mul]; exact congrArg Int32.ofInt (by omega)) | (simp only [z_nat, z_lit, ← Int32.ofInt_add, ← Int32.ofInt_sub, ← Int32.ofInt_mul]; done) | exact congrArg Int32.ofInt (by omega) | rfl)) : q_C q_mt (L, xs, q_shp) E nX12_droppedEachWay (d + 1) 0 0 [.int (x), .int (y)] M Q := by
  subst hx hy
  refine w_in 90 [] ?_
  refine And.intro (by decide) ?_
  have e : (nI b - Int32.ofInt 1) / Int32.ofInt 2 = nI ((b - 1) / 2) := by
    have : ∀ b, b ≤ 11 → (nI b - Int32.ofInt 1) / Int32.ofInt 2 = nI ((b - 1) / 2) := by decide
    exact this b hb
  refine k_lesser a ((b - 1) / 2 : Nat) (by omega) (by omega) ?_ (hy := by rw [e]; rfl)
  refine ⟨_, ?_, hQ⟩
  unfold dwn
  rw [z_nat]
  exact congrArg Int32.ofInt (by omega)
set_option maxRecDepth 100000 in
set_option maxHeartbeats 4000000 in
theorem k_fateOf (g : g_R M t n) (l : g_L M m cap bal hal deg) {a b c : Int32} (j dr : Nat) (bar : Int) (hj : j < t 2 0) (hdr : dr ≤ 3) (hbar : -1 ≤ bar ∧ bar ≤ 10) (hQ : Q (some (.int (nI (fat t (prt m bar) (cvt t m cap bal hal) dr j)))) M) (ha : a = nI j := by (first | assumption | (simp only [z_nat, z_lit, ← Int32.ofInt_add, ← Int32.ofInt_sub, ← Int32.ofInt_mul]; exact congrArg Int32.ofInt (by omega)) | (simp only [z_nat, z_lit, ← Int32.ofInt_add, ← Int32.ofInt_sub, ← Int32.ofInt_mul]; done) | exact congrArg Int32.ofInt (by omega) | rfl)) (hb : b = nI dr := by (first | assumption | (simp only [z_nat, z_lit, ← Int32.ofInt_add, ← Int32.ofInt_sub, ← Int32.ofInt_mul]; exact congrArg Int32.ofInt (by omega)) | (simp only [z_nat, z_lit, ← Int32.ofInt_add, ← Int32.ofInt_sub, ← Int32.ofInt_mul]; done) | exact congrArg Int32.ofInt (by omega) | rfl)) (hc : c = Int32.ofInt bar := by (first | assumption | (simp only [z_nat, z_lit, ← Int32.ofInt_add, ← Int32.ofInt_sub, ← Int32.ofInt_mul]; exact congrArg Int32.ofInt (by omega)) | (simp only [z_nat, z_lit, ← Int32.ofInt_add, ← Int32.ofInt_sub, ← Int32.ofInt_mul]; done) | exact congrArg Int32.ofInt (by omega) | rfl)) : q_C q_mt (L, xs, q_shp) E nX12_fateOf (d + 3) 0 0 [.ref 271, .int (a), .int (b), .int (c)] M Q := by
  subst ha hb hc
  have h4 := (g.bj hj).2
  have hp : pan t (prt m bar) (t 4 j) ≤ 11 := ct_le11 g _ (Nat.le_refl _)
  have hq : plc t (prt m bar) (cvt t m cap bal hal) j ≤ 11 := ct_le11 g _ (Nat.le_refl _)
  have hd : dwn dr (pan t (prt m bar) (t 4 j)) ≤ pan t (prt m bar) (t 4 j) := by unfold dwn; omega
  unfold fat at hQ
  refine w_in 90 [] ?_
  refine k_sortOf g j hj ?_
  refine k_panelOf g l (t 4 j) bar h4 hbar ?_
  refine k_dropped dr _ hdr hp ?_
  refine k_aheadOf g l j bar hj hbar ?_
  refine z_le (dwn dr (pan t (prt m bar) (t 4 j))) (plc t (prt m bar) (cvt t m cap bal hal) j) (fun h => ?_) (fun h => ?_)
  · rw [if_neg (by omega)] at hQ
    refine z_lt (plc t (prt m bar) (cvt t m cap bal hal) j) ((pan t (prt m bar) (t 4 j) : Int) - dwn dr (pan t (prt m bar) (t 4 j))) (fun h2 => ?_) (fun h2 => ?_)
    · rw [if_neg (by omega)] at hQ
      exact ⟨_, rfl, hQ⟩
    · rw [if_pos (by omega)] at hQ
      exact ⟨_, rfl, hQ⟩
  · rw [if_pos (by omega)] at hQ
    exact ⟨_, rfl, hQ⟩
theorem smS_b {t : q_T} {S : Nat → Bool} {c : Nat → Int} {dr k : Nat} (h : ∀ j, j < k → S j = true → 0 ≤ c j ∧ c j ≤ 20) : 0 ≤ smS t S c dr k ∧ smS t S c dr k ≤ 20 * fb_ct (kpt t S c dr) k := by
  induction k with
  | zero => exact ⟨Int.le_refl _, Int.le_refl _⟩
  | succ k ih =>
    have ih := ih (fun j hj => h j (by omega))
    unfold smS at ih ⊢
    rw [fb_si_succ, fb_ct_succ]
    by_cases hk : kpt t S c dr k = true
    · have hS : S k = true := by unfold kpt at hk; exact (Bool.and_eq_true _ _ |>.mp hk).1
      have := h k (by omega) hS
      rw [if_pos hk, if_pos hk]
      push_cast
      omega
    · rw [if_neg hk, if_neg hk]
      push_cast
      omega
set_option maxRecDepth 100000 in
set_option maxHeartbeats 4000000 in
theorem k_laidPoints (g : g_R M t n) (l : g_L M m cap bal hal deg) {a b : Int32} (dr : Nat) (bar : Int) (hdr : dr ≤ 3) (hbar : -1 ≤ bar ∧ bar ≤ 10) (hQ : Q (some (.int (Int32.ofInt (ptS t (prt m bar) (cvt t m cap bal hal) dr deg)))) M) (ha : a = nI dr := by (first | assumption | (simp only [z_nat, z_lit, ← Int32.ofInt_add, ← Int32.ofInt_sub, ← Int32.ofInt_mul]; exact congrArg Int32.ofInt (by omega)) | (simp only [z_nat, z_lit, ← Int32.ofInt_add, ← Int32.ofInt_sub, ← Int32.ofInt_mul]; done) | exact congrArg Int32.ofInt (by omega) | rfl)) (hb : b = Int32.ofInt bar := by (first | assumption | (simp only [z_nat, z_lit, ← Int32.ofInt_add, ← Int32.ofInt_sub, ← Int32.ofInt_mul]; exact congrArg Int32.ofInt (by omega)) | (simp only [z_nat, z_lit, ← Int32.ofInt_add, ← Int32.ofInt_sub, ← Int32.ofInt_mul]; done) | exact congrArg Int32.ofInt (by omega) | rfl)) : q_C q_mt (L, xs, q_shp) E nX12_laidPoints (d + 4) 0 0 [.ref 271, .int (a), .int (b)] M Q := by
  subst ha hb
  have h11 := g.j11
  have hS : ∀ j, j < t 2 0 → prt m bar j = true → 0 ≤ cvt t m cap bal hal j ∧ cvt t m cap bal hal j ≤ 20 := by
    intro j hj h
    have h1 := l.cb j (s := t 4 j) (by omega)
    refine ⟨?_, h1.2⟩
    have h2 : ¬ m j = -1 := by
      unfold prt at h
      rw [Bool.and_eq_true, Bool.not_eq_true', decide_eq_false_iff_not] at h
      exact h.1
    have h3 := l.1 j (by omega)
    exact cvl_0 (by omega) l.2.1.2.1
  have W := lp_up (W := fun k => ∀ u v w, u = Int32.ofInt (smS t (prt m bar) (cvt t m cap bal hal) dr k) → v = nI (fb_ct (kpt t (prt m bar) (cvt t m cap bal hal) dr) k) → w = nI k → q_G q_mt (L, xs, q_shp) E nX12_laidPoints (d + 4) 0 0 (q_Q (L, xs, q_shp) E Q) 8 [some (.ref 271), some (.int (nI dr)), some (.int (Int32.ofInt bar)), some (.int (u)), some (.int (v)), some (.int (w))] [] M) (t 2 0) ?_ ?_ 0 (Nat.zero_le _)
  · refine w_in 90 [8] ?_
    exact W _ _ _ rfl rfl rfl
  · rintro u v w rfl rfl rfl
    have hs := smS_b (t := t) (dr := dr) hS
    have hc := fb_ct_le (kpt t (prt m bar) (cvt t m cap bal hal) dr) (t 2 0)
    unfold ptS at hQ
    refine w_at 90 [8] ?_
    refine ⟨2, nI (t 2 0), by (first | assumption | (simp only [z_nat, z_lit, ← Int32.ofInt_add, ← Int32.ofInt_sub, ← Int32.ofInt_mul]; exact congrArg Int32.ofInt (by omega)) | (simp only [z_nat, z_lit, ← Int32.ofInt_add, ← Int32.ofInt_sub, ← Int32.ofInt_mul]; done) | exact congrArg Int32.ofInt (by omega) | rfl), by (dsimp only; omega), g.R2, ?_⟩
    refine z_le (t 2 0) (t 2 0) (fun h => ?_) (fun h => by omega)
    refine z_ne (fb_ct (kpt t (prt m bar) (cvt t m cap bal hal) dr) (t 2 0)) 0 (fun h1 => ?_) (fun h1 => ?_)
    · rw [if_neg (by omega)] at hQ
      refine ⟨Int32.ofInt deg, l.2.2.2.2.1, ?_⟩
      refine And.intro ?_ ?_
      · intro z
        rw [z_nat, show (0 : Int32) = Int32.ofInt 0 from rfl, z_inj (by omega) (by omega)] at z
        exact h1 z
      · refine ⟨_, ?_, hQ⟩
        have hd := l.2.2.2.2.2
        generalize hsm : smS t (prt m bar) (cvt t m cap bal hal) dr (t 2 0) = s at *
        have hs2 : s ≤ 220 := by omega
        have hp0 : 0 ≤ s * 15 * deg := Int.mul_nonneg (Int.mul_nonneg hs.1 (by omega)) hd.1
        have hp1 : s * 15 * deg ≤ 3300 * 60 := Int.mul_le_mul (by omega) hd.2 hd.1 (by omega)
        rw [← z_div (by omega) (by omega)]
        (first | assumption | (simp only [z_nat, z_lit, ← Int32.ofInt_add, ← Int32.ofInt_sub, ← Int32.ofInt_mul]; exact congrArg Int32.ofInt (by omega)) | (simp only [z_nat, z_lit, ← Int32.ofInt_add, ← Int32.ofInt_sub, ← Int32.ofInt_mul]; done) | exact congrArg Int32.ofInt (by omega) | rfl)
    · rw [if_pos (by omega)] at hQ
      exact ⟨_, rfl, hQ⟩
  · rintro k hk ih u v w rfl rfl rfl
    have hc := fb_ct_le (kpt t (prt m bar) (cvt t m cap bal hal) dr) k
    have h4 := (g.bj hk).2
    have no : kpt t (prt m bar) (cvt t m cap bal hal) dr k = false → smS t (prt m bar) (cvt t m cap bal hal) dr (k + 1) = smS t (prt m bar) (cvt t m cap bal hal) dr k ∧ fb_ct (kpt t (prt m bar) (cvt t m cap bal hal) dr) (k + 1) = fb_ct (kpt t (prt m bar) (cvt t m cap bal hal) dr) k := fun h => ⟨by unfold smS; rw [fb_si_succ, if_neg (by rw [h]; decide), Int.add_zero], ct_f h⟩
    have yes : kpt t (prt m bar) (cvt t m cap bal hal) dr k = true → smS t (prt m bar) (cvt t m cap bal hal) dr (k + 1) = smS t (prt m bar) (cvt t m cap bal hal) dr k + cvl cap bal hal (t 4 k) (m k) ∧ fb_ct (kpt t (prt m bar) (cvt t m cap bal hal) dr) (k + 1) = fb_ct (kpt t (prt m bar) (cvt t m cap bal hal) dr) k + 1 := fun h => ⟨by unfold smS; rw [fb_si_succ, if_pos h], ct_t h⟩
    refine w_at 90 [8] ?_
    refine ⟨2, nI (t 2 0), by (first | assumption | (simp only [z_nat, z_lit, ← Int32.ofInt_add, ← Int32.ofInt_sub, ← Int32.ofInt_mul]; exact congrArg Int32.ofInt (by omega)) | (simp only [z_nat, z_lit, ← Int32.ofInt_add, ← Int32.ofInt_sub, ← Int32.ofInt_mul]; done) | exact congrArg Int32.ofInt (by omega) | rfl), by (dsimp only; omega), g.R2, ?_⟩
    refine z_le (t 2 0) k (fun h => by omega) (fun h => ?_)
    refine k_sortOf g k hk ?_
    refine k_isOfPanel g l k (t 4 k) bar hk h4 hbar (fun h1 _ => br_f (by decide) ?_) (fun h1 => br_t (by decide) ?_)
    · refine k_fateOf g l k dr bar hk hdr hbar ?_
      have hf : fat t (prt m bar) (cvt t m cap bal hal) dr k ≤ 2 := by unfold fat; split; omega; split <;> omega
      refine z_eq (fat t (prt m bar) (cvt t m cap bal hal) dr k) 2 (fun h2 => ?_) (fun h2 => ?_)
      · have y := yes (by unfold kpt; rw [h1, decide_eq_true (by omega)]; rfl)
        refine k_countOf g l k hk ?_
        exact ih _ _ _ (by rw [y.1]; (first | assumption | (simp only [z_nat, z_lit, ← Int32.ofInt_add, ← Int32.ofInt_sub, ← Int32.ofInt_mul]; exact congrArg Int32.ofInt (by omega)) | (simp only [z_nat, z_lit, ← Int32.ofInt_add, ← Int32.ofInt_sub, ← Int32.ofInt_mul]; done) | exact congrArg Int32.ofInt (by omega) | rfl)) (by rw [y.2]; (first | assumption | (simp only [z_nat, z_lit, ← Int32.ofInt_add, ← Int32.ofInt_sub, ← Int32.ofInt_mul]; exact congrArg Int32.ofInt (by omega)) | (simp only [z_nat, z_lit, ← Int32.ofInt_add, ← Int32.ofInt_sub, ← Int32.ofInt_mul]; done) | exact congrArg Int32.ofInt (by omega) | rfl)) (by (first | assumption | (simp only [z_nat, z_lit, ← Int32.ofInt_add, ← Int32.ofInt_sub, ← Int32.ofInt_mul]; exact congrArg Int32.ofInt (by omega)) | (simp only [z_nat, z_lit, ← Int32.ofInt_add, ← Int32.ofInt_sub, ← Int32.ofInt_mul]; done) | exact congrArg Int32.ofInt (by omega) | rfl))
      · have y := no (by unfold kpt; rw [h1, decide_eq_false (by omega)]; rfl)
        exact ih _ _ _ (by rw [y.1]) (by rw [y.2]) (by (first | assumption | (simp only [z_nat, z_lit, ← Int32.ofInt_add, ← Int32.ofInt_sub, ← Int32.ofInt_mul]; exact congrArg Int32.ofInt (by omega)) | (simp only [z_nat, z_lit, ← Int32.ofInt_add, ← Int32.ofInt_sub, ← Int32.ofInt_mul]; done) | exact congrArg Int32.ofInt (by omega) | rfl))
    · have y := no (by unfold kpt; rw [show prt m bar k = false from by rcases Bool.eq_false_or_eq_true (prt m bar k) with q | q; exact absurd ⟨q, rfl⟩ h1; exact q]; rfl)
      exact ih _ _ _ (by rw [y.1]) (by rw [y.2]) (by (first | assumption | (simp only [z_nat, z_lit, ← Int32.ofInt_add, ← Int32.ofInt_sub, ← Int32.ofInt_mul]; exact congrArg Int32.ofInt (by omega)) | (simp only [z_nat, z_lit, ← Int32.ofInt_add, ← Int32.ofInt_sub, ← Int32.ofInt_mul]; done) | exact congrArg Int32.ofInt (by omega) | rfl))
end RP
