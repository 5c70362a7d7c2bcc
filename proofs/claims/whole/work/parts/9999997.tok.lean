/-! tokens: one picture for both sides -/
abbrev Tok : Type := Nat × Nat
theorem tk_n0 {tok : Nat → Nat × Nat} {i k w : Nat} (e : tok i = (k, w)) (h : ¬ k = 0) : ¬ (tok i).1 = 0 := by rw [e]; exact h
/-- what the i-th token is -/
def isT (x : Nat → Nat) (len i : Nat) (p : Tok) : Prop := (p = (0, 0) ∧ len ≤ tkS x len i) ∨ (∃ w, p = (1, w) ∧ tkS x len i < len ∧ isLt (x (tkS x len i)) = true ∧ isW x (tkS x len i) ((tkR x len (tkS x len i) - tkS x len i)) w) ∨ (p = (2, 0) ∧ tkS x len i < len ∧ isLt (x (tkS x len i)) = true ∧ (tkR x len (tkS x len i) - tkS x len i) ≤ 7 ∧ ∀ w, ¬ isW x (tkS x len i) ((tkR x len (tkS x len i) - tkS x len i)) w) ∨ (∃ v, p = (3, v) ∧ tkS x len i < len ∧ isLt (x (tkS x len i)) = false ∧ isDg (x (tkS x len i)) = true ∧ (tkR x len (tkS x len i) - tkS x len i) ≤ 4 ∧ v = nvE x (tkS x len i) ((tkR x len (tkS x len i) - tkS x len i))) ∨ (∃ c, p = (4, c) ∧ tkS x len i < len ∧ isLt (x (tkS x len i)) = false ∧ isDg (x (tkS x len i)) = false ∧ c = x (tkS x len i)) ∨ (p = (5, 0) ∧ tkS x len i < len ∧ ((isLt (x (tkS x len i)) = true ∧ 7 < (tkR x len (tkS x len i) - tkS x len i) ∧ ∀ w, ¬ isW x (tkS x len i) ((tkR x len (tkS x len i) - tkS x len i)) w) ∨ (isLt (x (tkS x len i)) = false ∧ isDg (x (tkS x len i)) = true ∧ 4 < (tkR x len (tkS x len i) - tkS x len i))))
section TO
variable {x : Nat → Nat} {len : Nat}
theorem isT_ex (i : Nat) : ∃ T, isT x len i T := by
  by_cases h : tkS x len i < len
  · cases hL : isLt (x (tkS x len i)) with
    | true =>
      by_cases hw : ∃ w, isW x (tkS x len i) ((tkR x len (tkS x len i) - tkS x len i)) w
      · obtain ⟨w, hw⟩ := hw
        exact ⟨(1, w), Or.inr (Or.inl ⟨w, rfl, h, hL, hw⟩)⟩
      · have hw : ∀ w, ¬ isW x (tkS x len i) ((tkR x len (tkS x len i) - tkS x len i)) w := fun w z => hw ⟨w, z⟩
        by_cases h7 : (tkR x len (tkS x len i) - tkS x len i) ≤ 7
        · exact ⟨(2, 0), Or.inr (Or.inr (Or.inl ⟨rfl, h, hL, h7, hw⟩))⟩
        · exact ⟨(5, 0), Or.inr (Or.inr (Or.inr (Or.inr (Or.inr ⟨rfl, h, Or.inl ⟨hL, by omega, hw⟩⟩))))⟩
    | false =>
      cases hD : isDg (x (tkS x len i)) with
      | true =>
        by_cases h4 : (tkR x len (tkS x len i) - tkS x len i) ≤ 4
        · exact ⟨(3, _), Or.inr (Or.inr (Or.inr (Or.inl ⟨_, rfl, h, hL, hD, h4, rfl⟩)))⟩
        · exact ⟨(5, 0), Or.inr (Or.inr (Or.inr (Or.inr (Or.inr ⟨rfl, h, Or.inr ⟨hL, hD, by omega⟩⟩))))⟩
      | false => exact ⟨(4, _), Or.inr (Or.inr (Or.inr (Or.inr (Or.inl ⟨_, rfl, h, hL, hD, rfl⟩))))⟩
  · exact ⟨(0, 0), Or.inl ⟨rfl, by omega⟩⟩
theorem tok_ex : ∃ tok : Nat → Tok, ∀ i, isT x len i (tok i) := ⟨fun i => Classical.choose (isT_ex i), fun i => Classical.choose_spec (isT_ex i)⟩
theorem tk_step {k : Nat} (h : tkS x len k < len) : 1 ≤ (tkR x len (tkS x len k) - tkS x len k) ∧ tkS x len k + (tkR x len (tkS x len k) - tkS x len k) = tkR x len (tkS x len k) ∧ tkR x len (tkS x len k) ≤ len ∧ tkR x len (tkS x len k) ≤ tkS x len (k + 1) ∧ tkS x len (k + 1) ≤ len := by
  have run : ∀ f : Nat → Bool, f (x (tkS x len k)) = true → tkR x len (tkS x len k) = rnE f x (len - tkS x len k) (tkS x len k) → tkS x len k < tkR x len (tkS x len k) ∧ tkR x len (tkS x len k) ≤ len := by
    intro f hf er
    have rs := rnE_s (f := f) (x := x) (k := len - tkS x len k) (i := tkS x len k)
    rw [er]
    refine ⟨?_, by omega⟩
    rcases Nat.lt_or_ge (tkS x len k) (rnE f x (len - tkS x len k) (tkS x len k)) with z | z
    · exact z
    · have e : rnE f x (len - tkS x len k) (tkS x len k) = tkS x len k := by omega
      have := rs.2.2.2 (by omega)
      rw [e, hf] at this
      cases this
  have r : tkS x len k < tkR x len (tkS x len k) ∧ tkR x len (tkS x len k) ≤ len := by
    cases hL : isLt (x (tkS x len k)) with
    | true => exact run isLt hL (if_pos hL)
    | false =>
      cases hD : isDg (x (tkS x len k)) with
      | true => exact run isDg hD (by unfold tkR; rw [if_neg (by rw [hL]; decide), if_pos hD])
      | false =>
        have : tkR x len (tkS x len k) = tkS x len k + 1 := by
          unfold tkR
          rw [if_neg (by rw [hL]; decide), if_neg (by rw [hD]; decide)]
        omega
  have bs := rnE_s (f := isBl) (x := x) (k := len - tkR x len (tkS x len k)) (i := tkR x len (tkS x len k))
  have e : tkS x len (k + 1) = rnE isBl x (len - tkR x len (tkS x len k)) (tkR x len (tkS x len k)) := rfl
  rw [← e] at bs
  refine ⟨by omega, by omega, r.2, bs.1, by omega⟩
theorem tkS_0 : tkS x len 0 ≤ len := by
  have bs := rnE_s (f := isBl) (x := x) (k := len) (i := 0)
  have e : tkS x len 0 = rnE isBl x len 0 := rfl
  rw [← e] at bs
  omega
theorem tkT_ex : ∃ T, T ≤ len ∧ tkS x len T = len ∧ ∀ k, k < T → tkS x len k < len := by
  have h : ∀ m k, len - tkS x len k ≤ m → tkS x len k ≤ len → k ≤ tkS x len k → (∀ j, j < k → tkS x len j < len) → ∃ T, T ≤ len ∧ tkS x len T = len ∧ ∀ k, k < T → tkS x len k < len := by
    intro m
    induction m with
    | zero => intro k h1 h2 h3 h4; exact ⟨k, by omega, by omega, h4⟩
    | succ m ih =>
      intro k h1 h2 h3 h4
      by_cases q : tkS x len k = len
      · exact ⟨k, by omega, q, h4⟩
      · have s := tk_step (k := k) (x := x) (len := len) (by omega)
        refine ih (k + 1) (by omega) (by omega) (by omega) (fun j hj => ?_)
        by_cases w : j = k
        · rw [w]
          omega
        · exact h4 j (by omega)
  exact h len 0 (by omega) tkS_0 (Nat.zero_le _) (fun j hj => by omega)
/-- the text and its tokens -/
def g_T (x : Nat → Nat) (len : Nat) (tok : Nat → Tok) (T : Nat) : Prop := (len ≤ 1200 ∧ ∀ i, i < len → x i < 256) ∧ (∀ i, isT x len i (tok i)) ∧ T ≤ len ∧ tkS x len T = len ∧ ∀ k, k < T → tkS x len k < len
variable {tok : Nat → Tok} {T : Nat}
theorem g_T.un (h : g_T x len tok T) {T' : Nat} (h1 : tkS x len T' = len) (h2 : ∀ k, k < T' → tkS x len k < len) : T' = T := by
  rcases Nat.lt_trichotomy T' T with z | z | z
  · have := h.2.2.2.2 T' z
    omega
  · exact z
  · have := h2 T z
    have := h.2.2.2.1
    omega
theorem pr_1 {a b c e : Nat} (h : (a, b) = (c, e)) : a = c := congrArg Prod.fst h
theorem pr_2 {a b c e : Nat} (h : (a, b) = (c, e)) : b = e := congrArg Prod.snd h
theorem isT.lt {i : Nat} {p : Tok} (h : isT x len i p) : p.1 = 0 ∨ tkS x len i < len := by
  rcases h with ⟨rfl, h⟩ | ⟨w, rfl, h, _⟩ | ⟨rfl, h, _⟩ | ⟨v, rfl, h, _⟩ | ⟨c, rfl, h, _⟩ | ⟨rfl, h, _⟩
  · exact Or.inl rfl
  all_goals exact Or.inr h
theorem isT.z {i : Nat} {p : Tok} (h : isT x len i p) (h0 : p.1 = 0) : p = (0, 0) ∧ len ≤ tkS x len i := by
  rcases h with ⟨rfl, h⟩ | ⟨w, rfl, h, _⟩ | ⟨rfl, h, _⟩ | ⟨v, rfl, h, _⟩ | ⟨c, rfl, h, _⟩ | ⟨rfl, h, _⟩
  · exact ⟨rfl, h⟩
  all_goals simp at h0
theorem g_T.fin (h : g_T x len tok T) : tok T = (0, 0) := by
  have a := h.2.1 T
  have b := h.2.2.2.1
  exact (a.z (a.lt.resolve_right (by omega))).1
theorem g_T.lt (h : g_T x len tok T) {i : Nat} (hi : i ≤ T) (hn : ¬ (tok i).1 = 0) : i < T ∧ tkS x len i < len := by
  have : ¬ i = T := fun z => hn (by rw [z, h.fin])
  exact ⟨by omega, h.2.2.2.2 i (by omega)⟩
theorem g_T.nf (h : g_T x len tok T) {i : Nat} (hi : i < T) : ¬ (tok i).1 = 0 := fun z => by
  have a := ((h.2.1 i).z z).2
  have := h.2.2.2.2 i hi
  omega
theorem g_T.le (h : g_T x len tok T) {i : Nat} (hi : i ≤ T) : i ≤ tkS x len i ∧ tkS x len i ≤ len := by
  induction i with
  | zero => exact ⟨Nat.zero_le _, tkS_0⟩
  | succ i ih =>
    have a := ih (by omega)
    have s := tk_step (h.2.2.2.2 i (by omega))
    omega
/-- how far the rest goes -/
theorem g_T.far (h : g_T x len tok T) {i j : Nat} (hij : i ≤ j) (hj : j ≤ T) : tkS x len i + (j - i) ≤ tkS x len j := by
  induction j with
  | zero => obtain rfl : i = 0 := by omega
            omega
  | succ j ih =>
    by_cases q : i = j + 1
    · subst q
      omega
    · have a := ih (by omega) (by omega)
      have s := tk_step (h.2.2.2.2 j (by omega))
      omega
theorem isDg_nL {b : Nat} (h : isDg b = true) : isLt b = false := isLt_f.mpr (by have := isDg_t.mp h; omega)
theorem lt_tk {i p : Nat} (h : tkS x len i < len) (hL : isLt (x (tkS x len i)) = true) (hp : p < (tkR x len (tkS x len i) - tkS x len i)) : 97 ≤ x (tkS x len i + p) ∧ x (tkS x len i + p) ≤ 122 := by
  have er : tkR x len (tkS x len i) = rnE isLt x (len - tkS x len i) (tkS x len i) := if_pos hL
  obtain ⟨s1, s2, s3, s4⟩ := rnE_s (f := isLt) (x := x) (k := len - tkS x len i) (i := tkS x len i)
  rw [← er] at s3
  refine isLt_t.mp (s3 _ (by omega) ?_)
  have hp : p < tkR x len (tkS x len i) - tkS x len i := hp
  omega
theorem isT.num {i v : Nat} (h : isT x len i (3, v)) : tkS x len i < len ∧ isLt (x (tkS x len i)) = false ∧ isDg (x (tkS x len i)) = true ∧ (tkR x len (tkS x len i) - tkS x len i) ≤ 4 ∧ v = nvE x (tkS x len i) ((tkR x len (tkS x len i) - tkS x len i)) := by
  rcases h with ⟨e, _⟩ | ⟨w, e, _⟩ | ⟨e, _⟩ | ⟨v', e, h⟩ | ⟨c, e, _⟩ | ⟨e, _⟩
  case inr.inr.inr.inl => cases e; exact h
  all_goals exact absurd (pr_1 e) (by decide)
theorem isT.wd {i v : Nat} (h : isT x len i (1, v)) : tkS x len i < len ∧ isLt (x (tkS x len i)) = true ∧ isW x (tkS x len i) ((tkR x len (tkS x len i) - tkS x len i)) v := by
  rcases h with ⟨e, _⟩ | ⟨w, e, h⟩ | ⟨e, _⟩ | ⟨v', e, _⟩ | ⟨c, e, _⟩ | ⟨e, _⟩
  case inr.inl => cases e; exact h
  all_goals exact absurd (pr_1 e) (by decide)
theorem isT.sg {i v : Nat} (h : isT x len i (4, v)) : tkS x len i < len ∧ isLt (x (tkS x len i)) = false ∧ isDg (x (tkS x len i)) = false ∧ v = x (tkS x len i) := by
  rcases h with ⟨e, _⟩ | ⟨w, e, _⟩ | ⟨e, _⟩ | ⟨v', e, _⟩ | ⟨c, e, h⟩ | ⟨e, _⟩
  case inr.inr.inr.inr.inl => cases e; exact h
  all_goals exact absurd (pr_1 e) (by decide)
theorem isT.nm {i v : Nat} (h : isT x len i (2, v)) : tkS x len i < len ∧ isLt (x (tkS x len i)) = true ∧ (tkR x len (tkS x len i) - tkS x len i) ≤ 7 ∧ ∀ w, ¬ isW x (tkS x len i) ((tkR x len (tkS x len i) - tkS x len i)) w := by
  rcases h with ⟨e, _⟩ | ⟨w, e, _⟩ | ⟨e, h⟩ | ⟨v', e, _⟩ | ⟨c, e, _⟩ | ⟨e, _⟩
  case inr.inr.inl => exact h
  all_goals exact absurd (pr_1 e) (by decide)
theorem g_T.nv (h : g_T x len tok T) {i v : Nat} (e : tok i = (3, v)) : v ≤ 9999 := by
  have a := h.2.1 i
  rw [e] at a
  obtain ⟨a1, a2, a3, a4, a5⟩ := a.num
  rw [a5]
  have er : tkR x len (tkS x len i) = rnE isDg x (len - tkS x len i) (tkS x len i) := by
    unfold tkR
    rw [if_neg (by rw [a2]; decide), if_pos a3]
  obtain ⟨s1, s2, s3, s4⟩ := rnE_s (f := isDg) (x := x) (k := len - tkS x len i) (i := tkS x len i)
  rw [← er] at s3
  refine nvE_9 (fun p hp => isDg_t.mp (s3 _ (by omega) ?_))
  have hp : p < tkR x len (tkS x len i) - tkS x len i := hp
  omega
theorem g_T.sv (h : g_T x len tok T) {i c : Nat} (e : tok i = (4, c)) : c < 256 := by
  have a := h.2.1 i
  rw [e] at a
  rw [a.sg.2.2.2]
  exact h.1.2 _ a.sg.1
theorem g_T.wv (h : g_T x len tok T) {i w : Nat} (e : tok i = (1, w)) : w < 34 := by
  have a := h.2.1 i
  rw [e] at a
  exact a.wd.2.2.1
theorem g_T.k5 (h : g_T x len tok T) (i : Nat) : (tok i).1 ≤ 5 := by
  rcases h.2.1 i with ⟨e, _⟩ | ⟨w, e, _⟩ | ⟨e, _⟩ | ⟨v', e, _⟩ | ⟨c, e, _⟩ | ⟨e, _⟩ <;> rw [e] <;> simp
theorem g_T.v9 (h : g_T x len tok T) (i : Nat) : (tok i).2 ≤ 9999 := by
  rcases h.2.1 i with ⟨e, _⟩ | ⟨w, e, _⟩ | ⟨e, _⟩ | ⟨v', e, _⟩ | ⟨c, e, _⟩ | ⟨e, _⟩
  · rw [e]; decide
  · have := h.wv e; rw [e]; show w ≤ 9999; omega
  · rw [e]; decide
  · have := h.nv e; rw [e]; exact this
  · have := h.sv e; rw [e]; show c ≤ 9999; omega
  · rw [e]; decide
end TO
/-! the class before its token -/
section CT
variable {L : Nat} {xs : Nat → Int32} {E : q_E} {d : Nat} {M : q_M} {t : q_T} {n : sN} {Q : Option Value → q_M → Prop} {P : q_M → Prop}
variable {x : Nat → Nat} {len : Nat} {tok : Nat → Tok} {T : Nat}
def kC (M : q_M) (x : Nat → Nat) (len i : Nat) (p : Tok) : Prop := M.1 3 3 = nI p.1 ∧ (¬ p.1 = 5 → M.1 3 4 = nI p.2) ∧ (p.1 = 2 → M.2 3 5 = Int64.ofInt (w5E x (tkS x len i) ((tkR x len (tkS x len i) - tkS x len i)) : Nat))
abbrev fTk : List (Nat × Nat) := [(3, 3), (3, 4), (3, 5), (3, 6), (3, 7), (3, 8), (3, 9), (3, 10)]
/-- the class has the i-th token before it, and no fault -/
def g_ct (M : q_M) (x : Nat → Nat) (len : Nat) (tok : Nat → Tok) (T i : Nat) : Prop := (g_T x len tok T ∧ g_tx M x len ∧ g_lx M) ∧ i ≤ T ∧ M.1 3 9 = nI (tkS x len i) ∧ (tkS x len i < len → M.1 3 10 = nI (tkR x len (tkS x len i))) ∧ (M.1 3 7 = Int32.ofInt 0 ∧ M.1 3 8 = Int32.ofInt (-1)) ∧ kC M x len i (tok i)
theorem g_ct.tt {i : Nat} (g : g_ct M x len tok T i) : g_T x len tok T := g.1.1
theorem g_ct.k {i : Nat} (g : g_ct M x len tok T i) : kC M x len i (tok i) := g.2.2.2.2.2
/-- a fault of kind k at the i-th token -/
def g_cf (M : q_M) (x : Nat → Nat) (len k i : Nat) : Prop := M.1 3 7 = nI k ∧ M.1 3 8 = nI (tkS x len i)
theorem kC.eq {M' : q_M} {i : Nat} {w : Tok} (h : kC M x len i w) (e3 : M'.1 3 3 = M.1 3 3) (e4 : M'.1 3 4 = M.1 3 4) (e5 : M'.2 3 5 = M.2 3 5) : kC M' x len i w := ⟨e3.trans h.1, fun z => e4.trans (h.2.1 z), fun z => e5.trans (h.2.2 z)⟩
/-- what the class's own reading gives -/
theorem g_tk.kC {i s r : Nat} (hT : g_T x len tok T) (hs : s = tkS x len i) (hi : i ≤ T) (h : g_tk M x len s r) : M.1 3 9 = nI (tkS x len i) ∧ (tkS x len i < len → M.1 3 10 = nI (tkR x len (tkS x len i))) ∧ kC M x len i (tok i) := by
  subst hs
  obtain ⟨k9, k10, hc⟩ := h
  have a := hT.2.1 i
  have le := hT.le hi
  refine ⟨k9, fun hl => ?_, ?_⟩
  · rcases hc with ⟨c1, c2, c3, c4⟩ | ⟨c1, c2, c3, c4, c5⟩ | ⟨c1, c2, c3, c4, c5⟩ | ⟨c1, c2, c3, c4, c5, c6⟩
    · omega
    · rw [k10, c3, show tkR x len (tkS x len i) = rnE isLt x (len - tkS x len i) (tkS x len i) from if_pos c2]
    · have er : tkR x len (tkS x len i) = rnE isDg x (len - tkS x len i) (tkS x len i) := by
        unfold tkR
        rw [if_neg (by rw [isDg_nL c2]; decide), if_pos c2]
      rw [k10, c3, er]
    · have er : tkR x len (tkS x len i) = tkS x len i + 1 := by
        unfold tkR
        rw [if_neg (by rw [c2]; decide), if_neg (by rw [c3]; decide)]
      rw [k10, c4, er]
  · have un : ∀ {b : Bool}, b = true → b = false → False := fun h1 h2 => by rw [h1] at h2; cases h2
    rcases a with ⟨q, a⟩ | ⟨w, q, a1, a2, a3⟩ | ⟨q, a1, a2, a3, a4⟩ | ⟨v, q, a1, a2, a3, a4, a5⟩ | ⟨c, q, a1, a2, a3, a4⟩ | ⟨q, a1, a2⟩ <;> rw [q]
    · rcases hc with ⟨c1, c2, c3, c4⟩ | ⟨c1, c2, c3, c4, c5⟩ | ⟨c1, c2, c3, c4, c5⟩ | ⟨c1, c2, c3, c4, c5, c6⟩
      · exact ⟨c3, fun _ => c4, fun z => absurd z (show ¬ 0 = 2 by decide)⟩
      all_goals omega
    · rcases hc with ⟨c1, c2, c3, c4⟩ | ⟨c1, c2, c3, c4, c5⟩ | ⟨c1, c2, c3, c4, c5⟩ | ⟨c1, c2, c3, c4, c5, c6⟩
      · omega
      · have er : r = tkR x len (tkS x len i) := c3.trans (if_pos c2).symm
        subst er
        rcases c5 with ⟨v, d1, d2, d3⟩ | ⟨d1, d2, d3⟩
        · rw [← a3.un d1] at d3
          exact ⟨d2, fun _ => d3, fun z => absurd z (show ¬ 1 = 2 by decide)⟩
        · exact absurd a3 (d1 w)
      · exact (un a2 (isDg_nL c2)).elim
      · exact (un a2 c2).elim
    · rcases hc with ⟨c1, c2, c3, c4⟩ | ⟨c1, c2, c3, c4, c5⟩ | ⟨c1, c2, c3, c4, c5⟩ | ⟨c1, c2, c3, c4, c5, c6⟩
      · omega
      · have er : r = tkR x len (tkS x len i) := c3.trans (if_pos c2).symm
        subst er
        rcases c5 with ⟨v, d1, d2, d3⟩ | ⟨d1, d2, d3⟩
        · exact absurd d1 (a4 v)
        · rw [if_pos a3] at d2
          exact ⟨d2, fun _ => d3, fun _ => c4⟩
      · exact (un a2 (isDg_nL c2)).elim
      · exact (un a2 c2).elim
    · rcases hc with ⟨c1, c2, c3, c4⟩ | ⟨c1, c2, c3, c4, c5⟩ | ⟨c1, c2, c3, c4, c5⟩ | ⟨c1, c2, c3, c4, c5, c6⟩
      · omega
      · exact (un c2 a2).elim
      · have er : r = tkR x len (tkS x len i) := by
          unfold tkR
          rw [if_neg (by rw [a2]; decide), if_pos c2]
          exact c3
        subst er
        rw [if_pos a4] at c4
        exact ⟨c4, fun _ => by rw [c5, a5], fun z => absurd z (show ¬ 3 = 2 by decide)⟩
      · exact (un a3 c3).elim
    · rcases hc with ⟨c1, c2, c3, c4⟩ | ⟨c1, c2, c3, c4, c5⟩ | ⟨c1, c2, c3, c4, c5⟩ | ⟨c1, c2, c3, c4, c5, c6⟩
      · omega
      · exact (un c2 a2).elim
      · exact (un c2 a3).elim
      · exact ⟨c5, fun _ => by rw [c6, a4], fun z => absurd z (show ¬ 4 = 2 by decide)⟩
    · rcases hc with ⟨c1, c2, c3, c4⟩ | ⟨c1, c2, c3, c4, c5⟩ | ⟨c1, c2, c3, c4, c5⟩ | ⟨c1, c2, c3, c4, c5, c6⟩
      · omega
      · rcases a2 with a2 | a2
        · have er : r = tkR x len (tkS x len i) := c3.trans (if_pos c2).symm
          subst er
          rcases c5 with ⟨v, d1, d2, d3⟩ | ⟨d1, d2, d3⟩
          · exact absurd d1 (a2.2.2 v)
          · rw [if_neg (by have := a2.2.1; omega)] at d2
            exact ⟨d2, fun z => absurd rfl z, fun z => absurd z (show ¬ 5 = 2 by decide)⟩
        · exact (un c2 a2.1).elim
      · rcases a2 with a2 | a2
        · exact (un a2.1 (isDg_nL c2)).elim
        · have er : r = tkR x len (tkS x len i) := by
            unfold tkR
            rw [if_neg (by rw [a2.1]; decide), if_pos c2]
            exact c3
          subst er
          rw [if_neg (by have := a2.2.2; omega)] at c4
          exact ⟨c4, fun z => absurd rfl z, fun z => absurd z (show ¬ 5 = 2 by decide)⟩
      · rcases a2 with a2 | a2
        · exact (un a2.1 c2).elim
        · exact (un a2.2.1 c3).elim
set_option maxRecDepth 100000 in
set_option maxHeartbeats 4000000 in
theorem k2_adv {i : Nat} (g : g_ct M x len tok T i) (hn : ¬ (tok i).1 = 0) (hQ : ∀ M', q_fs [] fTk M M' → (M'.1 3 6 = M.1 3 6 ∧ g_ct M' x len tok T (i + 1)) → Q none M') : q_C q_mt (L, xs, q_shp) E nX9_advance (d + 1) 0 0 [.ref 3] M Q := by
  obtain ⟨⟨hT, gx, gl⟩, hi, h9, h10, h78, hk⟩ := g
  obtain ⟨l1, l2⟩ := hT.lt hi hn
  have s := tk_step l2
  refine k2_advance gx gl (i := tkR x len (tkS x len i)) s.2.2.1 (h10 l2) (fun M' s' r' hs hf hk' => ?_)
  have hs : s' = tkS x len (i + 1) := hs
  have a := g_tk.kC (i := i + 1) hT hs (by omega) hk'
  refine hQ M' hf.mono ⟨hf.p1 3 6, ⟨hT, gx.fs hf, gl.fs hf⟩, by omega, a.1, a.2.1, ⟨(hf.p1 3 7).trans h78.1, (hf.p1 3 8).trans h78.2⟩, a.2.2⟩
set_option maxRecDepth 100000 in
set_option maxHeartbeats 4000000 in
theorem k2_start (hT : g_T x len tok T) (gx : g_tx M x len) (gl : g_lx M) (hQ : ∀ M', q_fs [] fTk M M' → g_ct M' x len tok T 0 → Q none M') : q_C q_mt (L, xs, q_shp) E nX9_start (d + 2) 0 0 [.ref 3] M Q := by
  refine w_in 90 [] ?_
  refine ⟨_, rfl, ?_⟩
  refine ⟨_, rfl, ?_⟩
  refine ⟨_, rfl, ?_⟩
  have hf0 : q_fs [] fTk M (q_si (q_si (q_si M 3 10 (Int32.ofInt 0)) 3 7 (Int32.ofInt 0)) 3 8 (Int32.ofInt (-1))) := q_fs.rf.s1.s1.s1
  refine k2_advance (gx.fs hf0) (gl.fs hf0) (i := 0) (Nat.zero_le _) rfl (fun M1 s r hs hf1 hk => ?_)
  have hs : s = tkS x len 0 := hs
  have a := g_tk.kC (i := 0) hT hs (Nat.zero_le _) hk
  exact hQ M1 (hf0.tr hf1.mono) ⟨⟨hT, (gx.fs hf0).fs hf1, (gl.fs hf0).fs hf1⟩, Nat.zero_le _, a.1, a.2.1, ⟨(hf1.p1 3 7).trans rfl, (hf1.p1 3 8).trans rfl⟩, a.2.2⟩
theorem kC.v {i k w : Nat} (h : kC M x len i (tok i)) (e : tok i = (k, w)) (hk : ¬ k = 5) : M.1 3 4 = nI w := by
  rw [e] at h
  exact h.2.1 hk
theorem kC.nm {i : Nat} (h : kC M x len i (tok i)) (e : (tok i).1 = 2) : M.2 3 5 = Int64.ofInt (w5E x (tkS x len i) ((tkR x len (tkS x len i) - tkS x len i)) : Nat) := h.2.2 e
theorem tk_pr {tok : Nat → Tok} {i k : Nat} (h : (tok i).1 = k) : tok i = (k, (tok i).2) := by rw [← h]
set_option maxRecDepth 100000 in
set_option maxHeartbeats 4000000 in
theorem k2_isWord {i : Nat} (g : g_ct M x len tok T i) {a : Int32} (w : Nat) (hw : w < 34) (h1 : tok i = (1, w) → Q (some (.int 1)) M) (h0 : ¬ tok i = (1, w) → Q (some (.int 0)) M) (ha : a = nI w := by (first | assumption | (simp only [z_nat, z_lit, ← Int32.ofInt_add, ← Int32.ofInt_sub, ← Int32.ofInt_mul]; exact congrArg Int32.ofInt (by omega)) | (simp only [z_nat, z_lit, ← Int32.ofInt_add, ← Int32.ofInt_sub, ← Int32.ofInt_mul]; done) | exact congrArg Int32.ofInt (by omega) | rfl)) : q_C q_mt (L, xs, q_shp) E nX9_isWord (d) 0 0 [.ref 3, .int (a)] M Q := by
  subst ha
  have k5 := g.tt.k5 i
  have v9 := g.tt.v9 i
  have ek := g.k.1
  refine w_in 90 [] ?_
  refine ⟨_, ek, ?_⟩
  refine z_ne ((tok i).1 : Int) 1 (fun z => ⟨z_0, h0 (fun e => z (by rw [e]; rfl))⟩) (fun z => ?_)
  have z : (tok i).1 = 1 := by omega
  have e4 := g.k.2.1 (by omega)
  refine ⟨_, e4, ?_⟩
  refine z_ne ((tok i).2 : Int) w (fun y => ⟨z_0, h0 (fun e => y (by rw [e]))⟩) (fun y => ⟨z_1, h1 ?_⟩)
  rw [tk_pr z, show (tok i).2 = w by omega]
set_option maxRecDepth 100000 in
set_option maxHeartbeats 4000000 in
theorem k2_isSign {i : Nat} (g : g_ct M x len tok T i) {a : Int32} (w : Nat) (hw : w < 256) (h1 : tok i = (4, w) → Q (some (.int 1)) M) (h0 : ¬ tok i = (4, w) → Q (some (.int 0)) M) (ha : a = nI w := by (first | assumption | (simp only [z_nat, z_lit, ← Int32.ofInt_add, ← Int32.ofInt_sub, ← Int32.ofInt_mul]; exact congrArg Int32.ofInt (by omega)) | (simp only [z_nat, z_lit, ← Int32.ofInt_add, ← Int32.ofInt_sub, ← Int32.ofInt_mul]; done) | exact congrArg Int32.ofInt (by omega) | rfl)) : q_C q_mt (L, xs, q_shp) E nX9_isSign (d) 0 0 [.ref 3, .int (a)] M Q := by
  subst ha
  have k5 := g.tt.k5 i
  have v9 := g.tt.v9 i
  have ek := g.k.1
  refine w_in 90 [] ?_
  refine ⟨_, ek, ?_⟩
  refine z_ne ((tok i).1 : Int) 4 (fun z => ⟨z_0, h0 (fun e => z (by rw [e]; rfl))⟩) (fun z => ?_)
  have z : (tok i).1 = 4 := by omega
  have e4 := g.k.2.1 (by omega)
  refine ⟨_, e4, ?_⟩
  refine z_ne ((tok i).2 : Int) w (fun y => ⟨z_0, h0 (fun e => y (by rw [e]))⟩) (fun y => ⟨z_1, h1 ?_⟩)
  rw [tk_pr z, show (tok i).2 = w by omega]
set_option maxRecDepth 100000 in
set_option maxHeartbeats 4000000 in
theorem k2_refuse {i : Nat} (g : g_ct M x len tok T i) {a : Int32} (k : Nat) (hQ : ∀ M', q_fs [] fTk M M' → g_cf M' x len k i → Q (some (.int 0)) M') (ha : a = nI k := by (first | assumption | (simp only [z_nat, z_lit, ← Int32.ofInt_add, ← Int32.ofInt_sub, ← Int32.ofInt_mul]; exact congrArg Int32.ofInt (by omega)) | (simp only [z_nat, z_lit, ← Int32.ofInt_add, ← Int32.ofInt_sub, ← Int32.ofInt_mul]; done) | exact congrArg Int32.ofInt (by omega) | rfl)) : q_C q_mt (L, xs, q_shp) E nX9_refuse (d) 0 0 [.ref 3, .int (a)] M Q := by
  subst ha
  refine w_in 90 [] ?_
  refine ⟨_, rfl, ?_⟩
  refine ⟨_, g.2.2.1, ?_⟩
  refine ⟨_, rfl, ?_⟩
  exact ⟨z_0, hQ _ q_fs.rf.s1.s1 ⟨rfl, q_si_s⟩⟩
set_option maxRecDepth 100000 in
set_option maxHeartbeats 4000000 in
theorem k2_takeWord {i : Nat} (g : g_ct M x len tok T i) {a : Int32} (w : Nat) (hw : w < 34) (h1 : tok i = (1, w) → ∀ M', q_fs [] fTk M M' → (M'.1 3 6 = M.1 3 6 ∧ g_ct M' x len tok T (i + 1)) → Q (some (.int 1)) M') (h0 : ¬ tok i = (1, w) → ∀ M', q_fs [] fTk M M' → g_cf M' x len 1 i → Q (some (.int 0)) M') (ha : a = nI w := by (first | assumption | (simp only [z_nat, z_lit, ← Int32.ofInt_add, ← Int32.ofInt_sub, ← Int32.ofInt_mul]; exact congrArg Int32.ofInt (by omega)) | (simp only [z_nat, z_lit, ← Int32.ofInt_add, ← Int32.ofInt_sub, ← Int32.ofInt_mul]; done) | exact congrArg Int32.ofInt (by omega) | rfl)) : q_C q_mt (L, xs, q_shp) E nX9_takeWord (d + 2) 0 0 [.ref 3, .int (a)] M Q := by
  subst ha
  refine w_in 90 [] ?_
  refine k2_isWord g w hw (fun e => bn_t (by decide) ?_) (fun e => bn_f rfl ?_)
  · exact k2_adv g (tk_n0 e (by decide)) (fun M' hf h => ⟨z_1, h1 e M' hf h⟩)
  · exact k2_refuse g 1 (fun M' hf h => ⟨z_0, h0 e M' hf h⟩)
set_option maxRecDepth 100000 in
set_option maxHeartbeats 4000000 in
theorem k2_takeSign {i : Nat} (g : g_ct M x len tok T i) {a : Int32} (w : Nat) (hw : w < 256) (h1 : tok i = (4, w) → ∀ M', q_fs [] fTk M M' → (M'.1 3 6 = M.1 3 6 ∧ g_ct M' x len tok T (i + 1)) → Q (some (.int 1)) M') (h0 : ¬ tok i = (4, w) → ∀ M', q_fs [] fTk M M' → g_cf M' x len 1 i → Q (some (.int 0)) M') (ha : a = nI w := by (first | assumption | (simp only [z_nat, z_lit, ← Int32.ofInt_add, ← Int32.ofInt_sub, ← Int32.ofInt_mul]; exact congrArg Int32.ofInt (by omega)) | (simp only [z_nat, z_lit, ← Int32.ofInt_add, ← Int32.ofInt_sub, ← Int32.ofInt_mul]; done) | exact congrArg Int32.ofInt (by omega) | rfl)) : q_C q_mt (L, xs, q_shp) E nX9_takeSign (d + 2) 0 0 [.ref 3, .int (a)] M Q := by
  subst ha
  refine w_in 90 [] ?_
  refine k2_isSign g w hw (fun e => bn_t (by decide) ?_) (fun e => bn_f rfl ?_)
  · exact k2_adv g (tk_n0 e (by decide)) (fun M' hf h => ⟨z_1, h1 e M' hf h⟩)
  · exact k2_refuse g 1 (fun M' hf h => ⟨z_0, h0 e M' hf h⟩)
/-- what reading gives: a fault at a token, or a thing and the next token -/
abbrev Rs (α : Type) : Type := (Nat × Nat) ⊕ (α × Nat)
def numP (tok : Nat → Tok) (i : Nat) (lo hi : Int) : Rs Nat := if (tok i).1 = 3 then (if lo ≤ (tok i).2 ∧ (tok i).2 ≤ hi then .inr ((tok i).2, i + 1) else .inl (2, i)) else .inl (1, i)
theorem g_ct.fs {l : List Nat} {f : List (Nat × Nat)} {M' : q_M} {i : Nat} (h : g_ct M x len tok T i) (hf : q_fs l f M M') (o : (l.all (fun a => !(c_rng 3 5 a)) && f.all (fun q => !(c_rng 3 5 q.1))) = true := by exact rfl) : g_ct M' x len tok T i := by
  have e1 : ∀ r j, c_rng 3 5 r = true → M'.1 r j = M.1 r j := fun r j hr => (hf r j (q_out o hr j)).1
  have e2 : ∀ r j, c_rng 3 5 r = true → M'.2 r j = M.2 r j := fun r j hr => (hf r j (q_out o hr j)).2
  obtain ⟨⟨hT, gx, gl⟩, hi, h9, h10, h78, hk⟩ := h
  exact ⟨⟨hT, ⟨(e1 3 2 rfl).trans gx.1, gx.2.1, fun j hj => ⟨(e1 4 j rfl).trans (gx.2.2 j hj).1, (gx.2.2 j hj).2⟩⟩, fun w hw => (e2 5 w rfl).trans (gl w hw)⟩, hi, (e1 3 9 rfl).trans h9, fun z => (e1 3 10 rfl).trans (h10 z), ⟨(e1 3 7 rfl).trans h78.1, (e1 3 8 rfl).trans h78.2⟩, hk.eq (e1 3 3 rfl) (e1 3 4 rfl) (e2 3 5 rfl)⟩
set_option maxRecDepth 100000 in
set_option maxHeartbeats 4000000 in
theorem k2_takeNumber {i : Nat} (g : g_ct M x len tok T i) {a b : Int32} (lo hi : Int) (hlo : 0 ≤ lo ∧ lo ≤ 100) (hhi : -1 ≤ hi ∧ hi ≤ 100) (h1 : ∀ v : Nat, numP tok i lo hi = .inr (v, i + 1) → tok i = (3, v) → (lo ≤ v ∧ v ≤ hi) → ∀ M', q_fs [] fTk M M' → (M'.1 3 6 = nI v ∧ g_ct M' x len tok T (i + 1)) → Q (some (.int 1)) M') (h0 : ∀ k, numP tok i lo hi = .inl (k, i) → (k = 1 ∨ k = 2) → ∀ M', q_fs [] fTk M M' → g_cf M' x len k i → Q (some (.int 0)) M') (ha : a = Int32.ofInt lo := by (first | assumption | (simp only [z_nat, z_lit, ← Int32.ofInt_add, ← Int32.ofInt_sub, ← Int32.ofInt_mul]; exact congrArg Int32.ofInt (by omega)) | (simp only [z_nat, z_lit, ← Int32.ofInt_add, ← Int32.ofInt_sub, ← Int32.ofInt_mul]; done) | exact congrArg Int32.ofInt (by omega) | rfl)) (hb : b = Int32.ofInt hi := by (first | assumption | (simp only [z_nat, z_lit, ← Int32.ofInt_add, ← Int32.ofInt_sub, ← Int32.ofInt_mul]; exact congrArg Int32.ofInt (by omega)) | (simp only [z_nat, z_lit, ← Int32.ofInt_add, ← Int32.ofInt_sub, ← Int32.ofInt_mul]; done) | exact congrArg Int32.ofInt (by omega) | rfl)) : q_C q_mt (L, xs, q_shp) E nX9_takeNumber (d + 2) 0 0 [.ref 3, .int (a), .int (b)] M Q := by
  subst ha hb
  have k5 := g.tt.k5 i
  have v9 := g.tt.v9 i
  have ek := g.k.1
  refine w_in 90 [] ?_
  refine ⟨_, ek, ?_⟩
  refine z_eq ((tok i).1 : Int) 3 (fun z => ?_) (fun z => ?_)
  · have z : (tok i).1 = 3 := by omega
    have e4 := g.k.2.1 (by omega)
    have n2 : ¬ (lo ≤ (tok i).2 ∧ (tok i).2 ≤ hi) → numP tok i lo hi = .inl (2, i) := fun y => by
      unfold numP
      rw [if_pos z, if_neg y]
    refine ⟨_, e4, ?_⟩
    refine z_lt ((tok i).2 : Int) lo (fun y => ?_) (fun y => ?_)
    · exact k2_refuse g 2 (fun M' hf h => ⟨z_0, h0 2 (n2 (by omega)) (Or.inr rfl) M' hf h⟩)
    · refine ⟨_, e4, ?_⟩
      refine z_le ((tok i).2 : Int) hi (fun y' => ?_) (fun y' => ?_)
      · refine ⟨_, e4, ?_⟩
        refine ⟨_, rfl, ?_⟩
        have g' : g_ct (q_si M 3 6 (nI (tok i).2)) x len tok T i := by
          obtain ⟨⟨hT, gx, gl⟩, hi, h9, h10, h78, hk⟩ := g
          have hf : q_fs [] [(3, 6)] M (q_si M 3 6 (nI (tok i).2)) := q_fs.rf.s1
          exact ⟨⟨hT, gx.fs hf, gl.fs hf⟩, hi, (hf.p1 3 9).trans h9, fun z => (hf.p1 3 10).trans (h10 z), ⟨(hf.p1 3 7).trans h78.1, (hf.p1 3 8).trans h78.2⟩, hk.eq (hf.p1 3 3) (hf.p1 3 4) (hf.p2 3 5)⟩
        have hf0 : q_fs [] fTk M (q_si M 3 6 (nI (tok i).2)) := q_fs.rf.s1
        have n1 : numP tok i lo hi = .inr ((tok i).2, i + 1) := by
          unfold numP
          rw [if_pos z, if_pos ⟨by omega, y'⟩]
        exact k2_adv g' (by omega) (fun M' hf h => ⟨z_1, h1 _ n1 (tk_pr z) ⟨by omega, y'⟩ M' (hf0.tr hf) ⟨h.1.trans q_si_s, h.2⟩⟩)
      · exact k2_refuse g 2 (fun M' hf h => ⟨z_0, h0 2 (n2 (by omega)) (Or.inr rfl) M' hf h⟩)
  · have n1 : numP tok i lo hi = .inl (1, i) := by
      unfold numP
      rw [if_neg (by omega)]
    exact k2_refuse g 1 (fun M' hf h => ⟨z_0, h0 1 n1 (Or.inl rfl) M' hf h⟩)
end CT
