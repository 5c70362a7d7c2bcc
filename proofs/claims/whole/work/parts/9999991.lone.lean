/-! a word alone on the tape -/
section LN
variable {L : Nat} {xs : Nat → Int32} {E : q_E} {d : Nat} {M : q_M} {t : q_T} {n : sN} {Q : Option Value → q_M → Prop} {P : q_M → Prop}
variable {x : Nat → Nat} {len : Nat}
def lnW (x : Nat → Nat) (len : Nat) : Prop := tkS x len 0 < len ∧ isLt (x (tkS x len 0)) = true ∧ tkS x len 1 = len
abbrev lnK (x : Nat → Nat) (len : Nat) : Nat := tkR x len (tkS x len 0) - tkS x len 0
def okN (x : Nat → Nat) (len : Nat) : Prop := lnK x len ≤ 7 ∧ ∀ w, ¬ isW x (tkS x len 0) (lnK x len) w
set_option maxRecDepth 100000 in
set_option maxHeartbeats 4000000 in
theorem k2_readLoneName (g : g_tx M x len) (gl : g_lx M) (h1 : ∀ M', q_fs [] fT M M' → lnW x len → okN x len → Q (some (.long (Int64.ofInt (w5E x (tkS x len 0) (lnK x len) : Nat)))) M') (h0 : ∀ M', q_fs [] fT M M' → ¬ (lnW x len ∧ okN x len) → Q (some (.long 0)) M') : q_C q_mt (L, xs, q_shp) E nX9_readLoneName (d + 2) 0 0 [.ref 3] M Q := by
  have hl := g.2.1
  refine w_in 90 [] ?_
  refine ⟨_, rfl, ?_⟩
  have hf0 : q_fs [] fT M (q_si M 3 10 (Int32.ofInt 0)) := q_fs.rf.s1
  refine k2_advance (g.fs hf0) (gl.fs hf0) (i := 0) (Nat.zero_le _) q_si_s (fun M1 s r hs hf1 hk => ?_)
  have hs : s = tkS x len 0 := hs
  subst hs
  have f1 : q_fs [] fT M M1 := hf0.tr hf1
  obtain ⟨k9, k10, hc⟩ := hk
  rcases hc with ⟨c1, c2, c3, c4⟩ | ⟨c1, c2, c3, c4, c5⟩ | ⟨c1, c2, c3, c4, c5⟩ | ⟨c1, c2, c3, c4, c5, c6⟩
  · refine ⟨_, c3, ?_⟩
    exact z_eq 0 2 (fun z => by omega) (fun _ => (h0 M1 f1 (fun z => by have := z.1.1; omega)))
  · have er : r = tkR x len (tkS x len 0) := c3.trans (if_pos c2).symm
    have rs := rnE_s (f := isLt) (x := x) (k := len - tkS x len 0) (i := tkS x len 0)
    rw [← c3] at rs
    rcases c5 with ⟨w, d1, d2, d3⟩ | ⟨d1, d2, d3⟩
    · rw [er] at d1
      refine ⟨_, d2, ?_⟩
      exact z_eq 1 2 (fun z => by omega) (fun _ => (h0 M1 f1 (fun z => z.2.2 w d1)))
    · by_cases q : r - tkS x len 0 ≤ 7
      · rw [if_pos q] at d2
        rw [er] at d1 q c4
        refine ⟨_, d2, ?_⟩
        refine z_eq 2 2 (fun _ => ?_) (fun z => absurd rfl z)
        refine ⟨_, c4, ?_⟩
        refine k2_advance (g.fs f1) (gl.fs f1) (i := r) (by omega) k10 (fun M2 s2 r2 hs2 hf2 hk2 => ?_)
        have f2 : q_fs [] fT M M2 := f1.tr hf2
        have e2 : s2 = tkS x len 1 := by rw [hs2, er]; rfl
        obtain ⟨m9, m10, hc⟩ := hk2
        have bad : ∀ a : Int, a ≠ 0 → a < 10 → 0 ≤ a → s2 < len → M2.1 3 3 = Int32.ofInt a → ¬ (lnW x len ∧ okN x len) := fun a _ _ _ hlt _ z => by have := z.1.2.2; omega
        rcases hc with ⟨b1, b2, b3, b4⟩ | ⟨b1, b2, b3, b4, b5⟩ | ⟨b1, b2, b3, b4, b5⟩ | ⟨b1, b2, b3, b4, b5, b6⟩
        · refine ⟨_, b3, ?_⟩
          exact z_ne 0 0 (fun z => absurd rfl z) (fun _ => (h1 M2 f2 ⟨c1, c2, by omega⟩ ⟨q, d1⟩))
        · rcases b5 with ⟨w, y1, y2, y3⟩ | ⟨y1, y2, y3⟩
          · refine ⟨_, y2, ?_⟩
            exact z_ne 1 0 (fun _ => (h0 M2 f2 (fun z => by have := z.1.2.2; omega))) (fun z => by omega)
          · refine ⟨_, y2, ?_⟩
            exact z_ne ((if r2 - s2 ≤ 7 then 2 else 5 : Nat) : Int) 0 (fun _ => (h0 M2 f2 (fun z => by have := z.1.2.2; omega))) (fun z => by split at z <;> omega) rfl rfl (by split <;> omega)
        · refine ⟨_, b4, ?_⟩
          exact z_ne ((if r2 - s2 ≤ 4 then 3 else 5 : Nat) : Int) 0 (fun _ => (h0 M2 f2 (fun z => by have := z.1.2.2; omega))) (fun z => by split at z <;> omega) rfl rfl (by split <;> omega)
        · refine ⟨_, b5, ?_⟩
          exact z_ne 4 0 (fun _ => (h0 M2 f2 (fun z => by have := z.1.2.2; omega))) (fun z => by omega)
      · rw [if_neg q] at d2
        rw [er] at q
        refine ⟨_, d2, ?_⟩
        exact z_eq 5 2 (fun z => by omega) (fun _ => (h0 M1 f1 (fun z => q z.2.1)))
  · have nl : ¬ lnW x len := fun z => by
      have a := isDg_t.mp c2
      have b := isLt_t.mp z.2.1
      omega
    refine ⟨_, c4, ?_⟩
    exact z_eq ((if r - tkS x len 0 ≤ 4 then 3 else 5 : Nat) : Int) 2 (fun z => by split at z <;> omega) (fun _ => (h0 M1 f1 (fun z => nl z.1))) rfl rfl (by split <;> omega)
  · refine ⟨_, c5, ?_⟩
    exact z_eq 4 2 (fun z => by omega) (fun _ => (h0 M1 f1 (fun z => by have y := z.1.2.1; rw [c2] at y; cases y)))
end LN
