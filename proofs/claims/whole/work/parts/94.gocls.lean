/-! who is next: the class -/
/-- a State but for who is at the board -/
def g_S0 (c : Nat) (M : q_M) (t : q_T) (n : sN) : Prop := (∀ s, s < 36 → M.1 (c + 1) s = Int32.ofInt (lS t n s)) ∧ (∀ s, s < 36 → (M.1 (c + 2) (16 * s) = Int32.ofInt (pS t n s) ∧ M.1 (c + 2) (16 * s + 1) = Int32.ofInt (n (540 + s)) ∧ M.1 (c + 2) (16 * s + 2) = Int32.ofInt (n (432 + s)) ∧ M.1 (c + 2) (16 * s + 3) = Int32.ofInt (n (468 + s)) ∧ M.1 (c + 2) (16 * s + 4) = Int32.ofInt (n (504 + s))) ∧ ∀ j, j < 11 → M.1 (c + 2) (16 * s + 5 + j) = Int32.ofInt (n (36 + 11 * s + j))) ∧ (∀ e, e < 6 → M.1 (c + 3) e = Int32.ofInt (n (612 + e)) ∧ M.1 (c + 4) e = Int32.ofInt (bS t n e) ∧ M.1 (c + 6) e = nI (gS t n e) ∧ M.1 (c + 7) e = Int32.ofInt (tS t n e)) ∧ M.1 c 7 = Int32.ofInt (n 631)
theorem g_S.S0 {c : Nat} {M : q_M} {t : q_T} {n : sN} (h : g_S c M t n) : g_S0 c M t n := ⟨h.1, h.2.1, h.2.2.1, h.2.2.2.1⟩
theorem g_S0.S {c : Nat} {M : q_M} {t : q_T} {n : sN} (h : g_S0 c M t n) (h1 : M.1 c 9 = Int32.ofInt (brd t n)) (h2 : g_Q c M t n) : g_S c M t n := ⟨h.1, h.2.1, h.2.2.1, h.2.2.2, h1, h2⟩
theorem toE_lo {t : q_T} {n n' : sN} {e dr : Nat} {bar : Int} (he : e < 6) (h7 : t 0 0 ≤ 6) (h11 : t 2 0 ≤ 11) (h : ∀ k, k < 624 → n' k = n k) : toE t n' e dr bar = toE t n e dr bar := by
  unfold toE
  refine fb_si_cong (fun r hr => ?_)
  unfold tof
  rw [h (618 + e) (by omega), h (576 + (6 * e + r)) (by omega), ptE_lo he (by omega) h11 (fun k hk => h k (by omega))]
theorem g_S0.tail {c : Nat} {M : q_M} {t : q_T} {n n' : sN} (h : g_S0 c M t n) (h6 : t 8 0 ≤ 6) (h7 : t 0 0 ≤ 6) (h11 : t 2 0 ≤ 11) (e : ∀ i, i < 624 → n' i = n i) (e1 : n' 631 = n 631) : g_S0 c M t n' := by
  obtain ⟨a, b, d, f⟩ := h
  refine ⟨fun s hs => ?_, fun s hs => ?_, fun x hx => ?_, by rw [e1]; exact f⟩
  · rw [a s hs]
    unfold lS
    rw [e s (by omega)]
  · have ep : pS t n' s = pS t n s := by
      unfold pS
      rw [e (576 + s) (by omega), ptE_lo (n' := n') (n := n) (by omega) (by omega) h11 (fun k hk => e k (by omega))]
    rw [ep, e (540 + s) (by omega), e (432 + s) (by omega), e (468 + s) (by omega), e (504 + s) (by omega)]
    refine ⟨(b s hs).1, fun j hj => ?_⟩
    rw [e (36 + 11 * s + j) (by omega)]
    exact (b s hs).2 j hj
  · rw [e (612 + x) (by omega)]
    obtain ⟨d1, d2, d3, d4⟩ := d x hx
    refine ⟨d1, ?_, ?_, ?_⟩
    · rw [d2]
      unfold bS
      rw [e (618 + x) (by omega)]
    · rw [d3]
      unfold gS
      rw [gvN_eq (n' := n') (n := n)]
      intro r hr
      by_cases q : x < 6 ∧ r < 6
      · exact e _ (by omega)
      · omega
    · rw [d4]
      unfold tS
      rw [toE_lo hx h7 h11 e]
theorem g_S0.fs {l : List Nat} {f : List (Nat × Nat)} {c : Nat} {M M' : q_M} {t : q_T} {n : sN} (h : g_S0 c M t n) (e0 : M'.1 c 7 = M.1 c 7) (hf : q_fs l f M M') (o : (l.all (fun a => !(c_rng (c + 1) (c + 4) a || c_rng (c + 6) (c + 7) a)) && f.all (fun q => !(c_rng (c + 1) (c + 4) q.1 || c_rng (c + 6) (c + 7) q.1))) = true := by exact rfl) : g_S0 c M' t n := by
  have key : ∀ r, (c_rng (c + 1) (c + 4) r || c_rng (c + 6) (c + 7) r) = true → M'.1 r = M.1 r := fun r hr => hf.c1 r (q_out (p := fun a => c_rng (c + 1) (c + 4) a || c_rng (c + 6) (c + 7) a) o hr)
  unfold g_S0 at h ⊢
  rw [key (c + 1) (by rw [c_rng.i (by omega) (by omega)]; rfl), key (c + 2) (by rw [c_rng.i (by omega) (by omega)]; rfl), key (c + 3) (by rw [c_rng.i (by omega) (by omega)]; rfl), key (c + 4) (by rw [c_rng.i (by omega) (by omega)]; rfl), key (c + 6) (by rw [c_rng.i (a := c + 6) (by omega) (by omega), Bool.or_true]), key (c + 7) (by rw [c_rng.i (a := c + 6) (by omega) (by omega), Bool.or_true]), e0]
  exact h
/-- totals as a cut has them -/
def ttl (t : q_T) (n : sN) (o : Nat) : Int := if inE n o = true then toF t n o else -1
theorem rk_iff {A : Nat → Bool} {c : Nat → Int} {k x y : Nat} (hx : A x = true) (hy : A y = true) (hxk : x < k) (hyk : y < k) : rk A c k x < rk A c k y ↔ bfr c x y = true := by
  constructor
  · intro h
    by_cases q : x = y
    · rw [q] at h
      omega
    · rcases bfr_to (c := c) q with z | z
      · exact z
      · have := rk_lt (k := k) hy hyk z
        omega
  · exact fun h => rk_lt hx hxk h
theorem cut_qRl {t : q_T} {n : sN} {c : Nat} {R qu : Nat → Nat} (h6 : t 8 0 ≤ 6) (h31 : 1 ≤ n 631) (hR : isR (sty t n c) (kyF (toF t n)) (t 8 0) R) (hq : isR (fun _ => true) (kyF (ttl t n)) (t 8 0) qu) : (∀ i, i < t 8 0 → qu i < t 8 0) ∧ qRl t (cutN t n c R) (inE (cutN t n c R)) qu := by
  have eT : fb_ct (fun _ => true) (t 8 0) = t 8 0 := fb_ct_all.mpr (fun _ _ => rfl)
  have hq' : ∀ i, i < t 8 0 → qu i < t 8 0 ∧ rk (fun _ => true) (kyF (ttl t n)) (t 8 0) (qu i) = i := fun i hi => by
    have := hq i (by rw [eT]; exact hi)
    exact ⟨this.1, this.2.2⟩
  refine ⟨fun i hi => (hq' i hi).1, fun e he _ => ?_, fun i j hi hj e => ?_, fun i j a b hi hj ha hb e1 e2 p1 p2 => ?_⟩
  · have rt := rk_top (A := fun _ => true) (c := kyF (ttl t n)) (j := e) (k := t 8 0) rfl he
    rw [eT] at rt
    exact ⟨_, rt, hq.at rfl he⟩
  · have a := (hq' i hi).2
    have b := (hq' j hj).2
    rw [e] at a
    omega
  · rw [cut_n h6] at ha hb
    have ha := Int.ofNat_lt.mp ha
    have hb := Int.ofNat_lt.mp hb
    rw [cut_or ha h6] at e1
    rw [cut_or hb h6] at e2
    have ra := hR a ha
    have rb := hR b hb
    have e1 : R a = qu i := by omega
    have e2 : R b = qu j := by omega
    rw [e1] at ra
    rw [e2] at rb
    have xi := (hq' i hi).2
    have xj := (hq' j hj).2
    have k1 := rk_iff (A := fun _ => true) (c := kyF (ttl t n)) rfl rfl ra.1 rb.1
    have k2 := rk_iff (c := kyF (toF t n)) ra.2.1 rb.2.1 ra.1 rb.1
    rw [xi, xj] at k1
    rw [ra.2.2, rb.2.2] at k2
    rw [k1, k2]
    have t1 : ttl t n (qu i) = toF t n (qu i) := if_pos (sty_t.mp ra.2.1).1
    have t2 : ttl t n (qu j) = toF t n (qu j) := if_pos (sty_t.mp rb.2.1).1
    rw [bfr_ky (by omega) (by omega), bfr_ky (by omega) (by omega), t1, t2]
/-- a queue between acts -/
def qMid (c : Nat) (M : q_M) (t : q_T) (n : sN) : Prop := ∃ (T : Nat) (qu : Nat → Nat) (p : Nat → Bool) (a0 : Nat), T < t 8 0 ∧ M.1 c 8 = nI T ∧ (∀ i, i < 6 → i < t 8 0 → M.1 (c + 5) i = nI (qu i) ∧ qu i < t 8 0) ∧ qRl t n p qu ∧ (∀ e, e < t 8 0 → inE n e = true → p e = true) ∧ p (qu T) = true ∧ (a0 : Int) < n 630 ∧ n (624 + a0) = qu T ∧ ((n 632 = a0 ∧ inE n (qu T) = false) ∨ n 632 = a0 + 1)
section GP
variable {t : q_T} {n : sN} {qu : Nat → Nat} {p : Nat → Bool} {T a0 : Nat}
theorem q_later (hM : ∀ e : Nat, e < t 8 0 → inE n e = true → ∃ a : Nat, (a : Int) < n 630 ∧ n (624 + a) = e) (hu : ∀ i, i < t 8 0 → qu i < t 8 0) (hT : T < t 8 0) (hq : qRl t n p qu) (hp : ∀ e, e < t 8 0 → inE n e = true → p e = true) (hpT : p (qu T) = true) (ha : (a0 : Int) < n 630) (ea : n (624 + a0) = qu T) (h32 : (n 632 = a0 ∧ inE n (qu T) = false) ∨ n 632 = a0 + 1) {j : Nat} (hj : T < j) (hj2 : j < t 8 0) (hi : inE n (qu j) = true) : ∃ a : Nat, n 632 ≤ a ∧ (a : Int) < n 630 ∧ n (624 + a) = qu j := by
  obtain ⟨a, a1, a2⟩ := hM (qu j) (hu j hj2) hi
  have := (hq.2.2 T j a0 a hT hj2 ha a1 ea a2 hpT (hp _ (hu j hj2) hi)).mp hj
  refine ⟨a, ?_, a1, a2⟩
  rcases h32 with z | z <;> omega
theorem q_none (hM : ∀ e : Nat, e < t 8 0 → inE n e = true → ∃ a : Nat, (a : Int) < n 630 ∧ n (624 + a) = e) (hu : ∀ i, i < t 8 0 → qu i < t 8 0) (hT : T < t 8 0) (hq : qRl t n p qu) (hp : ∀ e, e < t 8 0 → inE n e = true → p e = true) (hpT : p (qu T) = true) (ha : (a0 : Int) < n 630) (ea : n (624 + a0) = qu T) (h32 : (n 632 = a0 ∧ inE n (qu T) = false) ∨ n 632 = a0 + 1) (hn : noIn n (n 632).toNat) : ∀ j, T + 1 ≤ j → j < t 8 0 → inE n (qu j) = false := by
  intro j hj hj2
  cases q : inE n (qu j) with
  | false => rfl
  | true =>
    obtain ⟨a, a1, a2, a3⟩ := q_later hM hu hT hq hp hpT ha ea h32 (j := j) (by omega) hj2 q
    have := hn a (by omega) a2
    rw [show (n (624 + a)).toNat = qu j by show (n (624 + a)).toNat = qu j; rw [a3]; rfl, q] at this
    cases this
theorem q_first (hM : ∀ e : Nat, e < t 8 0 → inE n e = true → ∃ a : Nat, (a : Int) < n 630 ∧ n (624 + a) = e) (m6 : ∀ a : Nat, (a : Int) < n 630 → 0 ≤ n (624 + a) ∧ n (624 + a) < t 8 0) (hu : ∀ i, i < t 8 0 → qu i < t 8 0) (hT : T < t 8 0) (hq : qRl t n p qu) (hp : ∀ e, e < t 8 0 → inE n e = true → p e = true) (hpT : p (qu T) = true) (ha : (a0 : Int) < n 630) (ea : n (624 + a0) = qu T) (h32 : (n 632 = a0 ∧ inE n (qu T) = false) ∨ n 632 = a0 + 1) {k : Nat} (hk : firstIn n (n 632).toNat k) : ∃ i, T + 1 ≤ i ∧ i < t 8 0 ∧ n (624 + k) = qu i ∧ inE n (qu i) = true ∧ ∀ j, T + 1 ≤ j → j < i → inE n (qu j) = false := by
  obtain ⟨k1, k2, k3, k4⟩ := hk
  have mk := m6 k k2
  obtain ⟨i, hi, ei⟩ := hq.1 ((n (624 + k)).toNat) (by omega) (hp _ (by omega) k3)
  have ek : n (624 + k) = qu i := by
    rw [ei]
    omega
  have k3' : inE n (qu i) = true := by rw [ei]; exact k3
  have hak : a0 < k := by
    rcases h32 with ⟨z1, z2⟩ | z
    · by_cases q : k = a0
      · subst q
        rw [show (n (624 + k)).toNat = qu T by show (n (624 + k)).toNat = qu T; rw [ea]; rfl, z2] at k3
        cases k3
      · omega
    · omega
  have hTi := (hq.2.2 T i a0 k hT hi ha k2 ea ek hpT (hp _ (by omega) k3')).mpr hak
  refine ⟨i, hTi, hi, ek, k3', fun j hj hji => ?_⟩
  cases q : inE n (qu j) with
  | false => rfl
  | true =>
    obtain ⟨a, a1, a2, a3⟩ := q_later hM hu hT hq hp hpT ha ea h32 (j := j) (by omega) (by omega) q
    have z := (hq.2.2 j i a k (by omega) hi a2 k2 a3 ek (hp _ (hu j (by omega)) q) (hp _ (by omega) k3')).mp hji
    have := k4 a (by omega) z
    rw [show (n (624 + a)).toNat = qu j by show (n (624 + a)).toNat = qu j; rw [a3]; rfl, q] at this
    cases this
theorem q_first0 (hM : ∀ e : Nat, e < t 8 0 → inE n e = true → ∃ a : Nat, (a : Int) < n 630 ∧ n (624 + a) = e) (m6 : ∀ a : Nat, (a : Int) < n 630 → 0 ≤ n (624 + a) ∧ n (624 + a) < t 8 0) (hu : ∀ i, i < t 8 0 → qu i < t 8 0) (hq : qRl t n (inE n) qu) {k : Nat} (hk : firstIn n 0 k) : ∃ i, i < t 8 0 ∧ n (624 + k) = qu i ∧ inE n (qu i) = true ∧ ∀ j, j < i → inE n (qu j) = false := by
  obtain ⟨k1, k2, k3, k4⟩ := hk
  have mk := m6 k k2
  obtain ⟨i, hi, ei⟩ := hq.1 ((n (624 + k)).toNat) (by omega) k3
  have ek : n (624 + k) = qu i := by
    rw [ei]
    omega
  have k3' : inE n (qu i) = true := by rw [ei]; exact k3
  refine ⟨i, hi, ek, k3', fun j hji => ?_⟩
  cases q : inE n (qu j) with
  | false => rfl
  | true =>
    obtain ⟨a, a1, a2⟩ := hM (qu j) (hu j (by omega)) q
    have z := (hq.2.2 j i a k (by omega) hi a1 k2 a2 ek q k3').mp hji
    have := k4 a (Nat.zero_le _) z
    rw [show (n (624 + a)).toNat = qu j by show (n (624 + a)).toNat = qu j; rw [a2]; rfl, q] at this
    cases this
theorem qRl.of {n' : sN} {p' : Nat → Bool} (h : qRl t n p qu) (h6 : t 8 0 ≤ 6) (h4 : n 630 ≤ 6) (e : ∀ i, 624 ≤ i → i ≤ 630 → n' i = n i) (hp : ∀ x, x < t 8 0 → p' x = true → p x = true) (hu : ∀ i, i < t 8 0 → qu i < t 8 0) : qRl t n' p' qu := by
  refine ⟨fun x hx q => h.1 x hx (hp x hx q), h.2.1, fun i j a b hi hj ha hb e1 e2 p1 p2 => ?_⟩
  rw [e 630 (by omega) (by omega)] at ha hb
  rw [e _ (by omega) (by omega)] at e1 e2
  exact h.2.2 i j a b hi hj ha hb e1 e2 (hp _ (hu i hi) p1) (hp _ (hu j hj) p2)
end GP
