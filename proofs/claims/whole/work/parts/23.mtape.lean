/-! the tape of the reference; what feed and end owe -/
section MT
variable {L : Nat} {xs : Nat → Int32} {E : q_E} {d : Nat} {M : q_M} {Q : Option Value → q_M → Prop}
set_option maxRecDepth 100000 in
set_option maxHeartbeats 4000000 in
theorem c_X12_four_it {v s : Int32} {n : Nat} (hs : ¬ s < 0) (hn : M.1 271 1 = nI n) (h : n < 1200) (k : q_G q_mt (L, xs, q_shp) E nX12_four d 0 0 (q_Q (L, xs, q_shp) E Q) 3 [some (.ref 271), some (.int v), some (.int (s + Int32.ofInt (-8)))] [] (p_push 271 272 1 M (p_by v s))) :
    q_G q_mt (L, xs, q_shp) E nX12_four d 0 0 (q_Q (L, xs, q_shp) E Q) 3 [some (.ref 271), some (.int v), some (.int s)] [] M := by
  refine q_go q_ok (Nat.le_of_ble_eq_true rfl) 60 [] ?_
  refine And.intro (fun q => absurd q hs) (fun _ => And.intro ?_ k)
  have e : q_in0 (nI n) 1200 := q_n1 (by omega) h
  rw [← hn] at e
  exact e
set_option maxRecDepth 100000 in
set_option maxHeartbeats 4000000 in
theorem c_X12_four {v : Int32} {n : Nat} (hn : M.1 271 1 = nI n) (h : n + 4 ≤ 1200) (hQ : Q none (p_four 271 272 1 M v)) : q_C q_mt (L, xs, q_shp) E nX12_four d 0 0 [.ref 271, .int v] M Q := by
  refine q_en q_ok (Nat.le_of_ble_eq_true rfl) rfl ?_
  refine q_go q_ok (Nat.le_of_ble_eq_true rfl) 60 [3] ?_
  have e1 := fun (M : q_M) (b : Int32) (n : Nat) (hn : M.1 271 1 = nI n) => (show (p_push 271 272 1 M b).1 271 1 = nI (n + 1) by rw [p_push_n (by decide), hn]; exact nI_add n 1)
  have h1 := e1 M (p_by v 24) n hn
  have h2 := e1 _ (p_by v 16) _ h1
  have h3 := e1 _ (p_by v 8) _ h2
  refine c_X12_four_it (s := 24) (n := n) (by decide) hn (by omega) ?_
  refine c_X12_four_it (s := 16) (n := n + 1) (by decide) h1 (by omega) ?_
  refine c_X12_four_it (s := 8) (n := n + 2) (by decide) h2 (by omega) ?_
  refine c_X12_four_it (s := 0) (n := n + 3) (by decide) h3 (by omega) ?_
  refine q_go q_ok (Nat.le_of_ble_eq_true rfl) 60 [3] ?_
  exact And.intro (fun _ => hQ) (fun q => absurd (show (0 : Int32) + Int32.ofInt (-8) < 0 by decide) q)
set_option maxRecDepth 100000 in
set_option maxHeartbeats 4000000 in
theorem c_X12_feed {a b c e f : Int32} {n : Nat} (hn : M.1 271 1 = nI n) (h : n ≤ 1200) (h1 : 1200 < n + 20 → Q (some (.int (Int32.ofInt (-1)))) M) (h2 : n + 20 ≤ 1200 → Q (some (.int (nI (n + 20)))) (p_feed 271 272 1 M a b c e f)) : q_C q_mt (L, xs, q_shp) E nX12_feed (d + 1) 0 0 [.ref 271, .int a, .int b, .int c, .int e, .int f] M Q := by
  refine q_en q_ok (Nat.le_of_ble_eq_true rfl) rfl ?_
  refine q_go q_ok (Nat.le_of_ble_eq_true rfl) 60 [] ?_
  refine And.intro (fun q => ?_) (fun q => ?_)
  · have q : M.1 271 1 + nI 20 ≤ nI 1200 := q
    rw [hn, nI_add, nI_leI (by omega) (by omega)] at q
    refine c_X12_four hn (by omega) ?_
    refine c_X12_four (p_four_n (by decide) hn) (by omega) ?_
    refine c_X12_four (p_four_n (by decide) (p_four_n (by decide) hn)) (by omega) ?_
    refine c_X12_four (p_four_n (by decide) (p_four_n (by decide) (p_four_n (by decide) hn))) (by omega) ?_
    refine c_X12_four (p_four_n (by decide) (p_four_n (by decide) (p_four_n (by decide) (p_four_n (by decide) hn)))) (by omega) ?_
    have g := h2 q
    rw [← p_feed_n (b := a) (c := b) (d := c) (e := e) (g := f) (show (271 : Nat) ≠ 272 by decide) hn] at g
    exact g
  · have q : ¬ M.1 271 1 + nI 20 ≤ nI 1200 := q
    rw [hn, nI_add, nI_leI (by omega) (by omega)] at q
    exact h1 (by omega)
set_option maxRecDepth 100000 in
set_option maxHeartbeats 4000000 in
theorem c_X12_end {n : Int32} (h1 : n < 0 → Q (some (.int 0)) M) (h2 : M.1 271 1 < n → Q (some (.int 0)) M) (h3 : ¬ n < 0 → ¬ M.1 271 1 < n → Q (some (.int 1)) (q_si M 271 1 n)) : q_C q_mt (L, xs, q_shp) E nX12_end d 0 0 [.ref 271, .int n] M Q := by
  refine q_en q_ok (Nat.le_of_ble_eq_true rfl) rfl ?_
  refine q_go q_ok (Nat.le_of_ble_eq_true rfl) 60 [] ?_
  refine And.intro (fun h => And.intro (Or.inl rfl) (h1 h)) (fun h => And.intro (fun g => And.intro (Or.inr rfl) (h3 h ?_)) (fun g => And.intro (Or.inl rfl) (h2 ?_)))
  · exact Int32.not_lt.mpr g
  · exact Int32.not_le.mp g
/-! the tapes are alike -/
/-- o, a, f: the object, its row, the field of its length -/
def t_al (o a f o' a' f' : Nat) (M M' : q_M) (n : Nat) : Prop := M.1 o f = nI n ∧ M'.1 o' f' = nI n ∧ ∀ i, i < n → M.1 a i = M'.1 a' i
/-- the invariant of the tapes -/
def i_tape (M : q_M) : Prop := ∃ n, n ≤ 1200 ∧ t_al 3 4 2 271 272 1 M M n ∧ ∀ i, i < n → ∃ b : Nat, b < 256 ∧ M.1 4 i = nI b
theorem p_push_row {o a f : Nat} {M : q_M} {b : Int32} (h : o ≠ a) {n : Nat} (hn : M.1 o f = nI n) (hb : n < 2 ^ 31) (i : Nat) : (p_push o a f M b).1 a i = if i = n then b else M.1 a i := by
  unfold p_push
  rw [q_si_ne (fun e => h e.symm), q_si_at, hn, nI_clamp hb]
theorem p_push_al {o a f o' a' f' : Nat} {M M' : q_M} {b : Int32} {n : Nat} (h : o ≠ a) (h' : o' ≠ a') (hb : n < 2 ^ 31) (t : t_al o a f o' a' f' M M' n) : t_al o a f o' a' f' (p_push o a f M b) (p_push o' a' f' M' b) (n + 1) := by
  obtain ⟨t1, t2, t3⟩ := t
  refine ⟨by rw [p_push_n h, t1]; exact nI_add n 1, by rw [p_push_n h', t2]; exact nI_add n 1, fun i hi => ?_⟩
  rw [p_push_row h t1 hb, p_push_row h' t2 hb]
  by_cases e : i = n
  · rw [if_pos e, if_pos e]
  · rw [if_neg e, if_neg e]
    exact t3 i (by omega)
theorem p_four_al {o a f o' a' f' : Nat} {M M' : q_M} {v : Int32} {n : Nat} (h : o ≠ a) (h' : o' ≠ a') (hb : n < 2 ^ 30) (t : t_al o a f o' a' f' M M' n) : t_al o a f o' a' f' (p_four o a f M v) (p_four o' a' f' M' v) (n + 4) :=
  p_push_al h h' (by omega) (p_push_al h h' (by omega) (p_push_al h h' (by omega) (p_push_al h h' (by omega) t)))
theorem p_feed_al {o a f o' a' f' : Nat} {M M' : q_M} {b c d e g : Int32} {n : Nat} (h : o ≠ a) (h' : o' ≠ a') (hb : n < 2 ^ 29) (t : t_al o a f o' a' f' M M' n) : t_al o a f o' a' f' (p_feed o a f M b c d e g) (p_feed o' a' f' M' b c d e g) (n + 20) :=
  p_four_al h h' (by omega) (p_four_al h h' (by omega) (p_four_al h h' (by omega) (p_four_al h h' (by omega) (p_four_al h h' (by omega) t))))
theorem p_push_fr {o a f : Nat} {M : q_M} {b : Int32} : q_fr [o, a] M (p_push o a f M b) := q_fr.tr (q_fr.si (by simp [q_has1, q_beq_refl])) (q_fr.si (by simp [q_has1, q_beq_refl]))
theorem p_four_fr {o a f : Nat} {M : q_M} {v : Int32} : q_fr [o, a] M (p_four o a f M v) := q_fr.tr (q_fr.tr (q_fr.tr p_push_fr p_push_fr) p_push_fr) p_push_fr
theorem p_feed_fr {o a f : Nat} {M : q_M} {b c d e g : Int32} : q_fr [o, a] M (p_feed o a f M b c d e g) := q_fr.tr (q_fr.tr (q_fr.tr (q_fr.tr p_four_fr p_four_fr) p_four_fr) p_four_fr) p_four_fr
/-- a byte -/
theorem p_by_nat (v s : Int32) : ∃ b : Nat, b < 256 ∧ p_by v s = nI b := by
  refine ⟨(p_by v s).toBitVec.toNat, ?_, ?_⟩
  · unfold p_by
    have e : ((v >>> (s &&& 31)) &&& Int32.ofInt 255).toBitVec = (v >>> (s &&& 31)).toBitVec &&& 255#32 := rfl
    rw [e, BitVec.toNat_and]
    have := Nat.and_le_right (n := (v >>> (s &&& 31)).toBitVec.toNat) (m := (255#32).toNat)
    have h2 : (255#32).toNat = 255 := by decide
    omega
  · unfold nI
    apply Int32.toBitVec_inj.mp
    rw [Int32.toBitVec_ofNat']
    simp
/-- every byte of a row up to n -/
def t_by (a : Nat) (M : q_M) (n : Nat) : Prop := ∀ i, i < n → ∃ b : Nat, b < 256 ∧ M.1 a i = nI b
theorem p_push_by {o a f : Nat} {M : q_M} {v s : Int32} (h : o ≠ a) {n : Nat} (hn : M.1 o f = nI n) (hb : n < 2 ^ 31) (t : t_by a M n) : t_by a (p_push o a f M (p_by v s)) (n + 1) := by
  intro i hi
  rw [p_push_row h hn hb]
  by_cases e : i = n
  · rw [if_pos e]
    exact p_by_nat v s
  · rw [if_neg e]
    exact t i (by omega)
theorem p_four_by {o a f : Nat} {M : q_M} {v : Int32} (h : o ≠ a) {n : Nat} (hn : M.1 o f = nI n) (hb : n < 2 ^ 30) (t : t_by a M n) : t_by a (p_four o a f M v) (n + 4) := by
  have e1 := fun (M : q_M) (b : Int32) (n : Nat) (hn : M.1 o f = nI n) => (show (p_push o a f M b).1 o f = nI (n + 1) by rw [p_push_n h, hn]; exact nI_add n 1)
  have h1 := e1 M (p_by v 24) n hn
  have h2 := e1 _ (p_by v 16) _ h1
  have h3 := e1 _ (p_by v 8) _ h2
  exact p_push_by h h3 (by omega) (p_push_by h h2 (by omega) (p_push_by h h1 (by omega) (p_push_by h hn (by omega) t)))
theorem p_feed_by {o a f : Nat} {M : q_M} {b c d e g : Int32} (h : o ≠ a) {n : Nat} (hn : M.1 o f = nI n) (hb : n < 2 ^ 29) (t : t_by a M n) : t_by a (p_feed o a f M b c d e g) (n + 20) := by
  have h1 := p_four_n (v := b) h hn
  have h2 := p_four_n (v := c) h h1
  have h3 := p_four_n (v := d) h h2
  have h4 := p_four_n (v := e) h h3
  exact p_four_by h h4 (by omega) (p_four_by h h3 (by omega) (p_four_by h h2 (by omega) (p_four_by h h1 (by omega) (p_four_by h hn (by omega) t))))
end MT
/-- a call of both sides, one behind the other: the same answer, and P behind it -/
def q_op2 (Z : q_Z) (E : q_E) (mi mj d : Nat) (as : List Value) (M : q_M) (P : q_M → Prop) : Prop := q_C q_mt Z E mi d 0 0 (.ref 2 :: as) M (fun v M' => ∃ r : Int32, v = some (.int r) ∧ q_C q_mt Z E mj d 0 0 (.ref 271 :: as) M' (fun v' M'' => v' = some (.int r) ∧ P M''))
section OT
variable {L : Nat} {xs : Nat → Int32} {E : q_E} {d : Nat} {M : q_M} {P : q_M → Prop}
theorem o_feed {a b c e f : Int32} (hI : i_tape M) (h1 : P M) (h2 : i_tape (p_feed 271 272 1 (p_feed 3 4 2 M a b c e f) a b c e f) → P (p_feed 271 272 1 (p_feed 3 4 2 M a b c e f) a b c e f)) : q_op2 (L, xs, q_shp) E nX11_feed nX12_feed (d + 1) [.int a, .int b, .int c, .int e, .int f] M P := by
  obtain ⟨n, hn, ⟨t1, t2, t3⟩, hb⟩ := hI
  refine c_X11_feed t1 hn (fun q => ?_) (fun q => ?_)
  · exact ⟨_, rfl, c_X12_feed t2 hn (fun _ => ⟨rfl, h1⟩) (fun z => by omega)⟩
  · have t2' : (p_feed 3 4 2 M a b c e f).1 271 1 = nI n := by rw [(p_feed_fr 271 rfl).1]; exact t2
    refine ⟨_, rfl, c_X12_feed t2' hn (fun z => by omega) (fun _ => ⟨rfl, h2 ⟨n + 20, q, ?_, ?_⟩⟩)⟩
    · have al : t_al 3 4 2 271 272 1 M (p_feed 3 4 2 M a b c e f) n := ⟨t1, t2', fun i hi => by rw [(p_feed_fr 272 rfl).1]; exact t3 i hi⟩
      have al2 := p_feed_al (b := a) (c := b) (d := c) (e := e) (g := f) (by decide) (by decide) (by omega) al
      refine ⟨?_, al2.2.1, fun i hi => ?_⟩
      · rw [(p_feed_fr 3 rfl).1]; exact al2.1
      · rw [(p_feed_fr 4 rfl).1]; exact al2.2.2 i hi
    · intro i hi
      rw [(p_feed_fr 4 rfl).1]
      exact p_feed_by (by decide) t1 (by omega) hb i hi
theorem o_end {a : Int32} (hI : i_tape M) (h1 : P M) (h2 : i_tape (q_si (q_si M 3 2 a) 271 1 a) → P (q_si (q_si M 3 2 a) 271 1 a)) : q_op2 (L, xs, q_shp) E nX11_end nX12_end d [.int a] M P := by
  obtain ⟨n, hn, ⟨t1, t2, t3⟩, hb⟩ := hI
  refine c_X11_end (fun q => ?_) (fun q => ?_) (fun q1 q2 => ?_)
  · exact ⟨_, rfl, c_X12_end (fun _ => ⟨rfl, h1⟩) (fun _ => ⟨rfl, h1⟩) (fun z _ => absurd q z)⟩
  · exact ⟨_, rfl, c_X12_end (fun _ => ⟨rfl, h1⟩) (fun _ => ⟨rfl, h1⟩) (fun _ z => absurd (by rw [t2, ← t1]; exact q) z)⟩
  · have t2' : (q_si M 3 2 a).1 271 1 = M.1 3 2 := by rw [t1]; exact t2
    refine ⟨_, rfl, c_X12_end (fun z => absurd z q1) (fun z => absurd (by rw [← t2']; exact z) q2) (fun _ _ => ⟨rfl, h2 ?_⟩)⟩
    obtain ⟨j, hj, rfl⟩ := nI_of q1
    rw [t1, nI_ltI (by omega) hj] at q2
    exact ⟨j, by omega, ⟨rfl, rfl, fun i hi => t3 i (by omega)⟩, fun i hi => hb i (by omega)⟩
end OT
