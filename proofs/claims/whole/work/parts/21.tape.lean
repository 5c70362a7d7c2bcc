/-! the tape: feed, end, of both sides -/
/-- a byte at the tape's end: o the object, a its row, f the field of the length -/
def p_push (o a f : Nat) (M : q_M) (b : Int32) : q_M := q_si (q_si M a (M.1 o f).toNatClampNeg b) o f (M.1 o f + Int32.ofInt 1)
def p_by (v s : Int32) : Int32 := (v >>> (s &&& 31)) &&& Int32.ofInt 255
def p_four (o a f : Nat) (M : q_M) (v : Int32) : q_M := p_push o a f (p_push o a f (p_push o a f (p_push o a f M (p_by v 24)) (p_by v 16)) (p_by v 8)) (p_by v 0)
def p_feed (o a f : Nat) (M : q_M) (b c d e g : Int32) : q_M := p_four o a f (p_four o a f (p_four o a f (p_four o a f (p_four o a f M b) c) d) e) g
theorem p_push_n {o a f : Nat} {M : q_M} {b : Int32} (h : o ≠ a) : (p_push o a f M b).1 o f = M.1 o f + Int32.ofInt 1 := by
  unfold p_push
  rw [q_si_at, if_pos rfl]
theorem p_four_n {o a f : Nat} {M : q_M} {v : Int32} (h : o ≠ a) {n : Nat} (hn : M.1 o f = nI n) : (p_four o a f M v).1 o f = nI (n + 4) := by
  unfold p_four
  rw [p_push_n h, p_push_n h, p_push_n h, p_push_n h, hn]
  show nI n + nI 1 + nI 1 + nI 1 + nI 1 = _
  rw [nI_add, nI_add, nI_add, nI_add]
theorem p_feed_n {o a f : Nat} {M : q_M} {b c d e g : Int32} (h : o ≠ a) {n : Nat} (hn : M.1 o f = nI n) : (p_feed o a f M b c d e g).1 o f = nI (n + 20) := by
  unfold p_feed
  exact p_four_n h (p_four_n h (p_four_n h (p_four_n h (p_four_n h hn))))
section TP
variable {L : Nat} {xs : Nat → Int32} {E : q_E} {d : Nat} {M : q_M} {Q : Option Value → q_M → Prop}
set_option maxRecDepth 100000 in
set_option maxHeartbeats 4000000 in
theorem c_X9_addFour_it {v s : Int32} {n : Nat} (hs : ¬ s < 0) (hn : M.1 3 2 = nI n) (h : n < 1200) (k : q_G q_mt (L, xs, q_shp) E nX9_addFour d 0 0 (q_Q (L, xs, q_shp) E Q) 3 [some (.ref 3), some (.int v), some (.int (s + Int32.ofInt (-8)))] [] (p_push 3 4 2 M (p_by v s))) :
    q_G q_mt (L, xs, q_shp) E nX9_addFour d 0 0 (q_Q (L, xs, q_shp) E Q) 3 [some (.ref 3), some (.int v), some (.int s)] [] M := by
  refine q_go q_ok (Nat.le_of_ble_eq_true rfl) 60 [] ?_
  refine And.intro (fun q => absurd q hs) (fun _ => And.intro (fun q => ?_) (fun _ => And.intro ?_ k))
  · have q : nI 1200 ≤ M.1 3 2 := q
    rw [hn] at q
    exact absurd q (nI_ge h (by omega))
  · have e : q_in0 (nI n) 1200 := q_n1 (by omega) h
    rw [← hn] at e
    exact e
set_option maxRecDepth 100000 in
set_option maxHeartbeats 4000000 in
theorem c_X9_addFour {v : Int32} {n : Nat} (hn : M.1 3 2 = nI n) (h : n + 4 ≤ 1200) (hQ : Q none (p_four 3 4 2 M v)) : q_C q_mt (L, xs, q_shp) E nX9_addFour d 0 0 [.ref 3, .int v] M Q := by
  refine q_en q_ok (Nat.le_of_ble_eq_true rfl) rfl ?_
  refine q_go q_ok (Nat.le_of_ble_eq_true rfl) 60 [3] ?_
  have e1 := fun (M : q_M) (b : Int32) (n : Nat) (hn : M.1 3 2 = nI n) => (show (p_push 3 4 2 M b).1 3 2 = nI (n + 1) by rw [p_push_n (by decide), hn]; exact nI_add n 1)
  have h1 := e1 M (p_by v 24) n hn
  have h2 := e1 _ (p_by v 16) _ h1
  have h3 := e1 _ (p_by v 8) _ h2
  refine c_X9_addFour_it (s := 24) (n := n) (by decide) hn (by omega) ?_
  refine c_X9_addFour_it (s := 16) (n := n + 1) (by decide) h1 (by omega) ?_
  refine c_X9_addFour_it (s := 8) (n := n + 2) (by decide) h2 (by omega) ?_
  refine c_X9_addFour_it (s := 0) (n := n + 3) (by decide) h3 (by omega) ?_
  refine q_go q_ok (Nat.le_of_ble_eq_true rfl) 60 [3] ?_
  exact And.intro (fun _ => hQ) (fun q => absurd (show (0 : Int32) + Int32.ofInt (-8) < 0 by decide) q)
set_option maxRecDepth 100000 in
set_option maxHeartbeats 4000000 in
theorem c_X11_feed {a b c e f : Int32} {n : Nat} (hn : M.1 3 2 = nI n) (h : n ≤ 1200) (h1 : 1200 < n + 20 → Q (some (.int (Int32.ofInt (-1)))) M) (h2 : n + 20 ≤ 1200 → Q (some (.int (nI (n + 20)))) (p_feed 3 4 2 M a b c e f)) : q_C q_mt (L, xs, q_shp) E nX11_feed (d + 1) 0 0 [.ref 2, .int a, .int b, .int c, .int e, .int f] M Q := by
  refine q_en q_ok (Nat.le_of_ble_eq_true rfl) rfl ?_
  refine q_go q_ok (Nat.le_of_ble_eq_true rfl) 60 [] ?_
  refine And.intro (fun q => ?_) (fun q => ?_)
  · have q : M.1 3 2 + nI 20 ≤ nI 1200 := q
    rw [hn, nI_add, nI_leI (by omega) (by omega)] at q
    refine c_X9_addFour hn (by omega) ?_
    refine c_X9_addFour (p_four_n (by decide) hn) (by omega) ?_
    refine c_X9_addFour (p_four_n (by decide) (p_four_n (by decide) hn)) (by omega) ?_
    refine c_X9_addFour (p_four_n (by decide) (p_four_n (by decide) (p_four_n (by decide) hn))) (by omega) ?_
    refine c_X9_addFour (p_four_n (by decide) (p_four_n (by decide) (p_four_n (by decide) (p_four_n (by decide) hn)))) (by omega) ?_
    have g := h2 q
    rw [← p_feed_n (b := a) (c := b) (d := c) (e := e) (g := f) (show (3 : Nat) ≠ 4 by decide) hn] at g
    exact g
  · have q : ¬ M.1 3 2 + nI 20 ≤ nI 1200 := q
    rw [hn, nI_add, nI_leI (by omega) (by omega)] at q
    exact h1 (by omega)
set_option maxRecDepth 100000 in
set_option maxHeartbeats 4000000 in
theorem c_X11_end {n : Int32} (h1 : n < 0 → Q (some (.int 0)) M) (h2 : M.1 3 2 < n → Q (some (.int 0)) M) (h3 : ¬ n < 0 → ¬ M.1 3 2 < n → Q (some (.int 1)) (q_si M 3 2 n)) : q_C q_mt (L, xs, q_shp) E nX11_end d 0 0 [.ref 2, .int n] M Q := by
  refine q_en q_ok (Nat.le_of_ble_eq_true rfl) rfl ?_
  refine q_go q_ok (Nat.le_of_ble_eq_true rfl) 60 [] ?_
  refine And.intro (fun h => And.intro (Or.inl rfl) (h1 h)) (fun h => And.intro (fun g => And.intro (Or.inr rfl) (h3 h ?_)) (fun g => And.intro (Or.inl rfl) (h2 ?_)))
  · exact Int32.not_lt.mpr g
  · exact Int32.not_le.mp g
end TP
