/-! the walk once more, in a handier form: indexes and values are named by whoever walks -/
theorem q_ce.mk {Z : q_Z} {r t c n : Nat} {rs : List (Option Nat)} {f : Nat → Nat → List (Option Nat) → Prop} (hc : q_cell Z r = some (t, c, n, rs)) (h : f c n rs) : q_ce Z r t f := by
  unfold q_ce
  rw [hc]
  show bif Nat.beq t t then f c n rs else False
  rw [Nat.beq_refl]
  exact h
theorem q_bifT {b : Bool} {P : Prop} (h : b = true) (p : P) : bif b then P else False := by
  subst h
  exact p
theorem q_inK {i : Int32} {K n : Nat} (h : i = nI K) (hK : K < n) (hn : Nat.blt n 1000000 = true) : q_in0 i n ∧ i.toNatClampNeg = K := by
  subst h
  have hn' : n < 1000000 := Nat.le_of_ble_eq_true hn
  exact ⟨q_n1 (by omega) hK, nI_clamp (by omega)⟩
def q_st2 (mt : Nat → q_Me) (Z : q_Z) (E : q_E) (mi d : Nat) (Q : Option Value → q_M → Prop) (k : Nat → q_L → List Value → q_M → Prop) (pc : Nat) (i : Instr) (site : List Nat) (lv : q_L) (st : List Value) (M : q_M) : Prop := match i with
  | .getfield _ => match site with
    | [ci, f, _] => q_1r st fun r rest => q_ce Z r 0 fun c n refs => bif Nat.beq c ci && Nat.blt f n then (match q_fk ci f with
      | 1 => ∃ v, M.2 r f = v ∧ k (pc + 3) lv (.long v :: rest) M
      | 2 => k (pc + 3) lv (q_pv 2 0 0 (refs.getD f none) :: rest) M
      | _ => ∃ v, M.1 r f = v ∧ k (pc + 3) lv (.int v :: rest) M) else False
    | _ => False
  | .putfield _ => match site with
    | [ci, f, _] => match q_fk ci f with
      | 0 => q_ir st fun r x rest => q_ce Z r 0 fun c n _ => bif Nat.beq c ci && Nat.blt f n then ∃ v, x = v ∧ k (pc + 3) lv rest (q_si M r f v) else False
      | 1 => q_lr st fun r x rest => q_ce Z r 0 fun c n _ => bif Nat.beq c ci && Nat.blt f n then ∃ v, x = v ∧ k (pc + 3) lv rest (q_sl M r f v) else False
      | 3 => q_ir st fun r x rest => (x = 0 ∨ x = 1) ∧ q_ce Z r 0 fun c n _ => bif Nat.beq c ci && Nat.blt f n then k (pc + 3) lv rest (q_si M r f x) else False
      | _ => False
    | _ => False
  | .iaload => q_ir st fun r i rest => match r with
    | 0 => q_in0 i Z.1 ∧ k (pc + 1) lv (.int (Z.2.1 i.toNatClampNeg) :: rest) M
    | r => q_ce Z r 1 fun _ n _ => bif Nat.blt n 1000000 then ∃ K v, i = nI K ∧ K < n ∧ M.1 r K = v ∧ k (pc + 1) lv (.int v :: rest) M else False
  | .laload => q_ir st fun r i rest => q_ce Z r 2 fun _ n _ => bif Nat.blt n 1000000 then ∃ K v, i = nI K ∧ K < n ∧ M.2 r K = v ∧ k (pc + 1) lv (.long v :: rest) M else False
  | .iastore => q_iir st fun r i x rest => q_ce Z r 1 fun _ n _ => bif Nat.blt n 1000000 then ∃ K v, i = nI K ∧ K < n ∧ x = v ∧ k (pc + 1) lv rest (q_si M r K v) else False
  | .lastore => q_lir st fun r i x rest => q_ce Z r 2 fun _ n _ => bif Nat.blt n 1000000 then ∃ K v, i = nI K ∧ K < n ∧ x = v ∧ k (pc + 1) lv rest (q_sl M r K v) else False
  | .ireturn => match st, (mt mi).2.2.2.2.1 with
    | [.int x], some .int => ∃ v, x = v ∧ Q (some (.int v)) M
    | [.int x], some .boolean => (x = 0 ∨ x = 1) ∧ Q (some (.int x)) M
    | _, _ => False
  | i => q_stp mt Z E mi d Q k pc i site lv st M
theorem q_st2_stp {mt : Nat → q_Me} {Z : q_Z} {E : q_E} {mi d : Nat} {Q : Option Value → q_M → Prop} {k : Nat → q_L → List Value → q_M → Prop} {pc : Nat} {i : Instr} {site : List Nat} {lv : q_L} {st : List Value} {M : q_M} (h : q_st2 mt Z E mi d Q k pc i site lv st M) : q_stp mt Z E mi d Q k pc i site lv st M := by
  unfold q_st2 at h
  split at h
  next =>
    unfold q_stp
    dsimp only
    split at h
    next ci f _ =>
      have g := q_1r.el h
      clear h
      obtain ⟨x, r, rfl, g⟩ := g
      have g1 := q_ce.el g
      clear g
      obtain ⟨c, n, rs, hc, g1⟩ := g1
      obtain ⟨hb, g2⟩ := q_bif g1
      show q_ce Z x 0 fun c n refs => bif Nat.beq c ci && Nat.blt f n then k (pc + 3) lv (q_pv (q_fk ci f) (M.1 x f) (M.2 x f) (refs.getD f none) :: r) M else False
      refine q_ce.mk hc ?_
      show bif Nat.beq c ci && Nat.blt f n then k (pc + 3) lv (q_pv (q_fk ci f) (M.1 x f) (M.2 x f) (rs.getD f none) :: r) M else False
      refine q_bifT hb ?_
      split at g2
      next e => obtain ⟨v, rfl, h⟩ := g2; rw [e]; exact h
      next e => rw [e]; exact g2
      next e1 e2 =>
        obtain ⟨v, rfl, h⟩ := g2
        have e : q_pv (q_fk ci f) (M.1 x f) (M.2 x f) (rs.getD f none) = .int (M.1 x f) := by
          unfold q_pv
          split
          · exact absurd (by assumption) e1
          · exact absurd (by assumption) e2
          · rfl
        rw [e]
        exact h
    next => exact h.elim
  next =>
    unfold q_stp
    dsimp only
    split at h
    next ci f _ =>
      dsimp only
      split at h
      next e =>
        rw [e]
        have g := q_ir.el h
        clear h
        obtain ⟨x, i, r, rfl, g⟩ := g
        have g1 := q_ce.el g
        clear g
        obtain ⟨c, n, rs, hc, g1⟩ := g1
        obtain ⟨hb, v, rfl, g2⟩ := q_bif g1
        show q_ce Z x 0 fun c n _ => bif Nat.beq c ci && Nat.blt f n then k (pc + 3) lv r (q_si M x f i) else False
        exact q_ce.mk (f := fun c n _ => bif Nat.beq c ci && Nat.blt f n then k (pc + 3) lv r (q_si M x f i) else False) hc (q_bifT hb g2)
      next e =>
        rw [e]
        have g := q_lr.el h
        clear h
        obtain ⟨x, i, r, rfl, g⟩ := g
        have g1 := q_ce.el g
        clear g
        obtain ⟨c, n, rs, hc, g1⟩ := g1
        obtain ⟨hb, v, rfl, g2⟩ := q_bif g1
        show q_ce Z x 0 fun c n _ => bif Nat.beq c ci && Nat.blt f n then k (pc + 3) lv r (q_sl M x f i) else False
        exact q_ce.mk (f := fun c n _ => bif Nat.beq c ci && Nat.blt f n then k (pc + 3) lv r (q_sl M x f i) else False) hc (q_bifT hb g2)
      next e => rw [e]; exact h
      next => exact h.elim
    next => exact h.elim
  next =>
    unfold q_stp
    dsimp only
    have g := q_ir.el h
    clear h
    obtain ⟨x, i, r, rfl, g⟩ := g
    cases x with
    | zero => exact g
    | succ x =>
      have g1 := q_ce.el g
      clear g
      obtain ⟨c, n, rs, hc, g1⟩ := g1
      obtain ⟨hb, K, v, hi, hK, rfl, g2⟩ := q_bif g1
      obtain ⟨h1, h2⟩ := q_inK hi hK hb
      show q_ce Z (x + 1) 1 fun _ n _ => q_in0 i n ∧ k (pc + 1) lv (.int (M.1 (x + 1) i.toNatClampNeg) :: r) M
      rw [h2]
      exact q_ce.mk (f := fun _ n _ => q_in0 i n ∧ k (pc + 1) lv (.int (M.1 (x + 1) K) :: r) M) hc ⟨h1, g2⟩
  next =>
    unfold q_stp
    dsimp only
    have g := q_ir.el h
    clear h
    obtain ⟨x, i, r, rfl, g⟩ := g
    have g1 := q_ce.el g
    clear g
    obtain ⟨c, n, rs, hc, g1⟩ := g1
    obtain ⟨hb, K, v, hi, hK, rfl, g2⟩ := q_bif g1
    obtain ⟨h1, h2⟩ := q_inK hi hK hb
    show q_ce Z x 2 fun _ n _ => q_in0 i n ∧ k (pc + 1) lv (.long (M.2 x i.toNatClampNeg) :: r) M
    rw [h2]
    exact q_ce.mk (f := fun _ n _ => q_in0 i n ∧ k (pc + 1) lv (.long (M.2 x K) :: r) M) hc ⟨h1, g2⟩
  next =>
    unfold q_stp
    dsimp only
    have g := q_iir.el h
    clear h
    obtain ⟨x, i, y, r, rfl, g⟩ := g
    have g1 := q_ce.el g
    clear g
    obtain ⟨c, n, rs, hc, g1⟩ := g1
    obtain ⟨hb, K, v, hi, hK, rfl, g2⟩ := q_bif g1
    obtain ⟨h1, h2⟩ := q_inK hi hK hb
    show q_ce Z x 1 fun _ n _ => q_in0 i n ∧ k (pc + 1) lv r (q_si M x i.toNatClampNeg y)
    rw [h2]
    exact q_ce.mk (f := fun _ n _ => q_in0 i n ∧ k (pc + 1) lv r (q_si M x K y)) hc ⟨h1, g2⟩
  next =>
    unfold q_stp
    dsimp only
    have g := q_lir.el h
    clear h
    obtain ⟨x, i, y, r, rfl, g⟩ := g
    have g1 := q_ce.el g
    clear g
    obtain ⟨c, n, rs, hc, g1⟩ := g1
    obtain ⟨hb, K, v, hi, hK, rfl, g2⟩ := q_bif g1
    obtain ⟨h1, h2⟩ := q_inK hi hK hb
    show q_ce Z x 2 fun _ n _ => q_in0 i n ∧ k (pc + 1) lv r (q_sl M x i.toNatClampNeg y)
    rw [h2]
    exact q_ce.mk (f := fun _ n _ => q_in0 i n ∧ k (pc + 1) lv r (q_sl M x K y)) hc ⟨h1, g2⟩
  next =>
    unfold q_stp
    dsimp only
    split at h
    next e =>
      obtain ⟨v, rfl, h⟩ := h
      rw [e]
      exact h
    next e => rw [e]; exact h
    next => exact h.elim
  next => exact h
def q_w2 (mt : Nat → q_Me) (Z : q_Z) (E : q_E) (mi d rc rs : Nat) (Y : Array Value → State → Outcome → State → Prop) (Q : Option Value → q_M → Prop) (cuts : List Nat) : Nat → List q_I → q_L → List Value → q_M → Prop
  | 0, r :: _, lv, st, M => q_G mt Z E mi d rc rs Y r.1 lv st M
  | n + 1, r :: rows, lv, st, M => q_st2 mt Z E mi d Q (fun pc' lv' st' M' => bif Nat.ble pc' r.1 || q_has1 pc' cuts then q_G mt Z E mi d rc rs Y pc' lv' st' M' else q_w2 mt Z E mi d rc rs Y Q cuts n (q_seek pc' rows) lv' st' M') r.1 r.2.1 r.2.2.2 lv st M
  | _, [], _, _, _ => False
theorem q_w2_ok {mt : Nat → q_Me} {Z : q_Z} {E : q_E} {mi d rc rs : Nat} {Y : Array Value → State → Outcome → State → Prop} {Q : Option Value → q_M → Prop} {cuts : List Nat} (hall : q_al mt) (hQ : ∀ v M', Q v M' → q_Y Z E Y v M') (hrw : (mt mi).2.2.2.2.2.all (q_rck mt 438 (mt mi)) = true) : ∀ (n : Nat) (rows : List q_I) (lv : q_L) (st : List Value) (M : q_M), (∀ r ∈ rows, r ∈ (mt mi).2.2.2.2.2) → q_w2 mt Z E mi d rc rs Y Q cuts n rows lv st M → ∃ r rows', rows = r :: rows' ∧ q_G mt Z E mi d rc rs Y r.1 lv st M
  | 0, [], _, _, _, _, h => by unfold q_w2 at h; exact h.elim
  | n + 1, [], _, _, _, _, h => by unfold q_w2 at h; exact h.elim
  | 0, r :: rows, lv, st, M, _, h => ⟨r, rows, rfl, h⟩
  | n + 1, r :: rows, lv, st, M, hm, h => by
    refine ⟨r, rows, rfl, ?_⟩
    have hr := List.all_eq_true.mp hrw r (hm r List.mem_cons_self)
    unfold q_rck at hr
    rw [Bool.and_eq_true, Bool.and_eq_true] at hr
    refine q_stp_ok hall (of_decide_eq_true hr.1.1) hr.1.2 hr.2 hQ ?_ (q_st2_stp h)
    intro pc' lv' st' M' q
    cases hb : (Nat.ble pc' r.1 || q_has1 pc' cuts) with
    | true => rw [hb] at q; exact q
    | false =>
      rw [hb] at q
      obtain ⟨r', rows', e, G⟩ := q_w2_ok hall hQ hrw n (q_seek pc' rows) lv' st' M' (fun x hx => hm x (List.mem_cons_of_mem _ (q_seek_mem hx))) q
      rw [← q_seek_head e]
      exact G
/-- from a place on -/
theorem w_at {Z : q_Z} {E : q_E} {mi d : Nat} {Q : Option Value → q_M → Prop} {pc : Nat} {lv : q_L} {st : List Value} {M : q_M} (n : Nat) (cuts : List Nat) (h : q_w2 q_mt Z E mi d 0 0 (q_Q Z E Q) Q cuts n (q_seek pc (q_mt mi).2.2.2.2.2) lv st M) (hmi : Nat.blt mi 436 = true := by exact rfl) : q_G q_mt Z E mi d 0 0 (q_Q Z E Q) pc lv st M := by
  obtain ⟨r, rows', e, G⟩ := q_w2_ok q_ok (fun _ _ q => q_Y_Q q) (q_ok.1 mi (Nat.le_of_ble_eq_true hmi)).2.2.2.2 n _ lv st M (fun x hx => q_seek_mem hx) h
  rw [← q_seek_head e]
  exact G
/-- a call, from the callee's first row on -/
theorem w_in {Z : q_Z} {E : q_E} {mi d : Nat} {Q : Option Value → q_M → Prop} {as : List Value} {M : q_M} (n : Nat) (cuts : List Nat)
    (h : q_w2 q_mt Z E mi d 0 0 (q_Q Z E Q) Q cuts n (q_seek 0 (q_mt mi).2.2.2.2.2) (q_lv0 (q_mt mi).2.2.2.1 as) [] M) (h1 : Nat.blt mi 436 = true := by exact rfl) (h2 : Nat.ble (q_sls as).length (q_mt mi).2.2.2.1 = true := by exact rfl) : q_C q_mt Z E mi d 0 0 as M Q :=
  q_en q_ok (Nat.le_of_ble_eq_true h1) h2 (w_at n cuts h h1)
