/-! THE FUNCTION THAT COMPUTES WHAT AN INSTRUCTION ASKS -/
section QF
variable (st : List Value)
def q_1i (f : Int32 → List Value → Prop) : Prop := match st with
  | .int x :: r => f x r
  | _ => False
def q_2i (f : Int32 → Int32 → List Value → Prop) : Prop := match st with
  | .int y :: .int x :: r => f x y r
  | _ => False
def q_1l (f : Int64 → List Value → Prop) : Prop := match st with
  | .long x :: r => f x r
  | _ => False
def q_2l (f : Int64 → Int64 → List Value → Prop) : Prop := match st with
  | .long y :: .long x :: r => f x y r
  | _ => False
def q_il (f : Int64 → Int32 → List Value → Prop) : Prop := match st with
  | .int y :: .long x :: r => f x y r
  | _ => False
def q_1r (f : Nat → List Value → Prop) : Prop := match st with
  | .ref x :: r => f x r
  | _ => False
def q_ir (f : Nat → Int32 → List Value → Prop) : Prop := match st with
  | .int i :: .ref x :: r => f x i r
  | _ => False
def q_lr (f : Nat → Int64 → List Value → Prop) : Prop := match st with
  | .long i :: .ref x :: r => f x i r
  | _ => False
def q_iir (f : Nat → Int32 → Int32 → List Value → Prop) : Prop := match st with
  | .int v :: .int i :: .ref x :: r => f x i v r
  | _ => False
def q_lir (f : Nat → Int32 → Int64 → List Value → Prop) : Prop := match st with
  | .long v :: .int i :: .ref x :: r => f x i v r
  | _ => False
def q_1v (f : Value → List Value → Prop) : Prop := match st with
  | v :: r => f v r
  | _ => False
def q_2v (f : Value → Value → List Value → Prop) : Prop := match st with
  | v :: w :: r => f v w r
  | _ => False
def q_cy (f : Nat → Int32 → Nat → Int32 → Int32 → List Value → Prop) : Prop := match st with
  | .int n :: .int dp :: .ref b :: .int sp :: .ref a :: r => f a sp b dp n r
  | _ => False
end QF
theorem q_1i.el {st : List Value} {f : Int32 → List Value → Prop} (h : q_1i st f) : ∃ x r, st = .int x :: r ∧ f x r := by
  unfold q_1i at h
  split at h
  · exact ⟨_, _, rfl, h⟩
  · exact h.elim
theorem q_2i.el {st : List Value} {f : Int32 → Int32 → List Value → Prop} (h : q_2i st f) : ∃ x y r, st = .int y :: .int x :: r ∧ f x y r := by
  unfold q_2i at h
  split at h
  · exact ⟨_, _, _, rfl, h⟩
  · exact h.elim
theorem q_1l.el {st : List Value} {f : Int64 → List Value → Prop} (h : q_1l st f) : ∃ x r, st = .long x :: r ∧ f x r := by
  unfold q_1l at h
  split at h
  · exact ⟨_, _, rfl, h⟩
  · exact h.elim
theorem q_2l.el {st : List Value} {f : Int64 → Int64 → List Value → Prop} (h : q_2l st f) : ∃ x y r, st = .long y :: .long x :: r ∧ f x y r := by
  unfold q_2l at h
  split at h
  · exact ⟨_, _, _, rfl, h⟩
  · exact h.elim
theorem q_il.el {st : List Value} {f : Int64 → Int32 → List Value → Prop} (h : q_il st f) : ∃ x y r, st = .int y :: .long x :: r ∧ f x y r := by
  unfold q_il at h
  split at h
  · exact ⟨_, _, _, rfl, h⟩
  · exact h.elim
theorem q_1r.el {st : List Value} {f : Nat → List Value → Prop} (h : q_1r st f) : ∃ x r, st = .ref x :: r ∧ f x r := by
  unfold q_1r at h
  split at h
  · exact ⟨_, _, rfl, h⟩
  · exact h.elim
theorem q_ir.el {st : List Value} {f : Nat → Int32 → List Value → Prop} (h : q_ir st f) : ∃ x i r, st = .int i :: .ref x :: r ∧ f x i r := by
  unfold q_ir at h
  split at h
  · exact ⟨_, _, _, rfl, h⟩
  · exact h.elim
theorem q_lr.el {st : List Value} {f : Nat → Int64 → List Value → Prop} (h : q_lr st f) : ∃ x i r, st = .long i :: .ref x :: r ∧ f x i r := by
  unfold q_lr at h
  split at h
  · exact ⟨_, _, _, rfl, h⟩
  · exact h.elim
theorem q_iir.el {st : List Value} {f : Nat → Int32 → Int32 → List Value → Prop} (h : q_iir st f) : ∃ x i v r, st = .int v :: .int i :: .ref x :: r ∧ f x i v r := by
  unfold q_iir at h
  split at h
  · exact ⟨_, _, _, _, rfl, h⟩
  · exact h.elim
theorem q_lir.el {st : List Value} {f : Nat → Int32 → Int64 → List Value → Prop} (h : q_lir st f) : ∃ x i v r, st = .long v :: .int i :: .ref x :: r ∧ f x i v r := by
  unfold q_lir at h
  split at h
  · exact ⟨_, _, _, _, rfl, h⟩
  · exact h.elim
theorem q_1v.el {st : List Value} {f : Value → List Value → Prop} (h : q_1v st f) : ∃ v r, st = v :: r ∧ f v r := by
  unfold q_1v at h
  split at h
  · exact ⟨_, _, rfl, h⟩
  · exact h.elim
theorem q_2v.el {st : List Value} {f : Value → Value → List Value → Prop} (h : q_2v st f) : ∃ v w r, st = v :: w :: r ∧ f v w r := by
  unfold q_2v at h
  split at h
  · exact ⟨_, _, _, rfl, h⟩
  · exact h.elim
theorem q_cy.el {st : List Value} {f : Nat → Int32 → Nat → Int32 → Int32 → List Value → Prop} (h : q_cy st f) : ∃ a sp b dp n r, st = .int n :: .int dp :: .ref b :: .int sp :: .ref a :: r ∧ f a sp b dp n r := by
  unfold q_cy at h
  split at h
  · exact ⟨_, _, _, _, _, _, rfl, h⟩
  · exact h.elim
/-- locals -/
def q_li (lv : q_L) (i : Nat) (f : Int32 → Prop) : Prop := match lv[i]? with
  | some (some (.int x)) => f x
  | _ => False
def q_ll (lv : q_L) (i : Nat) (f : Int64 → Prop) : Prop := match lv[i]? with
  | some (some (.long x)) => f x
  | _ => False
def q_la (lv : q_L) (i : Nat) (f : Nat → Prop) : Prop := match lv[i]? with
  | some (some (.ref x)) => f x
  | _ => False
theorem q_li.el {lv : q_L} {i : Nat} {f : Int32 → Prop} (h : q_li lv i f) : ∃ x, lv[i]? = some (some (.int x)) ∧ f x := by
  unfold q_li at h
  split at h
  next x hx => exact ⟨x, hx, h⟩
  next => exact h.elim
theorem q_ll.el {lv : q_L} {i : Nat} {f : Int64 → Prop} (h : q_ll lv i f) : ∃ x, lv[i]? = some (some (.long x)) ∧ f x := by
  unfold q_ll at h
  split at h
  next x hx => exact ⟨x, hx, h⟩
  next => exact h.elim
theorem q_la.el {lv : q_L} {i : Nat} {f : Nat → Prop} (h : q_la lv i f) : ∃ x, lv[i]? = some (some (.ref x)) ∧ f x := by
  unfold q_la at h
  split at h
  next x hx => exact ⟨x, hx, h⟩
  next => exact h.elim
/-- a cell of a kind -/
def q_ce (Z : q_Z) (r t : Nat) (f : Nat → Nat → List (Option Nat) → Prop) : Prop := match q_cell Z r with
  | some h => bif Nat.beq h.1 t then f h.2.1 h.2.2.1 h.2.2.2 else False
  | none => False
theorem q_beq {a b : Nat} (h : Nat.beq a b = true) : a = b := Nat.eq_of_beq_eq_true h
theorem q_bif {b : Bool} {P : Prop} (h : bif b then P else False) : b = true ∧ P := by
  cases b
  · exact h.elim
  · exact ⟨rfl, h⟩
theorem q_ce.el {Z : q_Z} {r t : Nat} {f : Nat → Nat → List (Option Nat) → Prop} (h : q_ce Z r t f) : ∃ c n rs, q_cell Z r = some (t, c, n, rs) ∧ f c n rs := by
  unfold q_ce at h
  split at h
  next g hg =>
    obtain ⟨h1, h2⟩ := q_bif h
    obtain ⟨g1, g2, g3, g4⟩ := g
    have e : g1 = t := q_beq h1
    subst e
    exact ⟨g2, g3, g4, hg, h2⟩
  next => exact h.elim
/-- sums of words -/
def q_cat (st : List Value) : Bool := Nat.ble ((st.map fun v => v.category).sum) 8
def q_swt (k : Nat → Prop) (x : Int) : Int → List Nat → Prop
  | _, [] => True
  | a, t :: ts => (x = a → k t) ∧ q_swt k x (a + 1) ts
def q_swl (k : Nat → Prop) (x : Int) (d : Nat) : List (Int × Int) → List Nat → Prop
  | (a, _) :: ps, t :: ts => (x = a → k t) ∧ (¬ x = a → q_swl k x d ps ts)
  | _, _ => k d
/-- what is known of a table of methods: all but Math.min (436) and Math.max (437) keep their checks; those two are the library's -/
def q_al (mt : Nat → q_Me) : Prop := (∀ mi, mi < 436 → q_mok mt 438 (mt mi)) ∧ ((mt 436).2.1 = Lib.Math.min.name ∧ Cond.code Lib.Math.min.name Lib.Math.min.code 2 (some .int) ∈ q_wT) ∧ (mt 437).2.1 = Lib.Math.max.name ∧ Cond.code Lib.Math.max.name Lib.Math.max.code 2 (some .int) ∈ q_wT
/-- what an instruction asks: k is the goal at the next one -/
def q_stp (mt : Nat → q_Me) (Z : q_Z) (E : q_E) (mi d : Nat) (Q : Option Value → q_M → Prop) (k : Nat → q_L → List Value → q_M → Prop) (pc : Nat) (i : Instr) (site : List Nat) (lv : q_L) (st : List Value) (M : q_M) : Prop := match i with
  | .iconst n => k (pc + 1) lv (.int (Int32.ofInt n) :: st) M
  | .bipush n => k (pc + 2) lv (.int (Int32.ofInt n) :: st) M
  | .sipush n => k (pc + 3) lv (.int (Int32.ofInt n) :: st) M
  | .lconst n => k (pc + 1) lv (.long (Int64.ofNat n) :: st) M
  | .ldc _ => match site with
    | [_, v] => k (pc + 2) lv (.int (Int32.ofNat v) :: st) M
    | _ => False
  | .ldc_w _ => match site with
    | [_, v] => k (pc + 3) lv (.int (Int32.ofNat v) :: st) M
    | _ => False
  | .ldc2_w _ => match site with
    | [_, v] => k (pc + 3) lv (.long (Int64.ofNat v) :: st) M
    | _ => False
  | .iload_n n => q_li lv n fun x => k (pc + 1) lv (.int x :: st) M
  | .iload n => q_li lv n fun x => k (pc + 2) lv (.int x :: st) M
  | .lload_n n => q_ll lv n fun x => k (pc + 1) lv (.long x :: st) M
  | .lload n => q_ll lv n fun x => k (pc + 2) lv (.long x :: st) M
  | .aload_n n => q_la lv n fun x => k (pc + 1) lv (.ref x :: st) M
  | .aload n => q_la lv n fun x => k (pc + 2) lv (.ref x :: st) M
  | .istore_n n => q_1i st fun x r => bif Nat.blt n (mt mi).2.2.2.1 then k (pc + 1) (q_set1 lv n (.int x)) r M else False
  | .istore n => q_1i st fun x r => bif Nat.blt n (mt mi).2.2.2.1 then k (pc + 2) (q_set1 lv n (.int x)) r M else False
  | .lstore_n n => q_1l st fun x r => bif Nat.blt (n + 1) (mt mi).2.2.2.1 then k (pc + 1) (q_set2 lv n (.long x)) r M else False
  | .lstore n => q_1l st fun x r => bif Nat.blt (n + 1) (mt mi).2.2.2.1 then k (pc + 2) (q_set2 lv n (.long x)) r M else False
  | .iinc n c => q_li lv n fun x => bif Nat.blt n (mt mi).2.2.2.1 then k (pc + 3) (q_set1 lv n (.int (x + Int32.ofInt c))) st M else False
  | .iadd => q_2i st fun x y r => k (pc + 1) lv (.int (x + y) :: r) M
  | .isub => q_2i st fun x y r => k (pc + 1) lv (.int (x - y) :: r) M
  | .imul => q_2i st fun x y r => k (pc + 1) lv (.int (x * y) :: r) M
  | .iand => q_2i st fun x y r => k (pc + 1) lv (.int (x &&& y) :: r) M
  | .ior => q_2i st fun x y r => k (pc + 1) lv (.int (x ||| y) :: r) M
  | .ixor => q_2i st fun x y r => k (pc + 1) lv (.int (x ^^^ y) :: r) M
  | .idiv => q_2i st fun x y r => ¬ y = 0 ∧ k (pc + 1) lv (.int (x / y) :: r) M
  | .irem => q_2i st fun x y r => ¬ y = 0 ∧ k (pc + 1) lv (.int (x - x / y * y) :: r) M
  | .ishl => q_2i st fun x y r => k (pc + 1) lv (.int (x <<< (y &&& 31)) :: r) M
  | .ishr => q_2i st fun x y r => k (pc + 1) lv (.int (x >>> (y &&& 31)) :: r) M
  | .iushr => q_2i st fun x y r => k (pc + 1) lv (.int (x.toUInt32 >>> (y.toUInt32 &&& Int32.toUInt32 31)).toInt32 :: r) M
  | .ladd => q_2l st fun x y r => k (pc + 1) lv (.long (x + y) :: r) M
  | .lsub => q_2l st fun x y r => k (pc + 1) lv (.long (x - y) :: r) M
  | .lmul => q_2l st fun x y r => k (pc + 1) lv (.long (x * y) :: r) M
  | .land => q_2l st fun x y r => k (pc + 1) lv (.long (x &&& y) :: r) M
  | .lor => q_2l st fun x y r => k (pc + 1) lv (.long (x ||| y) :: r) M
  | .ldiv => q_2l st fun x y r => ¬ y = 0 ∧ k (pc + 1) lv (.long (x / y) :: r) M
  | .lrem => q_2l st fun x y r => ¬ y = 0 ∧ k (pc + 1) lv (.long (x - x / y * y) :: r) M
  | .lshl => q_il st fun x y r => k (pc + 1) lv (.long (x <<< (y.toInt64 &&& 63)) :: r) M
  | .lshr => q_il st fun x y r => k (pc + 1) lv (.long (x >>> (y.toInt64 &&& 63)) :: r) M
  | .lcmp => q_2l st fun x y r => k (pc + 1) lv (.int (lg_cmp x y) :: r) M
  | .i2l => q_1i st fun x r => k (pc + 1) lv (.long x.toInt64 :: r) M
  | .l2i => q_1l st fun x r => k (pc + 1) lv (.int x.toInt32 :: r) M
  | .i2c => q_1i st fun x r => k (pc + 1) lv (.int (x.toUInt32 % 65536).toInt32 :: r) M
  | .dup => q_1v st fun v r => bif Nat.beq v.category 1 then k (pc + 1) lv (v :: v :: r) M else False
  | .pop => q_1v st fun v r => bif Nat.beq v.category 1 then k (pc + 1) lv r M else False
  | .dup2 => q_2v st fun v w r => bif Nat.beq v.category 1 && Nat.beq w.category 1 then k (pc + 1) lv (v :: w :: v :: w :: r) M else False
  | .goto _ => match site with
    | [t] => k t lv st M
    | _ => False
  | .ifCond c _ => match site with
    | [t] => q_1i st fun x r => match c with
      | .eq => (x = 0 → k t lv r M) ∧ (¬ x = 0 → k (pc + 3) lv r M)
      | .ne => (¬ x = 0 → k t lv r M) ∧ (x = 0 → k (pc + 3) lv r M)
      | .lt => (x < 0 → k t lv r M) ∧ (¬ x < 0 → k (pc + 3) lv r M)
      | .ge => (0 ≤ x → k t lv r M) ∧ (¬ 0 ≤ x → k (pc + 3) lv r M)
      | .gt => (0 < x → k t lv r M) ∧ (¬ 0 < x → k (pc + 3) lv r M)
      | .le => (x ≤ 0 → k t lv r M) ∧ (¬ x ≤ 0 → k (pc + 3) lv r M)
    | _ => False
  | .if_icmp c _ => match site with
    | [t] => q_2i st fun x y r => match c with
      | .eq => (x = y → k t lv r M) ∧ (¬ x = y → k (pc + 3) lv r M)
      | .ne => (¬ x = y → k t lv r M) ∧ (x = y → k (pc + 3) lv r M)
      | .lt => (x < y → k t lv r M) ∧ (¬ x < y → k (pc + 3) lv r M)
      | .ge => (y ≤ x → k t lv r M) ∧ (¬ y ≤ x → k (pc + 3) lv r M)
      | .gt => (y < x → k t lv r M) ∧ (¬ y < x → k (pc + 3) lv r M)
      | .le => (x ≤ y → k t lv r M) ∧ (¬ x ≤ y → k (pc + 3) lv r M)
    | _ => False
  | .tableswitch _ lo hi _ => match site with
    | t :: ts => q_1i st fun x r => (x.toInt < lo ∨ hi < x.toInt → k t lv r M) ∧ q_swt (fun t => k t lv r M) x.toInt lo ts
    | _ => False
  | .lookupswitch _ ps => match site with
    | t :: ts => q_1i st fun x r => q_swl (fun t => k t lv r M) x.toInt t ps.toList ts
    | _ => False
  | .getfield _ => match site with
    | [ci, f, _] => q_1r st fun r rest => q_ce Z r 0 fun c n refs => bif Nat.beq c ci && Nat.blt f n then k (pc + 3) lv (q_pv (q_fk ci f) (M.1 r f) (M.2 r f) (refs.getD f none) :: rest) M else False
    | _ => False
  | .putfield _ => match site with
    | [ci, f, _] => match q_fk ci f with
      | 0 => q_ir st fun r x rest => q_ce Z r 0 fun c n _ => bif Nat.beq c ci && Nat.blt f n then k (pc + 3) lv rest (q_si M r f x) else False
      | 1 => q_lr st fun r x rest => q_ce Z r 0 fun c n _ => bif Nat.beq c ci && Nat.blt f n then k (pc + 3) lv rest (q_sl M r f x) else False
      | 3 => q_ir st fun r x rest => (x = 0 ∨ x = 1) ∧ q_ce Z r 0 fun c n _ => bif Nat.beq c ci && Nat.blt f n then k (pc + 3) lv rest (q_si M r f x) else False
      | _ => False
    | _ => False
  | .iaload => q_ir st fun r i rest => match r with
    | 0 => q_in0 i Z.1 ∧ k (pc + 1) lv (.int (Z.2.1 i.toNatClampNeg) :: rest) M
    | r => q_ce Z r 1 fun _ n _ => q_in0 i n ∧ k (pc + 1) lv (.int (M.1 r i.toNatClampNeg) :: rest) M
  | .laload => q_ir st fun r i rest => q_ce Z r 2 fun _ n _ => q_in0 i n ∧ k (pc + 1) lv (.long (M.2 r i.toNatClampNeg) :: rest) M
  | .baload => q_ir st fun r i rest => q_ce Z r 3 fun _ n _ => q_in0 i n ∧ k (pc + 1) lv (.int (M.1 r i.toNatClampNeg) :: rest) M
  | .aaload => q_ir st fun r i rest => q_ce Z r 4 fun _ n refs => q_in0 i n ∧ k (pc + 1) lv (q_pv 2 0 0 (refs.getD i.toNatClampNeg none) :: rest) M
  | .iastore => q_iir st fun r i x rest => q_ce Z r 1 fun _ n _ => q_in0 i n ∧ k (pc + 1) lv rest (q_si M r i.toNatClampNeg x)
  | .lastore => q_lir st fun r i x rest => q_ce Z r 2 fun _ n _ => q_in0 i n ∧ k (pc + 1) lv rest (q_sl M r i.toNatClampNeg x)
  | .bastore => q_iir st fun r i x rest => q_ce Z r 3 fun _ n _ => q_in0 i n ∧ (x = 0 ∨ x = 1) ∧ k (pc + 1) lv rest (q_si M r i.toNatClampNeg x)
  | .arraylength => q_1r st fun r rest => match r with
    | 0 => k (pc + 1) lv (.int (Int32.ofNat Z.1) :: rest) M
    | r => match q_cell Z r with
      | some h => bif Nat.ble 1 h.1 && Nat.ble h.1 4 then k (pc + 1) lv (.int (Int32.ofNat h.2.2.1) :: rest) M else False
      | none => False
  | .ireturn => match st, (mt mi).2.2.2.2.1 with
    | [.int x], some .int => Q (some (.int x)) M
    | [.int x], some .boolean => (x = 0 ∨ x = 1) ∧ Q (some (.int x)) M
    | _, _ => False
  | .lreturn => match st, (mt mi).2.2.2.2.1 with
    | [.long x], some .long => Q (some (.long x)) M
    | _, _ => False
  | .return_ => match st, (mt mi).2.2.2.2.1 with
    | [], none => Q none M
    | _, _ => False
  | .invokevirtual _ => match d, site with
    | d + 1, [1, mj, n, ci, _, _, _, _] => match st.drop n with
      | .ref r :: rest => q_ce Z r 0 fun c _ _ => bif Nat.blt mj 436 && (Nat.beq c ci && q_cat rest) then q_C mt Z E mj d 0 0 (.ref r :: (st.take n).reverse) M (fun v M' => k (pc + 3) lv (v.toList ++ rest) M') else False
      | _ => False
    | d + 1, [4, mj, n, ci, _, _, _, _] => match st.drop n with
      | .ref r :: rest => q_ce Z r 0 fun c _ _ => bif Nat.blt mj 436 && (Nat.beq c ci && q_cat rest) then q_C mt Z E mj d 0 0 (.ref r :: (st.take n).reverse) M (fun v M' => k (pc + 3) lv (v.toList ++ rest) M') else False
      | _ => False
    | _, _ => False
  | .invokestatic _ => match d, site with
    | _ + 1, [2, 436, _, _, _, _] => q_2i st fun x y r => bif q_cat r then k (pc + 3) lv (.int (if y < x then y else x) :: r) M else False
    | _ + 1, [2, 437, _, _, _, _] => q_2i st fun x y r => bif q_cat r then k (pc + 3) lv (.int (if x < y then y else x) :: r) M else False
    | d + 1, [2, mj, n, _, _, _] => bif Nat.blt mj 436 && (Nat.ble n st.length && q_cat (st.drop n)) then q_C mt Z E mj d 0 0 (st.take n).reverse M (fun v M' => k (pc + 3) lv (v.toList ++ st.drop n) M') else False
    | d + 1, [3, mj, n, _, _, _] => bif Nat.blt mj 436 && (Nat.ble n st.length && q_cat (st.drop n)) then q_C mt Z E mj d 0 0 (st.take n).reverse M (fun v M' => k (pc + 3) lv (v.toList ++ st.drop n) M') else False
    | _ + 1, [5, _, _, _, _] => q_cy st fun a sp b dp n rest => bif q_cat rest then match q_cell Z a, q_cell Z b with
        | some (1, _, na, _), some (1, _, nb, _) => q_cpok sp dp n na nb ∧ k (pc + 3) lv rest (q_cpi M a sp.toNatClampNeg b dp.toNatClampNeg n.toNatClampNeg)
        | some (2, _, na, _), some (2, _, nb, _) => q_cpok sp dp n na nb ∧ k (pc + 3) lv rest (q_cpl M a sp.toNatClampNeg b dp.toNatClampNeg n.toNatClampNeg)
        | _, _ => False else False
    | _, _ => False
  | _ => False
