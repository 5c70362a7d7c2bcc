/-! numbers, frames, loops: what all later rows use (written by wip/whole/pp.py out of wip/whole/src) -/
abbrev sN : Type := Nat → Int
theorem z_nat (n : Nat) : nI n = Int32.ofInt (n : Int) := rfl
theorem z_lit (n : Nat) : Int32.ofNat n = Int32.ofInt (n : Int) := rfl
theorem z_toInt {a : Int} (h : -2147483648 ≤ a ∧ a < 2147483648) : (Int32.ofInt a).toInt = a := Int32.toInt_ofInt_of_le (by omega) (by omega)
section ZC
variable {x y : Int32} {A B : Prop}
theorem z_lt (a b : Int) (f : a < b → A) (g : b ≤ a → B) (hx : x = Int32.ofInt a := by (first | assumption | (simp only [z_nat, z_lit, ← Int32.ofInt_add, ← Int32.ofInt_sub, ← Int32.ofInt_mul]; exact congrArg Int32.ofInt (by omega)) | (simp only [z_nat, z_lit, ← Int32.ofInt_add, ← Int32.ofInt_sub, ← Int32.ofInt_mul]; done) | exact congrArg Int32.ofInt (by omega) | rfl)) (hy : y = Int32.ofInt b := by (first | assumption | (simp only [z_nat, z_lit, ← Int32.ofInt_add, ← Int32.ofInt_sub, ← Int32.ofInt_mul]; exact congrArg Int32.ofInt (by omega)) | (simp only [z_nat, z_lit, ← Int32.ofInt_add, ← Int32.ofInt_sub, ← Int32.ofInt_mul]; done) | exact congrArg Int32.ofInt (by omega) | rfl)) (ha : -2147483648 ≤ a ∧ a < 2147483648 := by omega) (hb : -2147483648 ≤ b ∧ b < 2147483648 := by omega) : (x < y → A) ∧ (¬ x < y → B) := by
  subst hx hy
  rw [Int32.lt_iff_toInt_lt, z_toInt ha, z_toInt hb]
  exact ⟨f, fun z => g (by omega)⟩
theorem z_le (a b : Int) (f : a ≤ b → A) (g : b < a → B) (hx : x = Int32.ofInt a := by (first | assumption | (simp only [z_nat, z_lit, ← Int32.ofInt_add, ← Int32.ofInt_sub, ← Int32.ofInt_mul]; exact congrArg Int32.ofInt (by omega)) | (simp only [z_nat, z_lit, ← Int32.ofInt_add, ← Int32.ofInt_sub, ← Int32.ofInt_mul]; done) | exact congrArg Int32.ofInt (by omega) | rfl)) (hy : y = Int32.ofInt b := by (first | assumption | (simp only [z_nat, z_lit, ← Int32.ofInt_add, ← Int32.ofInt_sub, ← Int32.ofInt_mul]; exact congrArg Int32.ofInt (by omega)) | (simp only [z_nat, z_lit, ← Int32.ofInt_add, ← Int32.ofInt_sub, ← Int32.ofInt_mul]; done) | exact congrArg Int32.ofInt (by omega) | rfl)) (ha : -2147483648 ≤ a ∧ a < 2147483648 := by omega) (hb : -2147483648 ≤ b ∧ b < 2147483648 := by omega) : (x ≤ y → A) ∧ (¬ x ≤ y → B) := by
  subst hx hy
  rw [Int32.le_iff_toInt_le, z_toInt ha, z_toInt hb]
  exact ⟨f, fun z => g (by omega)⟩
theorem z_inj {a b : Int} (ha : -2147483648 ≤ a ∧ a < 2147483648) (hb : -2147483648 ≤ b ∧ b < 2147483648) : Int32.ofInt a = Int32.ofInt b ↔ a = b := by
  rw [← Int32.toInt_inj, z_toInt ha, z_toInt hb]
theorem z_eq (a b : Int) (f : a = b → A) (g : ¬ a = b → B) (hx : x = Int32.ofInt a := by (first | assumption | (simp only [z_nat, z_lit, ← Int32.ofInt_add, ← Int32.ofInt_sub, ← Int32.ofInt_mul]; exact congrArg Int32.ofInt (by omega)) | (simp only [z_nat, z_lit, ← Int32.ofInt_add, ← Int32.ofInt_sub, ← Int32.ofInt_mul]; done) | exact congrArg Int32.ofInt (by omega) | rfl)) (hy : y = Int32.ofInt b := by (first | assumption | (simp only [z_nat, z_lit, ← Int32.ofInt_add, ← Int32.ofInt_sub, ← Int32.ofInt_mul]; exact congrArg Int32.ofInt (by omega)) | (simp only [z_nat, z_lit, ← Int32.ofInt_add, ← Int32.ofInt_sub, ← Int32.ofInt_mul]; done) | exact congrArg Int32.ofInt (by omega) | rfl)) (ha : -2147483648 ≤ a ∧ a < 2147483648 := by omega) (hb : -2147483648 ≤ b ∧ b < 2147483648 := by omega) : (x = y → A) ∧ (¬ x = y → B) := by
  subst hx hy
  rw [z_inj ha hb]
  exact ⟨f, g⟩
theorem z_ne (a b : Int) (f : ¬ a = b → A) (g : a = b → B) (hx : x = Int32.ofInt a := by (first | assumption | (simp only [z_nat, z_lit, ← Int32.ofInt_add, ← Int32.ofInt_sub, ← Int32.ofInt_mul]; exact congrArg Int32.ofInt (by omega)) | (simp only [z_nat, z_lit, ← Int32.ofInt_add, ← Int32.ofInt_sub, ← Int32.ofInt_mul]; done) | exact congrArg Int32.ofInt (by omega) | rfl)) (hy : y = Int32.ofInt b := by (first | assumption | (simp only [z_nat, z_lit, ← Int32.ofInt_add, ← Int32.ofInt_sub, ← Int32.ofInt_mul]; exact congrArg Int32.ofInt (by omega)) | (simp only [z_nat, z_lit, ← Int32.ofInt_add, ← Int32.ofInt_sub, ← Int32.ofInt_mul]; done) | exact congrArg Int32.ofInt (by omega) | rfl)) (ha : -2147483648 ≤ a ∧ a < 2147483648 := by omega) (hb : -2147483648 ≤ b ∧ b < 2147483648 := by omega) : (¬ x = y → A) ∧ (x = y → B) := by
  subst hx hy
  rw [z_inj ha hb]
  exact ⟨f, g⟩
end ZC
/-- any int is some small number -/
theorem z_of (x : Int32) : ∃ a : Int, (-2147483648 ≤ a ∧ a < 2147483648) ∧ x = Int32.ofInt a := ⟨x.toInt, ⟨q_ge, by have := @q_le x; omega⟩, (Int32.ofInt_toInt x).symm⟩
theorem z_1 : (Int32.ofInt 1 = 0 ∨ Int32.ofInt 1 = 1) := Or.inr rfl
theorem z_0 : (Int32.ofInt 0 = 0 ∨ Int32.ofInt 0 = 1) := Or.inl rfl
theorem z_div {a b : Int} (ha : 0 ≤ a ∧ a < 2147483648) (hb : 0 < b ∧ b < 2147483648) : Int32.ofInt a / Int32.ofInt b = Int32.ofInt (a.tdiv b) := by
  have h1 := Int.tdiv_nonneg ha.1 (Int.le_of_lt hb.1)
  have h2 := Int.tdiv_le_self (a := a) b ha.1
  rw [← Int32.toInt_inj, Int32.toInt_div, z_toInt (by omega), z_toInt (by omega), z_toInt (by omega)]
  exact Int.bmod_eq_of_le (by omega) (by omega)
/-- a count's next one -/
theorem ct_t {p : Nat → Bool} {k : Nat} (h : p k = true) : fb_ct p (k + 1) = fb_ct p k + 1 := by rw [fb_ct_succ, if_pos h]
theorem ct_f {p : Nat → Bool} {k : Nat} (h : p k = false) : fb_ct p (k + 1) = fb_ct p k := by rw [fb_ct_succ, if_neg (by rw [h]; decide)]; rfl
/-- a loop upwards -/
theorem lp_up {W : Nat → Prop} (N : Nat) (last : W N) (step : ∀ k, k < N → W (k + 1) → W k) : ∀ k, k ≤ N → W k := by
  have h : ∀ m k, k + m = N → W k := by
    intro m
    induction m with
    | zero => intro k hk; rw [show k = N by omega]; exact last
    | succ m ih => intro k hk; exact step k (by omega) (ih (k + 1) (by omega))
  exact fun k hk => h (N - k) k (by omega)
/-- the same with a memory that moves -/
theorem lp_m {W : Nat → q_M → Prop} {J : Nat → q_M → Prop} (N : Nat) (last : ∀ M, J N M → W N M) (step : ∀ k M, k < N → J k M → (∀ M', J (k + 1) M' → W (k + 1) M') → W k M) : ∀ k M, k ≤ N → J k M → W k M := by
  have h : ∀ m k M, k + m = N → J k M → W k M := by
    intro m
    induction m with
    | zero => intro k M hk hj; obtain rfl : k = N := by omega
              exact last M hj
    | succ m ih => intro k M hk hj; exact step k M (by omega) hj (fun M' hj' => ih (k + 1) M' (by omega) hj')
  exact fun k M hk hj => h (N - k) k M (by omega) hj
/-! frames: only the cells of l and the places of f moved -/
def q_has2 (r i : Nat) : List (Nat × Nat) → Bool
  | [] => false
  | a :: l => (Nat.beq a.1 r && Nat.beq a.2 i) || q_has2 r i l
def q_scr (l : List Nat) (f : List (Nat × Nat)) (r i : Nat) : Bool := q_has1 r l || q_has2 r i f
def q_fs (l : List Nat) (f : List (Nat × Nat)) (M M' : q_M) : Prop := ∀ r i, q_scr l f r i = false → M'.1 r i = M.1 r i ∧ M'.2 r i = M.2 r i
section FS
variable {l : List Nat} {f : List (Nat × Nat)} {M M' M'' : q_M} {r i : Nat}
theorem q_fs.rf : q_fs l f M M := fun _ _ _ => ⟨rfl, rfl⟩
theorem q_fs.tr (h : q_fs l f M M') (h' : q_fs l f M' M'') : q_fs l f M M'' := fun r i hr => ⟨(h' r i hr).1.trans (h r i hr).1, (h' r i hr).2.trans (h r i hr).2⟩
theorem q_si_nn {M : q_M} {a b r i : Nat} {x : Int32} (h : ¬ (a = r ∧ b = i)) : (q_si M r i x).1 a b = M.1 a b := by
  unfold q_si
  show (bif Nat.beq a r && Nat.beq b i then x else M.1 a b) = _
  cases h1 : Nat.beq a r with
  | false => rfl
  | true =>
    cases h2 : Nat.beq b i with
    | false => rfl
    | true => exact absurd ⟨Nat.eq_of_beq_eq_true h1, Nat.eq_of_beq_eq_true h2⟩ h
theorem q_sl_nn {M : q_M} {a b r i : Nat} {x : Int64} (h : ¬ (a = r ∧ b = i)) : (q_sl M r i x).2 a b = M.2 a b := by
  unfold q_sl
  show (bif Nat.beq a r && Nat.beq b i then x else M.2 a b) = _
  cases h1 : Nat.beq a r with
  | false => rfl
  | true =>
    cases h2 : Nat.beq b i with
    | false => rfl
    | true => exact absurd ⟨Nat.eq_of_beq_eq_true h1, Nat.eq_of_beq_eq_true h2⟩ h
theorem q_si_s {M : q_M} {r i : Nat} {x : Int32} : (q_si M r i x).1 r i = x := by rw [q_si_at, if_pos rfl]
theorem q_si_n {M : q_M} {r i j : Nat} {x : Int32} (h : ¬ j = i) : (q_si M r i x).1 r j = M.1 r j := by rw [q_si_at, if_neg h]
theorem q_sl_s {M : q_M} {r i : Nat} {x : Int64} : (q_sl M r i x).2 r i = x := by rw [q_sl_at, if_pos rfl]
theorem q_sl_n {M : q_M} {r i j : Nat} {x : Int64} (h : ¬ j = i) : (q_sl M r i x).2 r j = M.2 r j := by rw [q_sl_at, if_neg h]
theorem q_fs.si {x : Int32} (h : q_scr l f r i = true) : q_fs l f M (q_si M r i x) := fun a b hr => ⟨q_si_nn (fun e => by rw [e.1, e.2, h] at hr; cases hr), rfl⟩
theorem q_fs.sl {x : Int64} (h : q_scr l f r i = true) : q_fs l f M (q_sl M r i x) := fun a b hr => ⟨rfl, q_sl_nn (fun e => by rw [e.1, e.2, h] at hr; cases hr)⟩
theorem q_fs.s1 {x : Int32} (h0 : q_fs l f M M') (h : q_scr l f r i = true := by exact rfl) : q_fs l f M (q_si M' r i x) := h0.tr (q_fs.si h)
theorem q_fs.s2 {x : Int64} (h0 : q_fs l f M M') (h : q_scr l f r i = true := by exact rfl) : q_fs l f M (q_sl M' r i x) := h0.tr (q_fs.sl h)
/-- a cell that stood still -/
theorem q_fs.c1 (r : Nat) (h : q_fs l f M M') (hr : ∀ i, q_scr l f r i = false := by intro i; exact rfl) : M'.1 r = M.1 r := funext fun i => (h r i (hr i)).1
theorem q_fs.c2 (r : Nat) (h : q_fs l f M M') (hr : ∀ i, q_scr l f r i = false := by intro i; exact rfl) : M'.2 r = M.2 r := funext fun i => (h r i (hr i)).2
/-- a place that stood still -/
theorem q_fs.p1 (r i : Nat) (h : q_fs l f M M') (hr : q_scr l f r i = false := by exact rfl) : M'.1 r i = M.1 r i := (h r i hr).1
theorem q_fs.p2 (r i : Nat) (h : q_fs l f M M') (hr : q_scr l f r i = false := by exact rfl) : M'.2 r i = M.2 r i := (h r i hr).2
theorem q_has1_in {r : Nat} : ∀ {l : List Nat}, q_has1 r l = true ↔ r ∈ l
  | [] => by simp [q_has1]
  | a :: l => by
    unfold q_has1
    rw [Bool.or_eq_true, q_has1_in, List.mem_cons, Nat.beq_eq]
    constructor
    · rintro (h | h)
      · exact Or.inl h.symm
      · exact Or.inr h
    · rintro (h | h)
      · exact Or.inl h.symm
      · exact Or.inr h
theorem q_has2_in {r i : Nat} : ∀ {l : List (Nat × Nat)}, q_has2 r i l = true ↔ (r, i) ∈ l
  | [] => by simp [q_has2]
  | a :: l => by
    unfold q_has2
    rw [Bool.or_eq_true, q_has2_in, List.mem_cons, Bool.and_eq_true, Nat.beq_eq, Nat.beq_eq]
    constructor
    · rintro (h | h)
      · exact Or.inl (Prod.ext h.1.symm h.2.symm)
      · exact Or.inr h
    · rintro (h | h)
      · exact Or.inl ⟨(congrArg Prod.fst h).symm, (congrArg Prod.snd h).symm⟩
      · exact Or.inr h
theorem q_fs.mono {l' : List Nat} {f' : List (Nat × Nat)} (h : q_fs l f M M') (hs : (l.all (fun a => q_has1 a l') && f.all (fun p => q_scr l' f' p.1 p.2)) = true := by exact rfl) : q_fs l' f' M M' := by
  intro r i hr
  refine h r i ?_
  rw [Bool.and_eq_true, List.all_eq_true, List.all_eq_true] at hs
  cases hq : q_scr l f r i with
  | false => rfl
  | true =>
    exfalso
    unfold q_scr at hq
    rw [Bool.or_eq_true] at hq
    rcases hq with hq | hq
    · have h1 := hs.1 r (q_has1_in.mp hq)
      unfold q_scr at hr
      rw [h1] at hr
      cases hr
    · have h1 := hs.2 (r, i) (q_has2_in.mp hq)
      rw [h1] at hr
      cases hr
end FS
