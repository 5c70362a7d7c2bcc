/-! what every module uses -/
theorem q_C.mono {mt : Nat → q_Me} {Z : q_Z} {E : q_E} {mi d rc rs : Nat} {as : List Value} {M : q_M} {Q Q' : Option Value → q_M → Prop} (h : q_C mt Z E mi d rc rs as M Q) (hQ : ∀ v M', Q v M' → Q' v M') : q_C mt Z E mi d rc rs as M Q' := by
  intro l p e ha hc hk s m args below hf happ hP hK
  obtain ⟨n, o, h1, h2, h3, ⟨⟨⟨v, M', e1, e2, e3⟩, h5⟩, h6⟩⟩ := h l p e ha hc hk s m args below hf happ hP hK
  exact ⟨n, o, h1, h2, h3, ⟨⟨⟨v, M', e1, hQ v M' e2, e3⟩, h5⟩, h6⟩⟩
/-- only the cells of the list moved -/
def q_fr (l : List Nat) (M M' : q_M) : Prop := ∀ r, q_has1 r l = false → M'.1 r = M.1 r ∧ M'.2 r = M.2 r
theorem q_fr.rf {l : List Nat} {M : q_M} : q_fr l M M := fun _ _ => ⟨rfl, rfl⟩
theorem q_fr.tr {l : List Nat} {M M' M'' : q_M} (h : q_fr l M M') (h' : q_fr l M' M'') : q_fr l M M'' := fun r hr => ⟨(h' r hr).1.trans (h r hr).1, (h' r hr).2.trans (h r hr).2⟩
theorem q_has1_ne {r a : Nat} {l : List Nat} (h : q_has1 r l = false) (ha : q_has1 a l = true) : r ≠ a := fun e => by rw [e, ha] at h; cases h
theorem q_fr.si {l : List Nat} {M : q_M} {r i : Nat} {x : Int32} (h : q_has1 r l = true) : q_fr l M (q_si M r i x) := fun _ hr => ⟨q_si_ne (q_has1_ne hr h), rfl⟩
theorem q_fr.sl {l : List Nat} {M : q_M} {r i : Nat} {x : Int64} (h : q_has1 r l = true) : q_fr l M (q_sl M r i x) := fun _ hr => ⟨rfl, q_sl_ne (q_has1_ne hr h)⟩
theorem q_fr.cpi {l : List Nat} {M : q_M} {a sp b dp n : Nat} (h : q_has1 b l = true) : q_fr l M (q_cpi M a sp b dp n) := fun _ hr => ⟨q_cpi_ne (q_has1_ne hr h), rfl⟩
theorem q_fr.cpl {l : List Nat} {M : q_M} {a sp b dp n : Nat} (h : q_has1 b l = true) : q_fr l M (q_cpl M a sp b dp n) := fun _ hr => ⟨rfl, q_cpl_ne (q_has1_ne hr h)⟩
/-- numbers -/
theorem q_n1 {n : Nat} (h : n < 2 ^ 31) {m : Nat} (hm : m < n) : q_in0 (nI m) n := by
  have e := nI_toInt (n := m) (by omega)
  exact ⟨by rw [e]; omega, by rw [e]; omega⟩
theorem q_add {a b : Int32} (h : -2147483648 ≤ a.toInt + b.toInt) (h' : a.toInt + b.toInt ≤ 2147483647) : (a + b).toInt = a.toInt + b.toInt := by
  rw [Int32.toInt_add]
  exact Int.bmod_eq_of_le (by omega) (by omega)
theorem q_sub {a b : Int32} (h : -2147483648 ≤ a.toInt - b.toInt) (h' : a.toInt - b.toInt ≤ 2147483647) : (a - b).toInt = a.toInt - b.toInt := by
  rw [Int32.toInt_sub]
  exact Int.bmod_eq_of_le (by omega) (by omega)
theorem q_mul {a b : Int32} (h : -2147483648 ≤ a.toInt * b.toInt) (h' : a.toInt * b.toInt ≤ 2147483647) : (a * b).toInt = a.toInt * b.toInt := by
  rw [Int32.toInt_mul]
  exact Int.bmod_eq_of_le (by omega) (by omega)
theorem q_ge {a : Int32} : -2147483648 ≤ a.toInt := Int32.le_toInt a
theorem q_le {a : Int32} : a.toInt ≤ 2147483647 := by have := Int32.toInt_lt a; omega
/-- a call, by the callee's code, from its first row on -/
theorem q_inl {Z : q_Z} {E : q_E} {mi d : Nat} {Q : Option Value → q_M → Prop} {as : List Value} {M : q_M} (h1 : Nat.blt mi 436 = true) (h2 : Nat.ble (q_sls as).length (q_mt mi).2.2.2.1 = true) (n : Nat) (cuts : List Nat)
    (h : q_wp q_mt Z E mi d 0 0 (q_Q Z E Q) Q cuts n (q_seek 0 (q_mt mi).2.2.2.2.2) (q_lv0 (q_mt mi).2.2.2.1 as) [] M) : q_C q_mt Z E mi d 0 0 as M Q :=
  q_en q_ok (Nat.le_of_ble_eq_true h1) h2 (q_go q_ok (Nat.le_of_ble_eq_true h1) n cuts h)
theorem bn_t {c A B : Prop} (h : ¬ c) (a : A) : (¬ c → A) ∧ (c → B) := ⟨fun _ => a, fun z => absurd z h⟩
theorem bn_f {c A B : Prop} (h : c) (b : B) : (¬ c → A) ∧ (c → B) := ⟨fun z => absurd h z, fun _ => b⟩
/-- both ways -/
theorem br_2 {c A B : Prop} (a : c → A) (b : ¬ c → B) : (c → A) ∧ (¬ c → B) := ⟨a, b⟩
theorem bn_2 {c A B : Prop} (a : ¬ c → A) (b : c → B) : (¬ c → A) ∧ (c → B) := ⟨a, b⟩
theorem q_inD {i : Int32} {n : Nat} (h : (decide (0 ≤ i.toInt) && decide (i.toInt < (n : Int))) = true) : q_in0 i n := by
  rw [Bool.and_eq_true] at h
  exact ⟨of_decide_eq_true h.1, of_decide_eq_true h.2⟩
