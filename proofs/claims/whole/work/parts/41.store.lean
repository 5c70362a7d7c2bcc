/-! rows that the law alone has -/
theorem q_decL {pc len : Nat} {i : Instr} {site : List Nat} (h : (pc, i, len, site) ∈ rL_law) : decode code pc = .ok (i, len) := q_dec (mt := q_mt) (me := mL_law) kaL_law (r := (pc, i, len, site)) h
theorem q_ast {mt : Nat → q_Me} {Z : q_Z} {E : q_E} {mi d rc rs : Nat} {Y : Array Value → State → Outcome → State → Prop} {pc r : Nat} {k : Fin 4} {lv : q_L} {st : List Value} {M : q_M} (hd : decode (mt mi).2.2.1 pc = .ok (.astore_n k, 1)) (hn : k < (mt mi).2.2.2.1) (kk : q_G mt Z E mi d rc rs Y (pc + 1) (q_set1 lv k (.ref r)) st M) : q_G mt Z E mi d rc rs Y pc lv (.ref r :: st) M := by
  refine q_loc ?_ kk
  exact fun A hl w => lv_astore_n A.1 A.2.1 hd rfl hl.asc hn rfl (fun ls' hl' => w ls' (q_has.set1 (v := .ref r) hl'))
