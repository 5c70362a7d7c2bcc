/-! THE JDK's OWN METHODS, raw: contracts over the whole world, values as they lie (written by wip/whole/gen8.py) -/
def q_DQ (Z : q_Z) (E : q_E) (Q : Option Value → q_M → Prop) : Array Value → State → Outcome → State → Prop := fun _ st o t => (∃ (v : Option Value) (M' : q_M), o = .returned v ∧ Q v M' ∧ q_RS Z E M' t) ∧ va_F (q_A E) st t
def q_D (me : q_Me) (Z : q_Z) (E : q_E) (d mc ms : Nat) (as : List Value) (M : q_M) (Q : Option Value → q_M → Prop) : Prop := ∀ l : Launch, Met l me.2.1 (q_ws me) (q_room d mc ms) (fun a U => a = as.toArray ∧ q_RS Z E M U) (q_DQ Z E Q) mc ms (q_A E)
section QD
variable {me mj : q_Me} {Z : q_Z} {E : q_E} {M : q_M} {Q Q1 : Option Value → q_M → Prop} {d mc ms c1 s1 : Nat} {as rest st0 : List Value} {p : Program} {l : Launch} {e : Env} {R : Room} {s : State} {m : MethodId} {args : Array Value} {below : List Frame} {meth : Method} {c : Code} {H : Heap} {locs : List Loc} {cells slots pc idx : Nat} {ls : Array Slot} {Q' : State → Prop}
theorem q_D.of (hy : plainName me.2.1.cls = true) (hown : me.2.1.cls = me.1) (hlen : (lg_sl as).length ≤ me.2.2.2.1)
    (h : ∀ (l : Launch) (p : Program) (e : Env) (R : Room) (s : State) (m : MethodId) (args : Array Value) (below : List Frame) (meth : Method) (c : Code) (ls : Array Slot), q_Act me d R p s m args meth c → lv_has ls me.2.2.2.1 (lv_args 0 as) → q_R Z E M s s.heap [] → mc ≤ R.cells → ms ≤ R.slots → W p l e R s m args below meth c s.heap [] 0 0 (MQ below (q_DQ Z E Q) args s mc ms (q_A E)) (F0 m 0 ls [])) : q_D me Z E d mc ms as M Q := by
  intro l
  refine Met.ofW (cc := me.2.2.1) (maxL := me.2.2.2.1) (ret := me.2.2.2.2.1) hy rfl ?_
  intro p e s m args below meth c s₁ B hml hv
  obtain ⟨rfl, hK, hP, hX, hn, hE, hN⟩ := hv
  have hts := atoms_spec (ws := q_ws me) B.pre
  have hown' : s.vm.findClass me.1 = some m.cls := by rw [← hown]; exact findClass_of_methodNamed B.named
  have hl := lv_entry as (n := me.2.2.2.1) hlen
  rw [lg_entry_eq]
  exact h l p e (q_room d mc ms) s m as.toArray below meth c _ ⟨B.exec, B.bytes, B.returns, hml, hown', (fun w h => hts w (List.mem_cons_of_mem _ h)), ⟨B.notSynchronized, fun h => by rw [(name_of_methodNamed B.named B.method).1]; exact h⟩, Nat.le_refl _, Nat.le_refl _⟩ hl ⟨hK, hP, va_S.rf, hX, hn, hE, hN⟩ (by simp [q_room]) (by simp [q_room])
theorem q_D.zret {x : Int32} {ty : FieldType} (A : q_Act me d R p s m args meth c) (hR : q_R Z E M s H locs) (hd : decode me.2.2.1 pc = .ok (.ireturn, 1)) (ht : me.2.2.2.2.1 = some ty) (hn : narrow ty (.int x) = .int x) (h : Q (some (.int x)) M) (hc : cells ≤ mc) (hs : slots ≤ ms) : W p l e R s m args below meth c H locs cells slots (MQ below (q_DQ Z E Q) args s mc ms (q_A E)) (F0 m pc ls [.int x]) := by
  refine W.widen hc hs ?_
  exact W.zret (v := x) A.1 A.2.1 (A.2.2.1.trans ht) hn (fun t ht hW => ⟨⟨_, M, rfl, h, q_RS.of hR ht hW⟩, hR.2.2.1.F ht⟩) hR.2.2.1.2.2 hd A.2.2.2.2.2.2.1.1
theorem q_D.vret (A : q_Act me d R p s m args meth c) (hR : q_R Z E M s H locs) (hd : decode me.2.2.1 pc = .ok (.return_, 1)) (ht : me.2.2.2.2.1 = none) (h : Q none M) (hc : cells ≤ mc) (hs : slots ≤ ms) : W p l e R s m args below meth c H locs cells slots (MQ below (q_DQ Z E Q) args s mc ms (q_A E)) (F0 m pc ls []) := by
  refine W.widen hc hs ?_
  exact W.vret A.1 A.2.1 (A.2.2.1.trans ht) (fun t ht hW => ⟨⟨_, M, rfl, h, q_RS.of hR ht hW⟩, hR.2.2.1.F ht⟩) hR.2.2.1.2.2 hd A.2.2.2.2.2.2.1.1
theorem q_D.call {a : Array Value} (hr : va_Run p l e R s m args below meth c H locs cells slots c1 s1 (F0 m pc ls st0) rest (q_DQ Z E Q1 a) (q_A E)) (hR : q_R Z E M s H locs)
    (kk : ∀ (v : Option Value) (M1 : q_M) (H1 : Heap) (locs1 : List Loc), Q1 v M1 → q_R Z E M1 s H1 locs1 → W p l e R s m args below meth c H1 locs1 (cells + c1) (slots + s1) Q' (F0 m (pc + 3) ls (v.toList ++ rest))) :
    W p l e R s m args below meth c H locs cells slots Q' (F0 m pc ls st0) := by
  intro T hT X
  obtain ⟨v, st₀, t, T', L, h0, X', hL, e1, e2, ⟨⟨w, M1, hv, hq, hK1, hP1, hX1, hn1, hE1, hN1⟩, hz1, hk1⟩, st⟩ := hr T hT X
  cases hv
  obtain ⟨hK, hP, hS, hX, hz, hE, hN⟩ := hR
  rw [h0] at hz1 hk1
  obtain ⟨t2, a1, b1⟩ := kk _ M1 T'.heap (locs ++ L) hq ⟨hK, by rw [e1]; exact hP1, ⟨Nat.le_trans hS.1 (by rw [e1]; exact hz1), fun q h1 h2 => by rw [e1, hk1 q (Nat.lt_of_lt_of_le h1 hS.1) h2]; exact hS.2.1 q h1 h2, fun q hq => by
      rcases List.mem_append.mp hq with h | h
      · exact hS.2.2 q h
      · exact hL q h⟩, hX, hz, hE, hN⟩ T' rfl X'
  exact ⟨t2, st t2 a1, b1⟩
theorem q_D.ins (A : q_Act me (d + 1) R p s m args meth c) (hl : ls.size = me.2.2.2.1) (hR : q_R Z E M s H locs) (hM : q_D mj Z E d c1 s1 as M Q1)
    (h1 : Cond.methodLink me.1 idx mj.2.1 ∈ q_wT) (h2 : Cond.static mj.2.1 ∈ q_wT) (h4 : Cond.initialized mj.2.1.cls ∈ q_wT) (h5 : Cond.code mj.2.1 mj.2.2.1 mj.2.2.2.1 mj.2.2.2.2.1 ∈ q_wT)
    (hy : q_yok mj as.length = true) (hL : mj.2.2.2.1 ≤ 45) (hroom : (rest.map fun v => v.category).sum ≤ 8) (hd : decode me.2.2.1 pc = .ok (.invokestatic idx, 3)) (hf : cells + c1 ≤ R.cells ∧ slots + s1 ≤ R.slots)
    (kk : ∀ (v : Option Value) (M1 : q_M) (H1 : Heap) (locs1 : List Loc), Q1 v M1 → q_R Z E M1 s H1 locs1 → W p l e R s m args below meth c H1 locs1 (cells + c1) (slots + s1) Q' (F0 m (pc + 3) ls (v.toList ++ rest))) : W p l e R s m args below meth c H locs cells slots Q' (F0 m pc ls (as.reverse ++ rest)) := by
  have hts : ∀ w ∈ q_wT, w.before args s = true := fun w h => q_word A h
  have cw := va_cwS (R := R) (own := me.1) (index := idx) (y := mj.2.1) (bytes := mj.2.2.1) (maxL := mj.2.2.2.1) (ret := mj.2.2.2.2.1) (ws := q_ws mj) (rm := q_room d c1 s1) (mc := c1) (ms := s1) (ws' := q_wT) as.length hts (q_goodIn (fun w hw => by
      rcases List.mem_append.mp hw with h | h
      · rcases List.mem_cons.mp h with rfl | h
        · exact h1
        rcases List.mem_cons.mp h with rfl | h
        · exact h2
        rcases List.mem_cons.mp h with rfl | h
        · exact h4
        cases h
      · exact q_ws_in h5 w h)) rfl rfl rfl (q_yok.el hy) ⟨A.2.2.2.2.2.2.2.1, by have := A.2.2.2.2.2.2.2.2; show 8 + (mj.2.2.2.1 + 11) + 64 * d ≤ R.locals; omega⟩
  have hr := va_runS (e := e) (below := below) (meth := meth) (locs := locs) (cells := cells) (slots := slots) (H := H) (As := as) (rest := rest) (g := F0 m pc ls (as.reverse ++ rest))
    (⟨A.1, A.2.1, A.2.2.2.1, A.2.2.2.2.1, hts⟩ : CallFix p m c me.2.2.1 me.2.2.2.1 s args q_wT me.1) (hM l) cw ⟨q_blind, fun U hU hW => ⟨rfl, q_RS.of hR hU hW⟩⟩ rfl rfl hl rfl (lv_room hroom) hd hf
  exact q_D.call hr hR kk
theorem q_D.inv {C : String} {b : Nat} (A : q_Act me (d + 1) R p s m args meth c) (hl : ls.size = me.2.2.2.1) (hR : q_R Z E M s H locs) (hM : q_D mj Z E d c1 s1 (.ref b :: as) M Q1) (hrec : ∃ cellB : Cell, H[b]? = some cellB ∧ cellB.vm.isStatics = false ∧ s.vm.findClass C = some cellB.cls) (hC : mj.2.1.cls = C)
    (h1 : Cond.methodLink me.1 idx mj.2.1 ∈ q_wT) (h2 : Cond.instanceMethod mj.2.1 ∈ q_wT) (h3 : Cond.selects C mj.2.1 mj.2.1 ∈ q_wT) (h4 : Cond.initialized C ∈ q_wT) (h5 : Cond.code mj.2.1 mj.2.2.1 mj.2.2.2.1 mj.2.2.2.2.1 ∈ q_wT)
    (hy : q_yok mj as.length = true) (hL : mj.2.2.2.1 ≤ 45) (hroom : (rest.map fun v => v.category).sum ≤ 8) (hd : decode me.2.2.1 pc = .ok (.invokevirtual idx, 3)) (hf : cells + c1 ≤ R.cells ∧ slots + s1 ≤ R.slots)
    (kk : ∀ (v : Option Value) (M1 : q_M) (H1 : Heap) (locs1 : List Loc), Q1 v M1 → q_R Z E M1 s H1 locs1 → W p l e R s m args below meth c H1 locs1 (cells + c1) (slots + s1) Q' (F0 m (pc + 3) ls (v.toList ++ rest))) : W p l e R s m args below meth c H locs cells slots Q' (F0 m pc ls (as.reverse ++ .ref b :: rest)) := by
  have hts : ∀ w ∈ q_wT, w.before args s = true := fun w h => q_word A h
  have cw : CallW R s args me.1 C idx mj.2.1 mj.2.2.1 mj.2.2.2.1 mj.2.2.2.2.1 (q_ws mj) (q_room d c1 s1) c1 s1 as.length := cwV (ws' := q_wT) as.length hts (q_goodIn (fun w hw => by
      rcases List.mem_append.mp hw with h | h
      · rcases List.mem_cons.mp h with rfl | h
        · exact h1
        rcases List.mem_cons.mp h with rfl | h
        · exact h2
        rcases List.mem_cons.mp h with rfl | h
        · exact h3
        rcases List.mem_cons.mp h with rfl | h
        · exact h4
        cases h
      · exact q_ws_in h5 w h)) rfl rfl rfl ⟨hC, q_yok.el hy⟩ ⟨A.2.2.2.2.2.2.2.1, by have := A.2.2.2.2.2.2.2.2; show 8 + (mj.2.2.2.1 + 11) + 64 * d ≤ R.locals; omega⟩
  have hr := va_runV (e := e) (below := below) (meth := meth) (locs := locs) (cells := cells) (slots := slots) (b := b) (As := as) (rest := rest) (g := F0 m pc ls (as.reverse ++ .ref b :: rest))
    (⟨A.1, A.2.1, A.2.2.2.1, A.2.2.2.2.1, hts⟩ : CallFix p m c me.2.2.1 me.2.2.2.1 s args q_wT me.1) (hM l) cw ⟨q_blind, hrec, fun U hU hW => ⟨rfl, q_RS.of hR hU hW⟩⟩ rfl rfl hl rfl (lv_room hroom) hd hf
  exact q_D.call hr hR kk
end QD
abbrev jc_len : ByteArray := prog_20_method_54_code
abbrev jc_cha : ByteArray := prog_20_method_56_code
abbrev jc_cod : ByteArray := prog_20_method_152_code
abbrev jc_lat : ByteArray := prog_20_method_154_code
abbrev jc_chk : ByteArray := prog_20_method_155_code
abbrev jc_l1c : ByteArray := prog_22_method_2_code
abbrev jc_pre : ByteArray := prog_27_method_11_code
theorem jd_len_0 : decode jc_len 0 = .ok (.aload_n 0, 1) := by decide +kernel
theorem jd_len_1 : decode jc_len 1 = .ok (.getfield 9, 3) := by decide +kernel
theorem jd_len_4 : decode jc_len 4 = .ok (.arraylength, 1) := by decide +kernel
theorem jd_len_5 : decode jc_len 5 = .ok (.aload_n 0, 1) := by decide +kernel
theorem jd_len_6 : decode jc_len 6 = .ok (.invokevirtual 335, 3) := by decide +kernel
theorem jd_len_9 : decode jc_len 9 = .ok (.ishr, 1) := by decide +kernel
theorem jd_len_10 : decode jc_len 10 = .ok (.ireturn, 1) := by decide +kernel
theorem jd_cha_0 : decode jc_cha 0 = .ok (.aload_n 0, 1) := by decide +kernel
theorem jd_cha_1 : decode jc_cha 1 = .ok (.invokevirtual 492, 3) := by decide +kernel
theorem jd_cha_4 : decode jc_cha 4 = .ok (.ifCond .eq 12, 3) := by decide +kernel
theorem jd_cha_7 : decode jc_cha 7 = .ok (.aload_n 0, 1) := by decide +kernel
theorem jd_cha_8 : decode jc_cha 8 = .ok (.getfield 9, 3) := by decide +kernel
theorem jd_cha_11 : decode jc_cha 11 = .ok (.iload_n 1, 1) := by decide +kernel
theorem jd_cha_12 : decode jc_cha 12 = .ok (.invokestatic 495, 3) := by decide +kernel
theorem jd_cha_15 : decode jc_cha 15 = .ok (.ireturn, 1) := by decide +kernel
theorem jd_cha_16 : decode jc_cha 16 = .ok (.aload_n 0, 1) := by decide +kernel
theorem jd_cha_17 : decode jc_cha 17 = .ok (.getfield 9, 3) := by decide +kernel
theorem jd_cha_20 : decode jc_cha 20 = .ok (.iload_n 1, 1) := by decide +kernel
theorem jd_cha_21 : decode jc_cha 21 = .ok (.invokestatic 498, 3) := by decide +kernel
theorem jd_cha_24 : decode jc_cha 24 = .ok (.ireturn, 1) := by decide +kernel
theorem jd_cod_0 : decode jc_cod 0 = .ok (.getstatic 38, 3) := by decide +kernel
theorem jd_cod_3 : decode jc_cod 3 = .ok (.ifCond .eq 10, 3) := by decide +kernel
theorem jd_cod_6 : decode jc_cod 6 = .ok (.aload_n 0, 1) := by decide +kernel
theorem jd_cod_7 : decode jc_cod 7 = .ok (.getfield 15, 3) := by decide +kernel
theorem jd_cod_10 : decode jc_cod 10 = .ok (.goto 4, 3) := by decide +kernel
theorem jd_cod_13 : decode jc_cod 13 = .ok (.iconst 1, 1) := by decide +kernel
theorem jd_cod_14 : decode jc_cod 14 = .ok (.ireturn, 1) := by decide +kernel
theorem jd_lat_0 : decode jc_lat 0 = .ok (.getstatic 38, 3) := by decide +kernel
theorem jd_lat_3 : decode jc_lat 3 = .ok (.ifCond .eq 14, 3) := by decide +kernel
theorem jd_lat_6 : decode jc_lat 6 = .ok (.aload_n 0, 1) := by decide +kernel
theorem jd_lat_7 : decode jc_lat 7 = .ok (.getfield 15, 3) := by decide +kernel
theorem jd_lat_10 : decode jc_lat 10 = .ok (.ifCond .ne 7, 3) := by decide +kernel
theorem jd_lat_13 : decode jc_lat 13 = .ok (.iconst 1, 1) := by decide +kernel
theorem jd_lat_14 : decode jc_lat 14 = .ok (.goto 4, 3) := by decide +kernel
theorem jd_lat_17 : decode jc_lat 17 = .ok (.iconst 0, 1) := by decide +kernel
theorem jd_lat_18 : decode jc_lat 18 = .ok (.ireturn, 1) := by decide +kernel
theorem jd_chk_0 : decode jc_chk 0 = .ok (.iload_n 0, 1) := by decide +kernel
theorem jd_chk_1 : decode jc_chk 1 = .ok (.iload_n 1, 1) := by decide +kernel
theorem jd_chk_2 : decode jc_chk 2 = .ok (.getstatic 1053, 3) := by decide +kernel
theorem jd_chk_5 : decode jc_chk 5 = .ok (.invokestatic 1059, 3) := by decide +kernel
theorem jd_chk_8 : decode jc_chk 8 = .ok (.pop, 1) := by decide +kernel
theorem jd_chk_9 : decode jc_chk 9 = .ok (.return_, 1) := by decide +kernel
theorem jd_l1c_0 : decode jc_l1c 0 = .ok (.iload_n 1, 1) := by decide +kernel
theorem jd_l1c_1 : decode jc_l1c 1 = .ok (.aload_n 0, 1) := by decide +kernel
theorem jd_l1c_2 : decode jc_l1c 2 = .ok (.arraylength, 1) := by decide +kernel
theorem jd_l1c_3 : decode jc_l1c 3 = .ok (.invokestatic 9, 3) := by decide +kernel
theorem jd_l1c_6 : decode jc_l1c 6 = .ok (.aload_n 0, 1) := by decide +kernel
theorem jd_l1c_7 : decode jc_l1c 7 = .ok (.iload_n 1, 1) := by decide +kernel
theorem jd_l1c_8 : decode jc_l1c 8 = .ok (.baload, 1) := by decide +kernel
theorem jd_l1c_9 : decode jc_l1c 9 = .ok (.sipush 255, 3) := by decide +kernel
theorem jd_l1c_12 : decode jc_l1c 12 = .ok (.iand, 1) := by decide +kernel
theorem jd_l1c_13 : decode jc_l1c 13 = .ok (.i2c, 1) := by decide +kernel
theorem jd_l1c_14 : decode jc_l1c 14 = .ok (.ireturn, 1) := by decide +kernel
theorem jd_pre_0 : decode jc_pre 0 = .ok (.iload_n 0, 1) := by decide +kernel
theorem jd_pre_1 : decode jc_pre 1 = .ok (.ifCond .lt 8, 3) := by decide +kernel
theorem jd_pre_4 : decode jc_pre 4 = .ok (.iload_n 0, 1) := by decide +kernel
theorem jd_pre_5 : decode jc_pre 5 = .ok (.iload_n 1, 1) := by decide +kernel
theorem jd_pre_6 : decode jc_pre 6 = .ok (.if_icmp .lt 10, 3) := by decide +kernel
theorem jd_pre_9 : decode jc_pre 9 = .ok (.aload_n 2, 1) := by decide +kernel
theorem jd_pre_10 : decode jc_pre 10 = .ok (.iload_n 0, 1) := by decide +kernel
theorem jd_pre_11 : decode jc_pre 11 = .ok (.iload_n 1, 1) := by decide +kernel
theorem jd_pre_12 : decode jc_pre 12 = .ok (.invokestatic 95, 3) := by decide +kernel
theorem jd_pre_15 : decode jc_pre 15 = .ok (.athrow, 1) := by decide +kernel
theorem jd_pre_16 : decode jc_pre 16 = .ok (.iload_n 0, 1) := by decide +kernel
theorem jd_pre_17 : decode jc_pre 17 = .ok (.ireturn, 1) := by decide +kernel
def j_len : q_Me := ("java/lang/String", ⟨"java/lang/String", "length", "()I"⟩, jc_len, 1, some .int, [])
def j_cha : q_Me := ("java/lang/String", ⟨"java/lang/String", "charAt", "(I)C"⟩, jc_cha, 2, some .char, [])
def j_cod : q_Me := ("java/lang/String", ⟨"java/lang/String", "code\x72", "()B"⟩, jc_cod, 1, some .byte, [])
def j_lat : q_Me := ("java/lang/String", ⟨"java/lang/String", "isLatin1", "()Z"⟩, jc_lat, 1, some .boolean, [])
def j_chk : q_Me := ("java/lang/String", ⟨"java/lang/String", "checkIndex", "(II)V"⟩, jc_chk, 2, none, [])
def j_l1c : q_Me := ("java/lang/StringLatin1", ⟨"java/lang/StringLatin1", "charAt", "([BI)C"⟩, jc_l1c, 2, some .char, [])
def j_pre : q_Me := ("jdk/internal/util/Preconditions", ⟨"jdk/internal/util/Preconditions", "checkIndex", "(IILjava/util/function/BiFunction;)I"⟩, jc_pre, 3, some .int, [])
section QT
variable {Z : q_Z} {E : q_E} {M : q_M} {d : Nat}
theorem j_pre_ok {i n : Int32} {f : Value} (h0 : ¬ i < 0) (h1 : i < n) (hf : f = .null ∨ ∃ t, f = .ref t) : q_D j_pre Z E d 0 0 [.int i, .int n, f] M (fun v M' => v = some (.int i) ∧ M' = M) := by
  refine q_D.of (by decide) rfl (by rcases hf with rfl | ⟨t, rfl⟩ <;> exact Nat.le_of_ble_eq_true rfl) ?_
  intro l p e R s m args below meth c ls A hl hR hc hs
  refine lv_iload_n A.1 A.2.1 jd_pre_0 rfl (lv_at hl 0 rfl) ?_
  refine lv_if_lt A.1 A.2.1 jd_pre_1 (tgt := 9) (by decide) (fun h => absurd h h0) (fun _ => ?_)
  refine lv_iload_n A.1 A.2.1 jd_pre_4 rfl (lv_at hl 0 rfl) ?_
  refine lv_iload_n A.1 A.2.1 jd_pre_5 rfl (lv_at hl 1 rfl) ?_
  refine lv_icmp_lt A.1 A.2.1 jd_pre_6 (tgt := 16) (by decide) (fun _ => ?_) (fun h => absurd h1 h)
  refine lv_iload_n A.1 A.2.1 jd_pre_16 rfl (lv_at hl 0 rfl) ?_
  exact q_D.zret A hR jd_pre_17 rfl rfl ⟨rfl, rfl⟩ (Nat.le_refl _) (Nat.le_refl _)
theorem j_chk_ok {i n : Int32} (h0 : ¬ i < 0) (h1 : i < n) : q_D j_chk Z E (d + 1) 0 0 [.int i, .int n] M (fun v M' => v = none ∧ M' = M) := by
  refine q_D.of (by decide) rfl (Nat.le_of_ble_eq_true rfl) ?_
  intro l p e R s m args below meth c ls A hl hR hc hs
  refine lv_iload_n A.1 A.2.1 jd_chk_0 rfl (lv_at hl 0 rfl) ?_
  refine lv_iload_n A.1 A.2.1 jd_chk_1 rfl (lv_at hl 1 rfl) ?_
  have hq := hR.2.2.2.1.2.2.2.2.1
  have K : ∀ f : Value, (f = .null ∨ ∃ t, f = .ref t) → W p l e R s m args below meth c s.heap [] 0 0 (MQ below (q_DQ Z E (fun v M' => v = none ∧ M' = M)) args s 0 0 (q_A E)) (F0 m 5 ls [f, .int n, .int i]) := by
    intro f hf
    refine q_D.ins (rest := []) (as := [.int i, .int n, f]) A hl.1 hR (j_pre_ok (d := d) h0 h1 hf) (q_in_mem (j := 272) (by decide +kernel)) (q_in_mem (j := 273) (by decide +kernel)) (q_in_mem (j := 210) (by decide +kernel)) (q_in_mem (j := 274) (by decide +kernel)) (show q_yok j_pre 3 = true by decide +kernel) (Nat.le_of_ble_eq_true rfl) (Nat.zero_le _) jd_chk_5 ⟨hc, hs⟩ (fun v M1 H1 locs1 hv hR1 => ?_)
    obtain ⟨rfl, rfl⟩ := hv
    refine lv_pop A.1 A.2.1 jd_chk_8 rfl ?_
    exact q_D.vret A hR1 jd_chk_9 rfl ⟨rfl, rfl⟩ (Nat.le_refl _) (Nat.le_refl _)
  rcases hq with hq | ⟨t, hq⟩
  · exact va_gets (own := "java/lang/String") (ref := "jdk/internal/util/Preconditions") A.1 A.2.1 hq hR.2.2.1 A.2.2.2.2.1 (q_word A (q_in_mem (j := 270) (by decide +kernel))) (fun x h => h) jd_chk_2 (K _ (Or.inl rfl))
  · exact va_gets (own := "java/lang/String") (ref := "jdk/internal/util/Preconditions") A.1 A.2.1 hq hR.2.2.1 A.2.2.2.2.1 (q_word A (q_in_mem (j := 270) (by decide +kernel))) (fun x h => h) jd_chk_2 (K _ (Or.inr ⟨t, rfl⟩))
theorem j_l1c_ok {i : Nat} (hi : i < 179) : q_D j_l1c Z E (d + 2) 0 0 [.ref (E.2.2.1 9), .int (nI i)] M (fun w M' => w = some (.int (q_tb.getD i 0)) ∧ M' = M) := by
  refine q_D.of (by decide) rfl (Nat.le_of_ble_eq_true rfl) ?_
  intro l p e R s m args below meth c ls A hl hR hc hs
  have hT : va_T .byte (E.2.2.1 9) 179 (fun j => .int (q_tb.getD j 0)) (q_A E) s s.heap := (hR.2.2.2.1.2.2.1.1 0 (by omega)).2.2.2
  have hn : ¬ nI i < 0 := nI_nlt (b := 0) (by omega) (by omega)
  refine lv_iload_n A.1 A.2.1 jd_l1c_0 rfl (lv_at hl 1 rfl) ?_
  refine lv_aload_n A.1 A.2.1 jd_l1c_1 rfl (lv_at hl 0 rfl) ?_
  refine va_tlen A.1 A.2.1 hT hR.2.2.1 (v := nI 179) rfl jd_l1c_2 ?_
  refine q_D.ins (rest := []) (as := [.int (nI i), .int (nI 179)]) A hl.1 hR (j_chk_ok (d := d) hn (nI_lt hi (by omega))) (q_in_mem (j := 267) (by decide +kernel)) (q_in_mem (j := 268) (by decide +kernel)) (q_in_mem (j := 208) (by decide +kernel)) (q_in_mem (j := 269) (by decide +kernel)) (show q_yok j_chk 2 = true by decide +kernel) (Nat.le_of_ble_eq_true rfl) (Nat.zero_le _) jd_l1c_3 ⟨hc, hs⟩ (fun w M1 H1 locs1 hw hR1 => ?_)
  obtain ⟨rfl, rfl⟩ := hw
  refine lv_aload_n A.1 A.2.1 jd_l1c_6 rfl (lv_at hl 0 rfl) ?_
  refine lv_iload_n A.1 A.2.1 jd_l1c_7 rfl (lv_at hl 1 rfl) ?_
  refine va_tb A.1 A.2.1 hT hR1.2.2.1 (i := nI i) (v := .int (q_tb.getD i 0)) (vp_in_nI hi (by omega)) (by rw [nI_clamp (by omega)]) jd_l1c_8 ?_
  refine lv_sipush A.1 A.2.1 (v := 255) jd_l1c_9 (by decide) ?_
  refine lv_iand A.1 A.2.1 jd_l1c_12 ?_
  have hb : ∀ i, i < 179 → (((q_tb.getD i 0) &&& 255).toUInt32 % 65536).toInt32 = q_tb.getD i 0 ∧ narrow .char (.int (q_tb.getD i 0)) = .int (q_tb.getD i 0) := by decide +kernel
  refine lv_i2c A.1 A.2.1 jd_l1c_13 (hb i hi).1 ?_
  exact q_D.zret A hR1 jd_l1c_14 rfl (hb i hi).2 ⟨rfl, rfl⟩ (Nat.le_refl _) (Nat.le_refl _)
theorem j_lat_ok : q_D j_lat Z E d 0 0 [.ref (E.1 1)] M (fun w M' => w = some (.int 1) ∧ M' = M) := by
  refine q_D.of (by decide) rfl (Nat.le_of_ble_eq_true rfl) ?_
  intro l p e R s m args below meth c ls A hl hR hc hs
  have hJ := hR.2.2.2.1.2
  have hS := hJ.2.1
  refine va_gets (own := "java/lang/String") (ref := "java/lang/String") A.1 A.2.1 hJ.2.2.1 hR.2.2.1 A.2.2.2.2.1 (q_word A (q_in_mem (j := 254) (by decide +kernel))) (fun x h => h) jd_lat_0 ?_
  refine lv_if_eq A.1 A.2.1 jd_lat_3 (tgt := 17) (by decide) (fun h => absurd h (by decide)) (fun _ => ?_)
  refine lv_aload_n A.1 A.2.1 jd_lat_6 rfl (lv_at hl 0 rfl) ?_
  refine vk_getf (own := "java/lang/String") (ref := "java/lang/String") A.1 A.2.1 (hS.1 0 (by omega)).2.1 hR.2.2.1 A.2.2.2.2.1 (q_word A (q_in_mem (j := 2979) (by decide +kernel))) (fun x h => h) jd_lat_7 ?_
  refine lv_if_ne A.1 A.2.1 jd_lat_10 (tgt := 17) (by decide) (fun h => absurd rfl h) (fun _ => ?_)
  refine lv_iconst A.1 A.2.1 jd_lat_13 rfl ?_
  refine lv_goto A.1 A.2.1 jd_lat_14 (tgt := 18) (by decide) ?_
  exact q_D.zret A hR jd_lat_18 rfl rfl ⟨rfl, rfl⟩ (Nat.le_refl _) (Nat.le_refl _)
theorem j_cod_ok : q_D j_cod Z E d 0 0 [.ref (E.1 1)] M (fun w M' => w = some (.int 0) ∧ M' = M) := by
  refine q_D.of (by decide) rfl (Nat.le_of_ble_eq_true rfl) ?_
  intro l p e R s m args below meth c ls A hl hR hc hs
  have hJ := hR.2.2.2.1.2
  have hS := hJ.2.1
  refine va_gets (own := "java/lang/String") (ref := "java/lang/String") A.1 A.2.1 hJ.2.2.1 hR.2.2.1 A.2.2.2.2.1 (q_word A (q_in_mem (j := 254) (by decide +kernel))) (fun x h => h) jd_cod_0 ?_
  refine lv_if_eq A.1 A.2.1 jd_cod_3 (tgt := 13) (by decide) (fun h => absurd h (by decide)) (fun _ => ?_)
  refine lv_aload_n A.1 A.2.1 jd_cod_6 rfl (lv_at hl 0 rfl) ?_
  refine vk_getf (own := "java/lang/String") (ref := "java/lang/String") A.1 A.2.1 (hS.1 0 (by omega)).2.1 hR.2.2.1 A.2.2.2.2.1 (q_word A (q_in_mem (j := 2979) (by decide +kernel))) (fun x h => h) jd_cod_7 ?_
  refine lv_goto A.1 A.2.1 jd_cod_10 (tgt := 14) (by decide) ?_
  exact q_D.zret A hR jd_cod_14 rfl rfl ⟨rfl, rfl⟩ (Nat.le_refl _) (Nat.le_refl _)
theorem j_len_ok : q_D j_len Z E (d + 1) 0 0 [.ref (E.1 1)] M (fun w M' => w = some (.int (nI 179)) ∧ M' = M) := by
  refine q_D.of (by decide) rfl (Nat.le_of_ble_eq_true rfl) ?_
  intro l p e R s m args below meth c ls A hl hR hc hs
  have hJ := hR.2.2.2.1.2
  have hS := hJ.2.1
  refine lv_aload_n A.1 A.2.1 jd_len_0 rfl (lv_at hl 0 rfl) ?_
  refine vk_getf (own := "java/lang/String") (ref := "java/lang/String") A.1 A.2.1 (hS.1 0 (by omega)).2.2.1 hR.2.2.1 A.2.2.2.2.1 (q_word A (q_in_mem (j := 2978) (by decide +kernel))) (fun x h => h) jd_len_1 ?_
  refine va_tlen A.1 A.2.1 (hS.1 0 (by omega)).2.2.2 hR.2.2.1 (v := nI 179) rfl jd_len_4 ?_
  refine lv_aload_n A.1 A.2.1 jd_len_5 rfl (lv_at hl 0 rfl) ?_
  refine q_D.inv (C := "java/lang/String") (b := E.1 1) (rest := [.int (nI 179)]) (as := []) A hl.1 hR (j_cod_ok (d := d)) (vk_recv (i := 0) hS (by decide) hR.2.2.1) rfl (q_in_mem (j := 250) (by decide +kernel)) (q_in_mem (j := 251) (by decide +kernel)) (q_in_mem (j := 252) (by decide +kernel)) (q_in_mem (j := 208) (by decide +kernel)) (q_in_mem (j := 253) (by decide +kernel)) (show q_yok j_cod 0 = true by decide +kernel) (Nat.le_of_ble_eq_true rfl) (Nat.le_of_ble_eq_true rfl) jd_len_6 ⟨hc, hs⟩ (fun w M1 H1 locs1 hw hR1 => ?_)
  obtain ⟨rfl, rfl⟩ := hw
  refine lv_ishr A.1 A.2.1 jd_len_9 ?_
  exact q_D.zret (x := nI 179 >>> (0 &&& 31)) A hR1 jd_len_10 rfl rfl ⟨by decide, rfl⟩ (Nat.le_refl _) (Nat.le_refl _)
theorem j_cha_ok {i : Nat} (hi : i < 179) : q_D j_cha Z E (d + 3) 0 0 [.ref (E.1 1), .int (nI i)] M (fun w M' => w = some (.int (q_tb.getD i 0)) ∧ M' = M) := by
  refine q_D.of (by decide) rfl (Nat.le_of_ble_eq_true rfl) ?_
  intro l p e R s m args below meth c ls A hl hR hc hs
  have hJ := hR.2.2.2.1.2
  have hS := hJ.2.1
  refine lv_aload_n A.1 A.2.1 jd_cha_0 rfl (lv_at hl 0 rfl) ?_
  refine q_D.inv (C := "java/lang/String") (b := E.1 1) (rest := []) (as := []) A hl.1 hR (j_lat_ok (d := d + 2)) (vk_recv (i := 0) hS (by decide) hR.2.2.1) rfl (q_in_mem (j := 260) (by decide +kernel)) (q_in_mem (j := 261) (by decide +kernel)) (q_in_mem (j := 262) (by decide +kernel)) (q_in_mem (j := 208) (by decide +kernel)) (q_in_mem (j := 263) (by decide +kernel)) (show q_yok j_lat 0 = true by decide +kernel) (Nat.le_of_ble_eq_true rfl) (Nat.zero_le _) jd_cha_1 ⟨hc, hs⟩ (fun w M1 H1 locs1 hw hR1 => ?_)
  obtain ⟨rfl, rfl⟩ := hw
  refine lv_if_eq A.1 A.2.1 jd_cha_4 (tgt := 16) (by decide) (fun h => absurd h (by decide)) (fun _ => ?_)
  refine lv_aload_n A.1 A.2.1 jd_cha_7 rfl (lv_at hl 0 rfl) ?_
  refine vk_getf (own := "java/lang/String") (ref := "java/lang/String") A.1 A.2.1 (hS.1 0 (by omega)).2.2.1 hR1.2.2.1 A.2.2.2.2.1 (q_word A (q_in_mem (j := 2978) (by decide +kernel))) (fun x h => h) jd_cha_8 ?_
  refine lv_iload_n A.1 A.2.1 jd_cha_11 rfl (lv_at hl 1 rfl) ?_
  refine q_D.ins (rest := []) (as := [.ref (E.2.2.1 9), .int (nI i)]) A hl.1 hR1 (j_l1c_ok (d := d) hi) (q_in_mem (j := 264) (by decide +kernel)) (q_in_mem (j := 265) (by decide +kernel)) (q_in_mem (j := 209) (by decide +kernel)) (q_in_mem (j := 266) (by decide +kernel)) (show q_yok j_l1c 2 = true by decide +kernel) (Nat.le_of_ble_eq_true rfl) (Nat.zero_le _) jd_cha_12 ⟨hc, hs⟩ (fun w M2 H2 locs2 hw hR2 => ?_)
  obtain ⟨rfl, rfl⟩ := hw
  have hb : ∀ i, i < 179 → narrow .char (.int (q_tb.getD i 0)) = .int (q_tb.getD i 0) := by decide +kernel
  exact q_D.zret A hR2 jd_cha_15 rfl (hb i hi) ⟨rfl, rfl⟩ (Nat.le_refl _) (Nat.le_refl _)
end QT
