/-! THE StringBuilder, further: append(C), append(I), charAt, over the JDK's bytecode (written by wip/whole/gen15.py) -/
def j_isl : q_Me := (asC, ⟨asC, "isLatin1", "()Z"⟩, jc_isl, 1, some .boolean, [])
def j_nwc : q_Me := (asC, ⟨asC, "newCapacity", "(I)I"⟩, jc_nwc, 6, some .int, [])
def j_nwl : q_Me := ("jdk/internal/util/ArraysSupport", ⟨"jdk/internal/util/ArraysSupport", "newLength", "(III)I"⟩, jc_nwl, 4, some .int, [])
def j_cpo : q_Me := ("java/util/Arrays", ⟨"java/util/Arrays", "copyOf", "([BI)[B"⟩, jc_cpo, 3, some (.array .byte), [])
def j_apc : q_Me := (asC, ⟨asC, "append", "(C)Ljava/lang/AbstractStringBuilder;"⟩, jc_apc, 2, some (.object asC), [])
def j_api : q_Me := (asC, ⟨asC, "append", "(I)Ljava/lang/AbstractStringBuilder;"⟩, jc_api, 4, some (.object asC), [])
def j_cat : q_Me := (asC, ⟨asC, "charAt", "(I)C"⟩, jc_cat, 5, some .char, [])
def j_sbc : q_Me := (sbC, ⟨sbC, "append", "(C)Ljava/lang/StringBuilder;"⟩, jc_sbc, 2, some (.object sbC), [])
def j_sbn : q_Me := (sbC, ⟨sbC, "append", "(I)Ljava/lang/StringBuilder;"⟩, jc_sbn, 2, some (.object sbC), [])
def j_sba : q_Me := (sbC, ⟨sbC, "charAt", "(I)C"⟩, jc_sba, 2, some .char, [])
def j_cen : q_Me := ("java/lang/StringLatin1", ⟨"java/lang/StringLatin1", "canEncode", "(C)Z"⟩, jc_cen, 1, some .boolean, [])
def j_ssz : q_Me := ("java/lang/Intege\x72", ⟨"java/lang/Intege\x72", "stringSize", "(I)I"⟩, jc_ssz, 4, some .int, [])
def j_gch : q_Me := ("java/lang/Intege\x72", ⟨"java/lang/Intege\x72", "getChars", "(II[B)I"⟩, jc_gch, 7, some .int, [])
def j_mxm : q_Me := ("java/lang/Math", ⟨"java/lang/Math", "max", "(II)I"⟩, jc_mxm, 2, some .int, [])
def j_mnm : q_Me := ("java/lang/Math", ⟨"java/lang/Math", "min", "(II)I"⟩, jc_mnm, 2, some .int, [])
/-- what is known of the StringBuilder is fixed -/
def q_at (E : q_E) (sv : List Value) (X : va_W) : q_E := (E.1, E.2.1, E.2.2.1, E.2.2.2.1, E.2.2.2.2.1, fun _ sv' X' => sv' = sv ∧ X' = X)
def q_KQ (E : q_E) (K : Option Value → Heap → Prop) : Array Value → State → Outcome → State → Prop := fun _ st o t => (∃ v : Option Value, o = .returned v ∧ K v t.heap) ∧ va_F (q_A E) st t
/-- a contract whose end speaks of the heap itself -/
def q_K (me : q_Me) (Z : q_Z) (E : q_E) (sv : List Value) (X : va_W) (d mc ms : Nat) (as : List Value) (M : q_M) (K : Option Value → Heap → Prop) : Prop := ∀ l : Launch, Met l me.2.1 (q_ws me) (q_room d mc ms) (fun a U => a = as.toArray ∧ q_RS Z (q_at E sv X) M U) (q_KQ E K) mc ms (q_A E)
section S8
variable {me mj : q_Me} {Z : q_Z} {E : q_E} {M : q_M} {Q Q1 : Option Value → q_M → Prop} {K : Option Value → Heap → Prop} {d mc ms c1 s1 : Nat} {as rest st0 : List Value} {p : Program} {l : Launch} {e : Env} {R : Room} {s : State} {m : MethodId} {args : Array Value} {below : List Frame} {meth : Method} {c : Code} {H H0 : Heap} {locs : List Loc} {cells slots pc idx : Nat} {ls : Array Slot} {Q' : State → Prop} {sv : List Value} {X : va_W}
theorem q_atEv {sv0 : List Value} {X0 : va_W} (h : q_env Z E) : q_env Z (q_at E sv0 X0) := ⟨h.1, fun _ _ _ _ _ h => h, h.2.2⟩
theorem q_atR {sv0 : List Value} {X0 : va_W} (hK : va_K E.2.1 vwCl (q_tys E) s) (hP : va_P E.2.1 vwCl (q_wl Z E M sv ++ X) H) (hD : va_D (q_A E) (q_wl Z E M sv ++ X)) (hS : va_S (q_A E) s.heap H locs) (hX : q_X Z E s s.heap) (hz : E.2.2.2.1 ≤ s.heap.size) (hEv : q_env Z (q_at E sv0 X0)) (hN : q_N s) : q_R Z (q_at E sv X) M s H locs :=
  ⟨hK, ⟨sv, X, hP, hD, rfl, rfl⟩, hS, hX, hz, ⟨hEv.1, fun _ _ _ _ _ h => h, hEv.2.2⟩, hN⟩
theorem q_atEl (h : q_R Z (q_at E sv X) M s H locs) : va_P E.2.1 vwCl (q_wl Z E M sv ++ X) H ∧ va_D (q_A E) (q_wl Z E M sv ++ X) ∧ va_S (q_A E) s.heap H locs := by
  obtain ⟨-, ⟨sv2, X2, hP2, hD2, e1, e2⟩, hS2, -⟩ := h
  rw [show sv2 = sv from e1, show X2 = X from e2] at hP2 hD2
  exact ⟨hP2, hD2, hS2⟩
theorem q_Dar {r : Nat} {ty : FieldType} (A : q_Act me d R p s m args meth c) (hR : q_R Z E M s H locs) (hd : decode me.2.2.1 pc = .ok (.areturn, 1)) (ht : me.2.2.2.2.1 = some ty) (hty : (∃ n, ty = .object n) ∨ ∃ t, ty = .array t) (h : Q (some (.ref r)) M) (hc : cells ≤ mc) (hs : slots ≤ ms) : W p l e R s m args below meth c H locs cells slots (MQ below (q_DQ Z E Q) args s mc ms (q_A E)) (F0 m pc ls [.ref r]) := by
  refine W.widen hc hs ?_
  exact W.aret (v := .ref r) A.1 A.2.1 (A.2.2.1.trans ht) hty (Or.inr ⟨r, rfl⟩) (fun t ht hW => ⟨⟨_, M, rfl, h, q_RS.of hR ht hW⟩, hR.2.2.1.F ht⟩) hR.2.2.1.2.2 hd A.2.2.2.2.2.2.1.1
theorem q_Kof (hy : plainName me.2.1.cls = true) (hown : me.2.1.cls = me.1) (hlen : (lg_sl as).length ≤ me.2.2.2.1)
    (h : ∀ (l : Launch) (p : Program) (e : Env) (R : Room) (s : State) (m : MethodId) (args : Array Value) (below : List Frame) (meth : Method) (c : Code) (ls : Array Slot), q_Act me d R p s m args meth c → lv_has ls me.2.2.2.1 (lv_args 0 as) → va_K E.2.1 vwCl (q_tys E) s → va_P E.2.1 vwCl (q_wl Z E M sv ++ X) s.heap → va_D (q_A E) (q_wl Z E M sv ++ X) → q_X Z E s s.heap → E.2.2.2.1 ≤ s.heap.size → q_env Z (q_at E sv X) → q_N s → mc ≤ R.cells → ms ≤ R.slots → W p l e R s m args below meth c s.heap [] 0 0 (MQ below (q_KQ E K) args s mc ms (q_A E)) (F0 m 0 ls [])) : q_K me Z E sv X d mc ms as M K := by
  intro l
  refine Met.ofW (cc := me.2.2.1) (maxL := me.2.2.2.1) (ret := me.2.2.2.2.1) hy rfl ?_
  intro p e s m args below meth c s₁ B hml hv
  obtain ⟨rfl, hK, ⟨sv2, X2, hP, hD, e1, e2⟩, hX, hn, hE, hN⟩ := hv
  rw [show sv2 = sv from e1, show X2 = X from e2] at hP hD
  have hts := atoms_spec (ws := q_ws me) B.pre
  have hown' : s.vm.findClass me.1 = some m.cls := by rw [← hown]; exact findClass_of_methodNamed B.named
  have hl := lv_entry as (n := me.2.2.2.1) hlen
  rw [lg_entry_eq]
  exact h l p e (q_room d mc ms) s m as.toArray below meth c _ ⟨B.exec, B.bytes, B.returns, hml, hown', (fun w h => hts w (List.mem_cons_of_mem _ h)), ⟨B.notSynchronized, fun h => by rw [(name_of_methodNamed B.named B.method).1]; exact h⟩, Nat.le_refl _, Nat.le_refl _⟩ hl hK hP hD hX hn hE hN (by simp [q_room]) (by simp [q_room])
theorem q_Kvr (A : q_Act me d R p s m args meth c) (hS : va_S (q_A E) s.heap H locs) (hd : decode me.2.2.1 pc = .ok (.return_, 1)) (ht : me.2.2.2.2.1 = none) (h : K none H) (hc : cells ≤ mc) (hs : slots ≤ ms) : W p l e R s m args below meth c H locs cells slots (MQ below (q_KQ E K) args s mc ms (q_A E)) (F0 m pc ls []) := by
  refine W.widen hc hs ?_
  exact W.vret A.1 A.2.1 (A.2.2.1.trans ht) (fun t ht hW => ⟨⟨_, rfl, by rw [ht]; exact h⟩, hS.F ht⟩) hS.2.2 hd A.2.2.2.2.2.2.1.1
theorem q_Kzr {x : Int32} {ty : FieldType} (A : q_Act me d R p s m args meth c) (hS : va_S (q_A E) s.heap H locs) (hd : decode me.2.2.1 pc = .ok (.ireturn, 1)) (ht : me.2.2.2.2.1 = some ty) (hn : narrow ty (.int x) = .int x) (h : K (some (.int x)) H) (hc : cells ≤ mc) (hs : slots ≤ ms) : W p l e R s m args below meth c H locs cells slots (MQ below (q_KQ E K) args s mc ms (q_A E)) (F0 m pc ls [.int x]) := by
  refine W.widen hc hs ?_
  exact W.zret (v := x) A.1 A.2.1 (A.2.2.1.trans ht) hn (fun t ht hW => ⟨⟨_, rfl, by rw [ht]; exact h⟩, hS.F ht⟩) hS.2.2 hd A.2.2.2.2.2.2.1.1
theorem q_Kar {r : Nat} {ty : FieldType} (A : q_Act me d R p s m args meth c) (hS : va_S (q_A E) s.heap H locs) (hd : decode me.2.2.1 pc = .ok (.areturn, 1)) (ht : me.2.2.2.2.1 = some ty) (hty : (∃ n, ty = .object n) ∨ ∃ t, ty = .array t) (h : K (some (.ref r)) H) (hc : cells ≤ mc) (hs : slots ≤ ms) : W p l e R s m args below meth c H locs cells slots (MQ below (q_KQ E K) args s mc ms (q_A E)) (F0 m pc ls [.ref r]) := by
  refine W.widen hc hs ?_
  exact W.aret (v := .ref r) A.1 A.2.1 (A.2.2.1.trans ht) hty (Or.inr ⟨r, rfl⟩) (fun t ht hW => ⟨⟨_, rfl, by rw [ht]; exact h⟩, hS.F ht⟩) hS.2.2 hd A.2.2.2.2.2.2.1.1
theorem q_Kca {a : Array Value} (hr : va_Run p l e R s m args below meth c H locs cells slots c1 s1 (F0 m pc ls st0) rest (q_KQ E K a) (q_A E)) (hS : va_S (q_A E) s.heap H locs)
    (kk : ∀ (v : Option Value) (H1 : Heap) (locs1 : List Loc), K v H1 → va_S (q_A E) s.heap H1 locs1 → W p l e R s m args below meth c H1 locs1 (cells + c1) (slots + s1) Q' (F0 m (pc + 3) ls (v.toList ++ rest))) :
    W p l e R s m args below meth c H locs cells slots Q' (F0 m pc ls st0) := by
  intro T hT X
  obtain ⟨v, st₀, t, T', L, h0, X', hL, e1, e2, ⟨⟨w, hv, hq⟩, hz1, hk1⟩, st⟩ := hr T hT X
  cases hv
  rw [h0] at hz1 hk1
  obtain ⟨t2, a1, b1⟩ := kk _ T'.heap (locs ++ L) (by rw [e1]; exact hq) ⟨Nat.le_trans hS.1 (by rw [e1]; exact hz1), fun q h1 h2 => by rw [e1, hk1 q (Nat.lt_of_lt_of_le h1 hS.1) h2]; exact hS.2.1 q h1 h2, fun q hq => by
      rcases List.mem_append.mp hq with h | h
      · exact hS.2.2 q h
      · exact hL q h⟩ T' rfl X'
  exact ⟨t2, st t2 a1, b1⟩
theorem q_Kis (A : q_Act me (d + 1) R p s m args meth c) (hl : ls.size = me.2.2.2.1) (hR : q_R Z (q_at E sv X) M s H locs) (hM : q_K mj Z E sv X d c1 s1 as M K)
    (h1 : Cond.methodLink me.1 idx mj.2.1 ∈ q_wT) (h2 : Cond.static mj.2.1 ∈ q_wT) (h4 : Cond.initialized mj.2.1.cls ∈ q_wT) (h5 : Cond.code mj.2.1 mj.2.2.1 mj.2.2.2.1 mj.2.2.2.2.1 ∈ q_wT)
    (hy : q_yok mj as.length = true) (hL : mj.2.2.2.1 ≤ 45) (hroom : (rest.map fun v => v.category).sum ≤ 8) (hd : decode me.2.2.1 pc = .ok (.invokestatic idx, 3)) (hf : cells + c1 ≤ R.cells ∧ slots + s1 ≤ R.slots)
    (kk : ∀ (v : Option Value) (H1 : Heap) (locs1 : List Loc), K v H1 → va_S (q_A E) s.heap H1 locs1 → W p l e R s m args below meth c H1 locs1 (cells + c1) (slots + s1) Q' (F0 m (pc + 3) ls (v.toList ++ rest))) : W p l e R s m args below meth c H locs cells slots Q' (F0 m pc ls (as.reverse ++ rest)) := by
  have hts : ∀ w ∈ q_wT, w.before args s = true := fun w h => q_word A h
  have cw := va_cwS (R := R) (own := me.1) (index := idx) (y := mj.2.1) (bytes := mj.2.2.1) (maxL := mj.2.2.2.1) (ret := mj.2.2.2.2.1) (ws := q_ws mj) (rm := q_room d c1 s1) (mc := c1) (ms := s1) (ws' := q_wT) as.length hts (q_goodIn (fun w hw => by
      rcases List.mem_append.mp hw with h | h
      · rcases List.mem_cons.mp h with rfl | h
        · exact h1
        rcases List.mem_cons.mp h with rfl | h
        · exact h2
        rcases List.mem_cons.mp h with rfl | h
        · exact h4
        cases h
      · exact q_ws_in h5 w h)) rfl rfl rfl (q_yok.el hy) ⟨A.2.2.2.2.2.2.2.1, by have := A.2.2.2.2.2.2.2.2; show 8 + (mj.2.2.2.1 + 11) + 64 * d ≤ R.locals; omega⟩
  have hr := va_runS (e := e) (below := below) (meth := meth) (locs := locs) (cells := cells) (slots := slots) (H := H) (As := as) (rest := rest) (g := F0 m pc ls (as.reverse ++ rest))
    (⟨A.1, A.2.1, A.2.2.2.1, A.2.2.2.2.1, hts⟩ : CallFix p m c me.2.2.1 me.2.2.2.1 s args q_wT me.1) (hM l) cw ⟨q_blind, fun U hU hW => ⟨rfl, q_RS.of hR hU hW⟩⟩ rfl rfl hl rfl (lv_room hroom) hd hf
  exact q_Kca hr (q_atEl hR).2.2 kk
theorem q_Kih (A : q_Act me (d + 1) R p s m args meth c) (hl : ls.size = me.2.2.2.1) (hR : q_R Z (q_at E sv X) M s H locs) (hz : zb_Z Z) (hme : me.1 = asC) (hM : q_K mj Z E sv X d c1 s1 (.ref (E.1 270) :: as) M K) (hmj : mj.2.1.cls = asC)
    (hsel : (Cond.selects sbC mj.2.1 mj.2.1).before args s = true) (h1 : Cond.methodLink asC idx mj.2.1 ∈ q_wT) (h2 : Cond.instanceMethod mj.2.1 ∈ q_wT) (h3 : Cond.sameMethod asC asC mj.2.1.name mj.2.1.desc ∈ q_wT) (h5 : Cond.code mj.2.1 mj.2.2.1 mj.2.2.2.1 mj.2.2.2.2.1 ∈ q_wT)
    (hy : q_yok mj as.length = true) (hL : mj.2.2.2.1 ≤ 45) (hroom : (rest.map fun v => v.category).sum ≤ 8) (hd : decode me.2.2.1 pc = .ok (.invokevirtual idx, 3)) (hf : cells + c1 ≤ R.cells ∧ slots + s1 ≤ R.slots)
    (kk : ∀ (v : Option Value) (H1 : Heap) (locs1 : List Loc), K v H1 → va_S (q_A E) s.heap H1 locs1 → W p l e R s m args below meth c H1 locs1 (cells + c1) (slots + s1) Q' (F0 m (pc + 3) ls (v.toList ++ rest))) : W p l e R s m args below meth c H locs cells slots Q' (F0 m pc ls (as.reverse ++ .ref (E.1 270) :: rest)) := by
  have hts : ∀ w ∈ q_wT, w.before args s = true := fun w h => q_word A h
  have hG : GoodIn q_wT (q_ws mj) := q_goodIn (q_ws_in h5)
  have ey : (⟨asC, mj.2.1.name, mj.2.1.desc⟩ : MethodName) = mj.2.1 := by rw [← hmj]
  have cw : va_CU R s args me.1 sbC asC idx mj.2.1 mj.2.1 mj.2.2.1 mj.2.2.2.1 mj.2.2.2.2.1 (q_ws mj) (q_room d c1 s1) c1 s1 as.length := by
    refine ⟨⟨rfl, rfl, A.2.2.2.2.2.2.2.1, by have := A.2.2.2.2.2.2.2.2; show 8 + (mj.2.2.2.1 + 11) + 64 * d ≤ R.locals; omega, pay_in hts hG, List.mem_cons_self⟩, hts _ h5, hts _ (by rw [hmj]; exact q_in_mem (j := 222) (by decide +kernel)), ⟨by decide +kernel, by decide +kernel⟩, fun sig h => ?_, hts _ (by rw [hme]; exact h1), hts _ (by rw [hmj]; exact h3), ?_, hsel, hts _ h2⟩
    · have h2 := (q_yok.el hy).2.2
      rw [h] at h2
      exact (Option.some.inj h2).symm
    · rw [ey]
      exact va_Decl.of (hts _ h2) (hts _ h5)
  have hr := va_runU (C := sbC) (owner := asC) (e := e) (below := below) (meth := meth) (locs := locs) (cells := cells) (slots := slots) (H := H) (b := E.1 270) (As := as) (rest := rest) (g := F0 m pc ls (as.reverse ++ .ref (E.1 270) :: rest))
    (⟨A.1, A.2.1, A.2.2.2.1, A.2.2.2.2.1, hts⟩ : CallFix p m c me.2.2.1 me.2.2.2.1 s args q_wT me.1) (hM l) cw ⟨q_blind, (show ∃ cellB : Cell, H[E.1 270]? = some cellB ∧ cellB.vm.isStatics = false ∧ s.vm.findClass sbC = some cellB.cls from zb_rec (E := q_at E sv X) hR hz), fun U hU hW => ⟨rfl, q_RS.of hR hU hW⟩⟩ rfl rfl hl rfl (lv_room hroom) hd hf
  exact q_Kca hr (q_atEl hR).2.2 kk
theorem zb_len : (q_wl Z E M sv).length = Z.2.2.length := by unfold q_wl; rw [List.length_mapIdx]
theorem zb_ar {x : Nat × va_E} {Y : va_W} : (q_wl Z E M sv ++ x :: Y)[Z.2.2.length]? = some x := by
  rw [List.getElem?_append_right (by rw [zb_len]; exact Nat.le_refl _), zb_len, Nat.sub_self]
  rfl
theorem zb_ar1 {x y : Nat × va_E} {Y : va_W} : (q_wl Z E M sv ++ x :: y :: Y)[Z.2.2.length + 1]? = some y := by
  rw [List.getElem?_append_right (by rw [zb_len]; omega), zb_len, show Z.2.2.length + 1 - Z.2.2.length = 1 by omega]
  rfl
theorem zb_st {x y : Nat × va_E} {Y : va_W} : (q_wl Z E M sv ++ x :: Y).set Z.2.2.length y = q_wl Z E M sv ++ y :: Y := by
  rw [List.set_append_right _ _ (by rw [zb_len]; exact Nat.le_refl _), zb_len, Nat.sub_self]
  rfl
theorem zb_st1 {x y z : Nat × va_E} {Y : va_W} : (q_wl Z E M sv ++ x :: y :: Y).set (Z.2.2.length + 1) z = q_wl Z E M sv ++ x :: z :: Y := by
  rw [List.set_append_right _ _ (by rw [zb_len]; omega), zb_len, show Z.2.2.length + 1 - Z.2.2.length = 1 by omega]
  rfl
theorem zb_gj {W1 : va_W} {x y : Nat × va_E} (k : Nat) (q : Nat × va_E) (h : (W1 ++ [y])[k]? = some q) : (W1 ++ [x, y])[if k < W1.length then k else k + 1]? = some q := by
  by_cases hk : k < W1.length
  · rw [if_pos hk, List.getElem?_append_left hk]
    rw [List.getElem?_append_left hk] at h
    exact h
  · rw [if_neg hk, List.getElem?_append_right (by omega)]
    rw [List.getElem?_append_right (by omega)] at h
    cases ek : k - W1.length with
    | zero =>
      rw [ek] at h
      rw [show k + 1 - W1.length = 1 by omega]
      exact h
    | succ j =>
      rw [ek] at h
      cases h
theorem zb_drP {D : va_G} {W1 : va_W} {x y : Nat × va_E} (h : va_P D vwCl (W1 ++ [x, y]) H) : va_P D vwCl (W1 ++ [y]) H := h.by _ zb_gj
theorem zb_drD {A : Nat → Prop} {W1 : va_W} {x y : Nat × va_E} (h : va_D A (W1 ++ [x, y])) : va_D A (W1 ++ [y]) := h.by _ zb_gj (fun i j _ _ e => by
  split at e <;> split at e <;> omega)
/-- the bytes -/
theorem zb_bas {a cap : Nat} {f : Nat → Int32} (A : q_Act me d R p s m args meth c) (hK : va_K E.2.1 vwCl (q_tys E) s) (hP : va_P E.2.1 vwCl (q_wl Z E M sv ++ [(a, .inl (E.2.2.1 5, cap, .inl f))]) H) (hD : va_D (q_A E) (q_wl Z E M sv ++ [(a, .inl (E.2.2.1 5, cap, .inl f))])) (hS : va_S (q_A E) H0 H locs) {i : Nat} {x : Int32} (hi : i < cap) (hc : cap < 2 ^ 31) (hdg : decode me.2.2.1 pc = .ok (.bastore, 1))
    (kk : ∀ (H1 : Heap) (locs1 : List Loc), va_P E.2.1 vwCl (q_wl Z E M sv ++ [(a, .inl (E.2.2.1 5, cap, .inl (upd f i (vp_nar .byte x))))]) H1 → va_D (q_A E) (q_wl Z E M sv ++ [(a, .inl (E.2.2.1 5, cap, .inl (upd f i (vp_nar .byte x))))]) → va_S (q_A E) H0 H1 locs1 → W p l e R s m args below meth c H1 locs1 cells slots Q' (F0 m (pc + 1) ls rest)) : W p l e R s m args below meth c H locs cells slots Q' (F0 m pc ls (.int x :: .int (nI i) :: .ref a :: rest)) := by
  refine va_bast A.1 A.2.1 hK hP hD hS Z.2.2.length 4 zb_ar rfl (vp_in_nI hi hc) hdg (fun H1 locs1 hP1 hD1 hS1 => ?_)
  rw [nI_clamp (by omega), zb_st] at hP1 hD1
  exact kk H1 locs1 hP1 hD1 hS1
theorem zb_b7 : ∀ ch, ch < 128 → (nI ch).toInt8.toInt32 = nI ch ∧ (nI ch &&& 255) = nI ch ∧ ((nI ch).toUInt32 % 65536).toInt32 = nI ch := by decide +kernel
theorem zb_nar {ch : Nat} (h : ch < 128) : vp_nar .byte (nI ch) = nI ch := by
  have := pk_vb (nI ch)
  rw [(zb_b7 ch h).1] at this
  exact this
theorem zb_fit {ch : Nat} (h : ch < 128) : fits .byte (.int (nI ch)) = true := by
  have := pk_fb (nI ch)
  rw [(zb_b7 ch h).1] at this
  exact this
end S8
section S9
variable {Z : q_Z} {E : q_E} {M : q_M} {d : Nat} {a cap k : Nat} {ml : Int32} {f : Nat → Int32}
set_option maxHeartbeats 4000000 in
theorem j_cen_ok {ch : Nat} (h : ch < 128) : q_D j_cen Z E d 0 0 [.int (nI ch)] M (fun v M' => v = some (.int 1) ∧ M' = M) := by
  refine q_D.of (by decide) rfl (Nat.le_of_ble_eq_true rfl) ?_
  intro l p e R s m args below meth c ls A hl hR hc hs
  refine lv_iload_n A.1 A.2.1 jd_cen_0 rfl (lv_at hl 0 rfl) ?_
  refine lv_sipush A.1 A.2.1 (v := nI 255) jd_cen_1 (by decide) ?_
  refine lv_icmp_gt A.1 A.2.1 jd_cen_4 (tgt := 11) (by decide) (fun z => absurd z (nI_nlt (by omega) (by omega))) (fun _ => ?_)
  refine lv_iconst A.1 A.2.1 (v := 1) jd_cen_7 (by decide) ?_
  refine lv_goto A.1 A.2.1 jd_cen_8 (tgt := 12) (by decide) ?_
  exact q_D.zret A hR jd_cen_12 rfl rfl ⟨rfl, rfl⟩ (Nat.le_refl _) (Nat.le_refl _)
set_option maxHeartbeats 4000000 in
theorem j_nwl_ok {x g : Nat} (hm : x ≤ 142) (hg : g ≤ x + 2) : q_D j_nwl Z E (d + 1) 0 0 [.int (nI x), .int (nI g), .int (nI (x + 2))] M (fun v M' => v = some (.int (nI (2 * x + 2))) ∧ M' = M) := by
  refine q_D.of (by decide) rfl (Nat.le_of_ble_eq_true rfl) ?_
  intro l p e R s m args below meth c ls A hl hR hc hs
  refine lv_iload_n A.1 A.2.1 jd_nwl_0 rfl (lv_at hl 0 rfl) ?_
  refine lv_iload_n A.1 A.2.1 jd_nwl_1 rfl (lv_at hl 1 rfl) ?_
  refine lv_iload_n A.1 A.2.1 jd_nwl_2 rfl (lv_at hl 2 rfl) ?_
  have em : (if nI g < nI (x + 2) then nI (x + 2) else nI g) = nI (x + 2) := by
    by_cases q : g < x + 2
    · rw [if_pos (nI_lt q (by omega))]
    · rw [if_neg (nI_nlt (by omega) (by omega)), show g = x + 2 by omega]
  refine va_mmax (x := nI g) (y := nI (x + 2)) (rest := [.int (nI x)]) A.1 A.2.1 (by rw [A.2.2.2.1]; exact hl.1.symm) A.2.2.2.2.1 (q_word A (q_in_mem (j := 1653) (by decide +kernel))) (q_word A (q_in_mem (j := 1285) (by decide +kernel))) (q_word A (q_in_mem (j := 227) (by decide +kernel))) (q_word A (q_in_mem (j := 1286) (by decide +kernel))) (by have := A.2.2.2.2.2.2.2.1; omega) (by have := A.2.2.2.2.2.2.2.2; show 1 + 13 ≤ _; omega) (Nat.zero_le _) (Nat.zero_le _) jd_nwl_3 ?_
  rw [em]
  refine lv_iadd A.1 A.2.1 jd_nwl_6 ?_
  rw [nI_add, show x + (x + 2) = 2 * x + 2 by omega]
  refine lv_istore_n A.1 A.2.1 jd_nwl_7 rfl hl (by decide) rfl (fun ls_h2 h2 => ?_)
  refine lv_iconst A.1 A.2.1 (v := nI 0) jd_nwl_8 (by decide) ?_
  refine lv_iload_n A.1 A.2.1 jd_nwl_9 rfl (lv_at h2 0 rfl) ?_
  refine lv_icmp_ge A.1 A.2.1 jd_nwl_10 (tgt := 21) (by decide) (fun z => absurd z (nI_ge (by omega) (by omega))) (fun _ => ?_)
  refine lv_iload_n A.1 A.2.1 jd_nwl_13 rfl (lv_at h2 0 rfl) ?_
  refine lv_ldc A.1 A.2.1 (v := nI 2147483639) A.2.2.2.2.1 (q_word A (q_in_mem (j := 1654) (by decide +kernel))) jd_nwl_14 ?_
  refine lv_icmp_gt A.1 A.2.1 jd_nwl_16 (tgt := 21) (by decide) (fun z => absurd z (nI_nlt (by omega) (by decide))) (fun _ => ?_)
  refine lv_iload_n A.1 A.2.1 jd_nwl_19 rfl (lv_at h2 0 rfl) ?_
  exact q_D.zret A hR jd_nwl_20 rfl rfl ⟨rfl, rfl⟩ (Nat.le_refl _) (Nat.le_refl _)
set_option maxHeartbeats 4000000 in
theorem j_isl_ok (hz : zb_Z Z) : q_D j_isl Z (q_at E [.ref a, .int 0, .int ml, .int (nI k)] [(a, .inl (E.2.2.1 5, cap, .inl f))]) d 0 0 [.ref (E.1 270)] M (fun w M' => w = some (.int 1) ∧ M' = M) := by
  refine q_D.of (by decide) rfl (Nat.le_of_ble_eq_true rfl) ?_
  intro l p e R s m args below meth c ls A hl hR hc hs
  have hJ := hR.2.2.2.1.2
  have hK : va_K E.2.1 vwCl (q_tys E) s := hR.1
  obtain ⟨hP, hD, hS⟩ := q_atEl hR
  refine va_gets (own := asC) (ref := "java/lang/String") A.1 A.2.1 hJ.2.2.1 hR.2.2.1 A.2.2.2.2.1 (q_word A (q_in_mem (j := 798) (by decide +kernel))) (fun x h => h) jd_isl_0 ?_
  refine lv_if_eq A.1 A.2.1 jd_isl_3 (tgt := 17) (by decide) (fun h => absurd h (by decide)) (fun _ => ?_)
  refine lv_aload_n A.1 A.2.1 jd_isl_6 rfl (lv_at hl 0 rfl) ?_
  refine zb_get (E := E) (k := 1) (v := .int 0) A hK hP hz rfl (by omega) (q_in_mem (j := 807) (by decide +kernel)) rfl jd_isl_7 ?_
  refine lv_if_ne A.1 A.2.1 jd_isl_10 (tgt := 17) (by decide) (fun h => absurd rfl h) (fun _ => ?_)
  refine lv_iconst A.1 A.2.1 (v := 1) jd_isl_13 (by decide) ?_
  refine lv_goto A.1 A.2.1 jd_isl_14 (tgt := 18) (by decide) ?_
  exact q_D.zret A hR jd_isl_18 rfl rfl ⟨rfl, rfl⟩ (Nat.le_refl _) (Nat.le_refl _)
set_option maxHeartbeats 4000000 in
theorem j_nwc_ok {q : Nat} (hz : zb_Z Z) (hcap : cap ≤ 142) (hq : cap < q) (hq2 : q ≤ 2 * cap + 2) : q_D j_nwc Z (q_at E [.ref a, .int 0, .int ml, .int (nI k)] [(a, .inl (E.2.2.1 5, cap, .inl f))]) (d + 2) 0 0 [.ref (E.1 270), .int (nI q)] M (fun w M' => w = some (.int (nI (2 * cap + 2))) ∧ M' = M) := by
  refine q_D.of (by decide) rfl (Nat.le_of_ble_eq_true rfl) ?_
  intro l p e R s m args below meth c ls A hl hR hc hs
  have hK : va_K E.2.1 vwCl (q_tys E) s := hR.1
  obtain ⟨hP, hD, hS⟩ := q_atEl hR
  refine lv_aload_n A.1 A.2.1 jd_nwc_0 rfl (lv_at hl 0 rfl) ?_
  refine zb_get (E := E) (k := 0) (v := .ref a) A hK hP hz rfl (by omega) (q_in_mem (j := 806) (by decide +kernel)) rfl jd_nwc_1 ?_
  refine va_alen A.1 A.2.1 hK hP Z.2.2.length 4 zb_ar (ty := .byte) rfl (v := nI cap) rfl jd_nwc_4 ?_
  refine lv_istore_n A.1 A.2.1 jd_nwc_5 rfl hl (by decide) rfl (fun ls_h2 h2 => ?_)
  refine lv_iload_n A.1 A.2.1 jd_nwc_6 rfl (lv_at h2 2 rfl) ?_
  refine lv_aload_n A.1 A.2.1 jd_nwc_7 rfl (lv_at h2 1 rfl) ?_
  refine zb_get (E := E) (k := 1) (v := .int 0) A hK hP hz rfl (by omega) (q_in_mem (j := 807) (by decide +kernel)) rfl jd_nwc_8 ?_
  refine lv_ishl A.1 A.2.1 jd_nwc_11 ?_
  rw [sb_shl0]
  refine lv_istore_n A.1 A.2.1 jd_nwc_12 rfl h2 (by decide) rfl (fun ls_h3 h3 => ?_)
  refine lv_iload_n A.1 A.2.1 jd_nwc_13 rfl (lv_at h3 0 rfl) ?_
  refine lv_iload_n A.1 A.2.1 jd_nwc_14 rfl (lv_at h3 1 rfl) ?_
  refine lv_isub A.1 A.2.1 jd_nwc_15 ?_
  rw [pk_sub (by omega)]
  refine lv_istore A.1 A.2.1 jd_nwc_16 h3 (by decide) rfl (fun ls_h4 h4 => ?_)
  refine lv_iload_n A.1 A.2.1 jd_nwc_18 rfl (lv_at h4 2 rfl) ?_
  refine lv_iload A.1 A.2.1 jd_nwc_19 (lv_at h4 0 rfl) ?_
  refine lv_iload_n A.1 A.2.1 jd_nwc_21 rfl (lv_at h4 2 rfl) ?_
  refine lv_iconst A.1 A.2.1 (v := nI 2) jd_nwc_22 (by decide) ?_
  refine lv_aload_n A.1 A.2.1 jd_nwc_23 rfl (lv_at h4 3 rfl) ?_
  refine zb_get (E := E) (k := 1) (v := .int 0) A hK hP hz rfl (by omega) (q_in_mem (j := 807) (by decide +kernel)) rfl jd_nwc_24 ?_
  refine lv_ishl A.1 A.2.1 jd_nwc_27 ?_
  rw [sb_shl0]
  refine lv_iadd A.1 A.2.1 jd_nwc_28 ?_
  rw [nI_add]
  refine q_D.ins (rest := []) (as := [.int (nI cap), .int (nI (q - cap)), .int (nI (cap + 2))]) A h4.1 hR (j_nwl_ok (d := d) hcap (by omega)) (q_in_mem (j := 1650) (by decide +kernel)) (q_in_mem (j := 1651) (by decide +kernel)) (q_in_mem (j := 230) (by decide +kernel)) (q_in_mem (j := 1652) (by decide +kernel)) (show q_yok j_nwl 3 = true by decide +kernel) (Nat.le_of_ble_eq_true rfl) (Nat.zero_le _) jd_nwc_29 ⟨hc, hs⟩ (fun v M1 H1 locs1 hv hR1 => ?_)
  obtain ⟨rfl, rfl⟩ := hv
  obtain ⟨hP1, hD1, hS1⟩ := q_atEl hR1
  refine lv_istore A.1 A.2.1 jd_nwc_32 h4 (by decide) rfl (fun ls_h5 h5 => ?_)
  refine lv_iload A.1 A.2.1 jd_nwc_34 (lv_at h5 0 rfl) ?_
  refine lv_ldc A.1 A.2.1 (v := nI 2147483647) A.2.2.2.2.1 (q_word A (q_in_mem (j := 1658) (by decide +kernel))) jd_nwc_36 ?_
  refine lv_icmp_ne A.1 A.2.1 jd_nwc_38 (tgt := 51) (by decide) (fun _ => ?_) (fun z => by have := (nI_eq (by omega) (by decide)).mp z; omega)
  refine lv_iload A.1 A.2.1 jd_nwc_51 (lv_at h5 0 rfl) ?_
  refine lv_aload_n A.1 A.2.1 jd_nwc_53 rfl (lv_at h5 4 rfl) ?_
  refine zb_get (E := E) (k := 1) (v := .int 0) A hK hP1 hz rfl (by omega) (q_in_mem (j := 807) (by decide +kernel)) rfl jd_nwc_54 ?_
  refine lv_ishr A.1 A.2.1 jd_nwc_57 ?_
  rw [sb_shr0]
  exact q_D.zret A hR1 jd_nwc_58 rfl rfl ⟨rfl, rfl⟩ (Nat.le_refl _) (Nat.le_refl _)
-- a copy, longer
set_option maxHeartbeats 4000000 in
theorem j_cpo_ok {sv : List Value} {N : Nat} (hN1 : cap < N) (hN2 : N ≤ 512) (hf : ∀ i, fits .byte (.int (f i)) = true) : q_K j_cpo Z E sv [(a, .inl (E.2.2.1 5, cap, .inl f))] (d + 1) 1 N [.ref a, .int (nI N)] M (fun v H => ∃ q, v = some (.ref q) ∧ va_P E.2.1 vwCl (q_wl Z E M sv ++ [(a, .inl (E.2.2.1 5, cap, .inl f)), (q, .inl (E.2.2.1 5, N, .inl (va_cpy f (fun _ => 0) 0 0 cap)))]) H ∧ va_D (q_A E) (q_wl Z E M sv ++ [(a, .inl (E.2.2.1 5, cap, .inl f)), (q, .inl (E.2.2.1 5, N, .inl (va_cpy f (fun _ => 0) 0 0 cap)))])) := by
  refine q_Kof (by decide) rfl (Nat.le_of_ble_eq_true rfl) ?_
  intro l p e R s m args below meth c ls A hl hK hP hD hX hz' hEv hN hc hs
  have hR : q_R Z (q_at E sv [(a, .inl (E.2.2.1 5, cap, .inl f))]) M s s.heap [] := q_atR hK hP hD va_S.rf hX hz' hEv hN
  refine lv_iload_n A.1 A.2.1 jd_cpo_0 rfl (lv_at hl 1 rfl) ?_
  refine lv_aload_n A.1 A.2.1 jd_cpo_1 rfl (lv_at hl 0 rfl) ?_
  refine va_alen A.1 A.2.1 hK hP Z.2.2.length 4 zb_ar (ty := .byte) rfl (v := nI cap) rfl jd_cpo_2 ?_
  refine lv_icmp_ne A.1 A.2.1 jd_cpo_3 (tgt := 14) (by decide) (fun _ => ?_) (fun z => by have := (nI_eq (by omega) (by omega)).mp z; omega)
  refine lv_iload_n A.1 A.2.1 jd_cpo_14 rfl (lv_at hl 1 rfl) ?_
  refine va_newa (atype := .byte) A.1 A.2.1 (q_word A q_ka_byte) (ty := .byte) rfl hK hP hD va_S.rf (fun q hq => Nat.le_trans hz' hq) (n := nI N) (N' := N) (a0 := (N, .inl (fun _ => 0))) (fun cA => rfl) (nI_pos (by omega)) (nI_clamp (by omega)) (by show N * 1 ≤ _; omega) (by omega) (by omega) jd_cpo_15 (fun q cA H1 hK1 hP1 hD1 hS1 => ?_)
  have e1 : s.vm.findClass ("[" ++ FieldType.byte.toString) = some cA := (hK1.2 5 (cA, .byte) rfl).2
  have e2 : s.vm.findClass ("[" ++ FieldType.byte.toString) = some (E.2.2.1 5) := (hK.2 4 (E.2.2.1 5, .byte) rfl).2
  have e3 : cA = E.2.2.1 5 := Option.some.inj (e1.symm.trans e2)
  subst e3
  rw [List.append_assoc, List.singleton_append] at hP1 hD1
  refine lv_astore_n A.1 A.2.1 jd_cpo_17 rfl hl (by decide) rfl (fun ls_h2 h2 => ?_)
  refine lv_aload_n A.1 A.2.1 jd_cpo_18 rfl (lv_at h2 1 rfl) ?_
  refine lv_iconst A.1 A.2.1 (v := 0) jd_cpo_19 (by decide) ?_
  refine lv_aload_n A.1 A.2.1 jd_cpo_20 rfl (lv_at h2 0 rfl) ?_
  refine lv_iconst A.1 A.2.1 (v := 0) jd_cpo_21 (by decide) ?_
  refine lv_aload_n A.1 A.2.1 jd_cpo_22 rfl (lv_at h2 1 rfl) ?_
  refine va_alen A.1 A.2.1 hK hP1 Z.2.2.length 4 zb_ar (ty := .byte) rfl (v := nI cap) rfl jd_cpo_23 ?_
  refine lv_iload_n A.1 A.2.1 jd_cpo_24 rfl (lv_at h2 2 rfl) ?_
  have em : (if nI N < nI cap then nI N else nI cap) = nI cap := if_neg (nI_nlt (by omega) (by omega))
  refine va_mmin (x := nI cap) (y := nI N) (rest := [.int 0, .ref q, .int 0, .ref a]) A.1 A.2.1 (by rw [A.2.2.2.1]; exact h2.1.symm) A.2.2.2.2.1 (q_word A (q_in_mem (j := 1669) (by decide +kernel))) (q_word A (q_in_mem (j := 1282) (by decide +kernel))) (q_word A (q_in_mem (j := 227) (by decide +kernel))) (q_word A (q_in_mem (j := 1283) (by decide +kernel))) (by have := A.2.2.2.2.2.2.2.1; omega) (by have := A.2.2.2.2.2.2.2.2; show 4 + 13 ≤ _; omega) (by omega) (by omega) jd_cpo_25 ?_
  rw [em]
  refine va_copyi (rest := []) (n := nI cap) (sp := 0) (dp := 0) A.1 A.2.1 (by rw [A.2.2.2.1]; exact h2.1.symm) A.2.2.2.2.1 (q_word A (q_in_mem (j := 1670) (by decide +kernel))) (q_word A (q_in_mem (j := 1077) (by decide +kernel))) (q_word A (q_in_mem (j := 1076) (by decide +kernel))) (q_word A (q_in_mem (j := 226) (by decide +kernel))) hK hP1 hD1 hS1 Z.2.2.length (Z.2.2.length + 1) 4 4 zb_ar zb_ar1 (ty := .byte) rfl rfl rfl (by decide) (by decide) (nI_pos (by omega)) (by rw [nI_clamp (by omega), sb_cl0]; omega) (by rw [nI_clamp (by omega), sb_cl0]; omega) (fun i _ => hf _) (by have := A.2.2.2.2.2.2.2.1; omega) (by have := A.2.2.2.2.2.2.2.2; have := q_nw; show 0 + _ ≤ _; omega) jd_cpo_28 (fun H3 locs3 hP3 hD3 hS3 => ?_)
  rw [nI_clamp (by omega), sb_cl0, zb_st1] at hP3 hD3
  refine lv_aload_n A.1 A.2.1 jd_cpo_31 rfl (lv_at h2 0 rfl) ?_
  exact q_Kar A hS3 jd_cpo_32 rfl (Or.inr ⟨_, rfl⟩) ⟨q, rfl, hP3, hD3⟩ (by omega) (by omega)
set_option maxHeartbeats 4000000 in
theorem j_ens_ok {q n c1 s1 : Nat} (hz : zb_Z Z) (hcap : cap = 16 ∨ cap = 34 ∨ cap = 70 ∨ cap = 142) (hn : n ≤ cap) (hq : q ≤ n + 10) (hq2 : q ≤ 142) (hf : ∀ i, fits .byte (.int (f i)) = true) (hroom : ∀ x, (x = 16 ∨ x = 34 ∨ x = 70) → n ≤ x → x < q → 1 ≤ c1 ∧ 2 * x + 2 ≤ s1) :
    q_K j_ens Z E [.ref a, .int 0, .int ml, .int (nI n)] [(a, .inl (E.2.2.1 5, cap, .inl f))] (d + 3) c1 s1 [.ref (E.1 270), .int (nI q)] M (fun v H => v = none ∧ ∃ (a' cap' : Nat) (f' : Nat → Int32), q ≤ cap' ∧ n ≤ cap' ∧ (cap' = 16 ∨ cap' = 34 ∨ cap' = 70 ∨ cap' = 142) ∧ (∀ i, i < n → f' i = f i) ∧ (∀ i, fits .byte (.int (f' i)) = true) ∧ va_P E.2.1 vwCl (q_wl Z E M [.ref a', .int 0, .int ml, .int (nI n)] ++ [(a', .inl (E.2.2.1 5, cap', .inl f'))]) H ∧ va_D (q_A E) (q_wl Z E M [.ref a', .int 0, .int ml, .int (nI n)] ++ [(a', .inl (E.2.2.1 5, cap', .inl f'))])) := by
  refine q_Kof (by decide) rfl (Nat.le_of_ble_eq_true rfl) ?_
  intro l p e R s m args below meth c ls A hl hK hP hD hX hz' hEv hN hc hs
  have hR : q_R Z (q_at E [.ref a, .int 0, .int ml, .int (nI n)] [(a, .inl (E.2.2.1 5, cap, .inl f))]) M s s.heap [] := q_atR hK hP hD va_S.rf hX hz' hEv hN
  refine lv_aload_n A.1 A.2.1 jd_ens_0 rfl (lv_at hl 0 rfl) ?_
  refine zb_get (E := E) (k := 0) (v := .ref a) A hK hP hz rfl (by omega) (q_in_mem (j := 806) (by decide +kernel)) rfl jd_ens_1 ?_
  refine va_alen A.1 A.2.1 hK hP Z.2.2.length 4 zb_ar (ty := .byte) rfl (v := nI cap) rfl jd_ens_4 ?_
  refine lv_aload_n A.1 A.2.1 jd_ens_5 rfl (lv_at hl 0 rfl) ?_
  refine zb_get (E := E) (k := 1) (v := .int 0) A hK hP hz rfl (by omega) (q_in_mem (j := 807) (by decide +kernel)) rfl jd_ens_6 ?_
  refine lv_ishr A.1 A.2.1 jd_ens_9 ?_
  rw [sb_shr0]
  refine lv_istore_n A.1 A.2.1 jd_ens_10 rfl hl (by decide) rfl (fun ls_h2 h2 => ?_)
  refine lv_iload_n A.1 A.2.1 jd_ens_11 rfl (lv_at h2 2 rfl) ?_
  refine lv_iload_n A.1 A.2.1 jd_ens_12 rfl (lv_at h2 0 rfl) ?_
  refine lv_isub A.1 A.2.1 jd_ens_13 ?_
  have es : (nI q - nI cap).toInt = (q : Int) - cap := pk_sub_toInt (by omega) (by omega)
  refine lv_if_le A.1 A.2.1 jd_ens_14 (tgt := 38) (by decide) (fun z => ?_) (fun z => ?_)
  · rw [Int32.le_iff_toInt_le, es] at z
    have z : (q : Int) - cap ≤ 0 := z
    exact q_Kvr A va_S.rf jd_ens_38 rfl ⟨rfl, a, cap, f, by omega, hn, hcap, fun _ _ => rfl, hf, hP, hD⟩ (Nat.zero_le _) (Nat.zero_le _)
  · have hlt : cap < q := by
      rcases Nat.lt_or_ge cap q with w | w
      · exact w
      · exact absurd (by rw [Int32.le_iff_toInt_le, es]; show (q : Int) - cap ≤ 0; omega) z
    obtain ⟨r1, r2⟩ := hroom cap (by omega) hn hlt
    refine lv_aload_n A.1 A.2.1 jd_ens_17 rfl (lv_at h2 1 rfl) ?_
    refine lv_aload_n A.1 A.2.1 jd_ens_18 rfl (lv_at h2 1 rfl) ?_
    refine zb_get (E := E) (k := 0) (v := .ref a) A hK hP hz rfl (by omega) (q_in_mem (j := 806) (by decide +kernel)) rfl jd_ens_19 ?_
    refine lv_aload_n A.1 A.2.1 jd_ens_22 rfl (lv_at h2 1 rfl) ?_
    refine lv_iload_n A.1 A.2.1 jd_ens_23 rfl (lv_at h2 2 rfl) ?_
    refine q_D.inh (E := q_at E [.ref a, .int 0, .int ml, .int (nI n)] [(a, .inl (E.2.2.1 5, cap, .inl f))]) (as := [.int (nI q)]) (rest := [.ref a, .ref (E.1 270)]) A h2.1 hR hz rfl (j_nwc_ok (d := d) hz (by omega) hlt (by omega)) rfl (hR.2.2.2.1.2.2.2.2.2.1 _ (List.mem_cons_of_mem _ (List.mem_cons_self))) (q_in_mem (j := 1646) (by decide +kernel)) (q_in_mem (j := 1648) (by decide +kernel)) (q_in_mem (j := 2972) (by decide +kernel)) (q_in_mem (j := 1649) (by decide +kernel)) (show q_yok j_nwc 1 = true by decide +kernel) (Nat.le_of_ble_eq_true rfl) (Nat.le_of_ble_eq_true rfl) jd_ens_24 ⟨by omega, by omega⟩ (fun v M1 H1 locs1 hv hR1 => ?_)
    obtain ⟨rfl, rfl⟩ := hv
    obtain ⟨hP1, hD1, hS1⟩ := q_atEl hR1
    refine lv_aload_n A.1 A.2.1 jd_ens_27 rfl (lv_at h2 1 rfl) ?_
    refine zb_get (E := E) (k := 1) (v := .int 0) A hK hP1 hz rfl (by omega) (q_in_mem (j := 807) (by decide +kernel)) rfl jd_ens_28 ?_
    refine lv_ishl A.1 A.2.1 jd_ens_31 ?_
    rw [sb_shl0]
    refine q_Kis (E := E) (as := [.ref a, .int (nI (2 * cap + 2))]) (rest := [.ref (E.1 270)]) A h2.1 hR1 (j_cpo_ok (d := d + 1) (by omega) (by omega) hf) (q_in_mem (j := 1659) (by decide +kernel)) (q_in_mem (j := 1660) (by decide +kernel)) (q_in_mem (j := 225) (by decide +kernel)) (q_in_mem (j := 1661) (by decide +kernel)) (show q_yok j_cpo 2 = true by decide +kernel) (Nat.le_of_ble_eq_true rfl) (Nat.le_of_ble_eq_true rfl) jd_ens_32 ⟨by omega, by omega⟩ (fun v H2 locs2 hv hS2 => ?_)
    obtain ⟨b, rfl, hP2, hD2⟩ := hv
    refine zb_put (E := E) (k := 0) (v := .ref b) (ty := .array .byte) A hK hP2 hD2 hS2 hz rfl (by omega) (q_in_mem (j := 806) (by decide +kernel)) (by decide +kernel) rfl rfl (Nat.le_of_ble_eq_true rfl) jd_ens_35 (fun H3 locs3 hP3 hD3 hS3 => ?_)
    refine q_Kvr A hS3 jd_ens_38 rfl ⟨rfl, b, 2 * cap + 2, va_cpy f (fun _ => 0) 0 0 cap, by omega, by omega, by omega, fun i hi => ?_, fun i => ?_, zb_drP hP3, zb_drD hD3⟩ (by omega) (by omega)
    · rw [pk_cpy_in (Nat.zero_le _) (by omega)]
      exact congrArg f (by omega)
    · by_cases w : i < cap
      · rw [pk_cpy_in (Nat.zero_le _) (by omega)]
        exact hf _
      · rw [pk_cpy_out (by omega)]
        show fits .byte (.int 0) = true
        decide
end S9
