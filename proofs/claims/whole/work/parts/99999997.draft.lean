/-! the draft of a MEET, on both sides (written by wip/whole/gen11.py) -/
/-- the class's draft -/
def dC (M : q_M) (t : q_T) : Prop := r_C 24 M t ∧ (∀ s, s < 36 → M.1 33 s = Int32.ofInt ((t 11 s : Int) - 1)) ∧ (∀ s, s < 36 → M.1 34 s = nI (t 12 s)) ∧ (∀ i, i < t 5 0 → M.2 27 i = Int64.ofInt (n5 t i : Nat)) ∧ (∀ e, e < t 8 0 → M.2 30 e = Int64.ofInt (n5 t (10 + e) : Nat)) ∧ M.1 35 3 = nI (lawE t (t 17 0)) ∧ ∀ l, l < t 17 0 → M.1 37 l = nI (lawE t (l + 1)) ∧ ∀ i, i < t 18 l → M.1 36 (lawE t l + i) = nI (cS (t (19 + l) i))
/-- the reference's draft -/
def dR (M : q_M) (t : q_T) : Prop := r_R 279 M t ∧ (∀ e, e < t 8 0 → M.1 279 (62 + 6 * e) = Int32.ofInt ((t 11 (6 * e) : Int) - 1) ∧ (¬ t 11 (6 * e) = 0 → ∀ r, r < t 0 0 → M.1 279 (62 + 6 * e + r) = Int32.ofInt ((t 11 (6 * e + r) : Int) - 1))) ∧ (∀ i, i < t 5 0 → M.2 281 i = Int64.ofInt (n8 t i : Nat)) ∧ (∀ e, e < t 8 0 → M.2 281 (10 + e) = Int64.ofInt (n8 t (10 + e) : Nat)) ∧ ∀ l, l < t 17 0 → M.1 279 (143 + l) = nI (t 18 l) ∧ ∀ i, i < t 18 l → M.1 279 (149 + 256 * l + i) = nI (t (19 + l) i)
theorem n5_eq {t t' : q_T} {j : Nat} (h1 : t' 30 j = t 30 j) (h2 : t' (31 + j) = t (31 + j)) : n5 t' j = n5 t j := by
  show w5E (t' (31 + j)) 0 (t' 30 j) = w5E (t (31 + j)) 0 (t 30 j)
  rw [h1, h2]
theorem n8_eq {t t' : q_T} {j : Nat} (h1 : t' 30 j = t 30 j) (h2 : t' (31 + j) = t (31 + j)) : n8 t' j = n8 t j := by
  show w8E (t' (31 + j)) 0 (t' 30 j) = w8E (t (31 + j)) 0 (t 30 j)
  rw [h1, h2]
theorem lawE_eq {t t' : q_T} {l : Nat} (h : t' 18 = t 18) : lawE t' l = lawE t l := by
  unfold lawE
  rw [h]
abbrev lDr : List Nat := [24, 25, 26, 27, 28, 29, 30, 31, 32, 33, 34, 35, 36, 37, 39, 40, 41]
section DR
variable {L : Nat} {xs : Nat → Int32} {E : q_E} {d : Nat} {M : q_M} {t : q_T} {n : sN} {Q : Option Value → q_M → Prop} {P : q_M → Prop}
variable {t' : q_T}
theorem dC.fs {l : List Nat} {f : List (Nat × Nat)} {M' : q_M} (h : dC M t) (hf : q_fs l f M M') (o : (l.all (fun a => !(c_rng 24 41 a)) && f.all (fun q => !(c_rng 24 41 q.1))) = true := by exact rfl) : dC M' t := by
  have e1 : ∀ r, c_rng 24 41 r = true → M'.1 r = M.1 r := fun r hr => hf.c1 r (q_out o hr)
  have e2 : ∀ r, c_rng 24 41 r = true → M'.2 r = M.2 r := fun r hr => hf.c2 r (q_out o hr)
  unfold dC r_C at h ⊢
  rw [e1 24 rfl, e1 33 rfl, e1 34 rfl, e1 35 rfl, e1 36 rfl, e1 37 rfl, e2 27 rfl, e2 30 rfl, e1 (24 + 1) rfl, e1 (24 + 2) rfl, e1 (24 + 4) rfl, e1 (24 + 5) rfl, e1 (24 + 7) rfl, e1 (24 + 8) rfl, e1 (24 + 15) rfl, e1 (24 + 16) rfl, e1 (24 + 17) rfl]
  exact h
theorem dR.eq {M' : q_M} (h : dR M t) (e1 : M'.1 279 = M.1 279) (e2 : M'.2 281 = M.2 281) : dR M' t := by
  unfold dR r_R at h ⊢
  rw [e1, e2]
  exact h
set_option maxRecDepth 100000 in
set_option maxHeartbeats 4000000 in
theorem dC.rounds {M' : q_M} (h0 : M'.1 24 0 = nI (t' 0 0)) (h1 : M'.1 24 1 = nI (t' 1 0)) (h : dC M t) (hr : ∀ k, ¬ (k = 0 ∨ k = 1) → t' k = t k) (hf : q_fs [] [(24, 0), (24, 1), (3, 3), (3, 4), (3, 5), (3, 6), (3, 7), (3, 8), (3, 9), (3, 10)] M M') : dC M' t' := by
  obtain ⟨⟨a0, a1, a2, a5, a9, a16, a17, aJ, aD, aE, aF, aC⟩, aL, aG, aN, aM, aW, aS⟩ := h
  refine ⟨⟨?_, ?_, ?_, ?_, ?_, ?_, ?_, ?_, ?_, ?_, ?_, ?_⟩, ?_, ?_, ?_, ?_, ?_, ?_⟩
  · exact h0
  · exact h1
  · exact by rw [hr 2 (by omega)]; exact (hf.p1 24 2).trans a2
  · exact by rw [hr 5 (by omega)]; exact (hf.p1 24 5).trans a5
  · exact by rw [hr 8 (by omega)]; exact (hf.p1 24 9).trans a9
  · exact by rw [hr 13 (by omega)]; exact (hf.p1 24 16).trans a16
  · exact by rw [hr 17 (by omega)]; exact (hf.p1 35 5).trans a17
  · exact fun j hj => by rw [hr 2 (by omega)] at hj; rw [hr 3 (by omega), hr 4 (by omega)]; exact ⟨(hf.p1 25 j).trans (aJ j hj).1, (hf.p1 26 j).trans (aJ j hj).2⟩
  · exact fun j hj => by rw [hr 5 (by omega)] at hj; rw [hr 6 (by omega), hr 7 (by omega)]; exact ⟨(hf.p1 28 j).trans (aD j hj).1, (hf.p1 29 j).trans (aD j hj).2⟩
  · exact fun j hj => by rw [hr 8 (by omega)] at hj; rw [hr 9 (by omega), hr 10 (by omega)]; exact ⟨(hf.p1 31 j).trans (aE j hj).1, (hf.p1 32 j).trans (aE j hj).2⟩
  · exact fun e he g hg => by rw [hr 8 (by omega)] at he; rw [hr 12 (by omega)]; exact (hf.p1 34 _).trans (aF e he g hg)
  · exact fun c hc => by rw [hr 13 (by omega)] at hc; rw [hr 14 (by omega), hr 15 (by omega), hr 16 (by omega)]; exact ⟨(hf.p1 39 c).trans (aC c hc).1, (hf.p1 40 c).trans (aC c hc).2.1, (hf.p1 41 c).trans (aC c hc).2.2⟩
  · exact fun s hs => by rw [hr 11 (by omega)]; exact (hf.p1 33 s).trans (aL s hs)
  · exact fun s hs => by rw [hr 12 (by omega)]; exact (hf.p1 34 s).trans (aG s hs)
  · exact fun i hi => by rw [hr 5 (by omega)] at hi; rw [n5_eq (by rw [hr 30 (by omega)]) (hr _ (by omega))]; exact (hf.p2 27 i).trans (aN i hi)
  · exact fun e he => by rw [hr 8 (by omega)] at he; rw [n5_eq (by rw [hr 30 (by omega)]) (hr _ (by omega))]; exact (hf.p2 30 e).trans (aM e he)
  · exact by rw [hr 17 (by omega), lawE_eq (hr 18 (by omega))]; exact (hf.p1 35 3).trans aW
  · exact fun l hl => by rw [hr 17 (by omega)] at hl; rw [lawE_eq (hr 18 (by omega)), lawE_eq (hr 18 (by omega))]; refine ⟨(hf.p1 37 l).trans (aS l hl).1, fun i hi => ?_⟩; rw [hr 18 (by omega)] at hi; rw [hr (19 + l) (by omega)]; exact (hf.p1 36 _).trans ((aS l hl).2 i hi)
set_option maxRecDepth 100000 in
set_option maxHeartbeats 4000000 in
theorem dC.judge {M' : q_M} (hn : t' 2 0 = t 2 0 + 1) (hc : M'.1 24 2 = nI (t' 2 0)) (hnew : M'.1 25 (t 2 0) = nI (t' 3 (t 2 0)) ∧ M'.1 26 (t 2 0) = nI (t' 4 (t 2 0))) (hold : ∀ i, i < t 2 0 → (M'.1 25 i = M.1 25 i ∧ M'.1 26 i = M.1 26 i) ∧ t' 3 i = t 3 i ∧ t' 4 i = t 4 i) (h : dC M t) (hr : ∀ k, ¬ (k = 2 ∨ k = 3 ∨ k = 4) → t' k = t k) (hf : q_fs [25, 26] [(24, 2), (3, 3), (3, 4), (3, 5), (3, 6), (3, 7), (3, 8), (3, 9), (3, 10)] M M') : dC M' t' := by
  obtain ⟨⟨a0, a1, a2, a5, a9, a16, a17, aJ, aD, aE, aF, aC⟩, aL, aG, aN, aM, aW, aS⟩ := h
  refine ⟨⟨?_, ?_, ?_, ?_, ?_, ?_, ?_, ?_, ?_, ?_, ?_, ?_⟩, ?_, ?_, ?_, ?_, ?_, ?_⟩
  · exact by rw [hr 0 (by omega)]; exact (hf.p1 24 0).trans a0
  · exact by rw [hr 1 (by omega)]; exact (hf.p1 24 1).trans a1
  · exact hc
  · exact by rw [hr 5 (by omega)]; exact (hf.p1 24 5).trans a5
  · exact by rw [hr 8 (by omega)]; exact (hf.p1 24 9).trans a9
  · exact by rw [hr 13 (by omega)]; exact (hf.p1 24 16).trans a16
  · exact by rw [hr 17 (by omega)]; exact (hf.p1 35 5).trans a17
  · exact fun i hi => by
        rw [hn] at hi
        by_cases q : i = t 2 0
        · subst q
          exact hnew
        · obtain ⟨o1, o2⟩ := hold i (by omega)
          exact ⟨o1.1.trans ((aJ i (by omega)).1.trans (congrArg nI o2.1.symm)), o1.2.trans ((aJ i (by omega)).2.trans (congrArg nI o2.2.symm))⟩
  · exact fun j hj => by rw [hr 5 (by omega)] at hj; rw [hr 6 (by omega), hr 7 (by omega)]; exact ⟨(hf.p1 28 j).trans (aD j hj).1, (hf.p1 29 j).trans (aD j hj).2⟩
  · exact fun j hj => by rw [hr 8 (by omega)] at hj; rw [hr 9 (by omega), hr 10 (by omega)]; exact ⟨(hf.p1 31 j).trans (aE j hj).1, (hf.p1 32 j).trans (aE j hj).2⟩
  · exact fun e he g hg => by rw [hr 8 (by omega)] at he; rw [hr 12 (by omega)]; exact (hf.p1 34 _).trans (aF e he g hg)
  · exact fun c hc => by rw [hr 13 (by omega)] at hc; rw [hr 14 (by omega), hr 15 (by omega), hr 16 (by omega)]; exact ⟨(hf.p1 39 c).trans (aC c hc).1, (hf.p1 40 c).trans (aC c hc).2.1, (hf.p1 41 c).trans (aC c hc).2.2⟩
  · exact fun s hs => by rw [hr 11 (by omega)]; exact (hf.p1 33 s).trans (aL s hs)
  · exact fun s hs => by rw [hr 12 (by omega)]; exact (hf.p1 34 s).trans (aG s hs)
  · exact fun i hi => by rw [hr 5 (by omega)] at hi; rw [n5_eq (by rw [hr 30 (by omega)]) (hr _ (by omega))]; exact (hf.p2 27 i).trans (aN i hi)
  · exact fun e he => by rw [hr 8 (by omega)] at he; rw [n5_eq (by rw [hr 30 (by omega)]) (hr _ (by omega))]; exact (hf.p2 30 e).trans (aM e he)
  · exact by rw [hr 17 (by omega), lawE_eq (hr 18 (by omega))]; exact (hf.p1 35 3).trans aW
  · exact fun l hl => by rw [hr 17 (by omega)] at hl; rw [lawE_eq (hr 18 (by omega)), lawE_eq (hr 18 (by omega))]; refine ⟨(hf.p1 37 l).trans (aS l hl).1, fun i hi => ?_⟩; rw [hr 18 (by omega)] at hi; rw [hr (19 + l) (by omega)]; exact (hf.p1 36 _).trans ((aS l hl).2 i hi)
set_option maxRecDepth 100000 in
set_option maxHeartbeats 4000000 in
theorem dC.dive {M' : q_M} (hn : t' 5 0 = t 5 0 + 1) (hc : M'.1 24 5 = nI (t' 5 0)) (hnew : M'.1 28 (t 5 0) = nI (t' 6 (t 5 0)) ∧ M'.1 29 (t 5 0) = nI (t' 7 (t 5 0))) (hold : ∀ i, i < t 5 0 → (M'.1 28 i = M.1 28 i ∧ M'.1 29 i = M.1 29 i) ∧ t' 6 i = t 6 i ∧ t' 7 i = t 7 i) (h30 : ∀ j, ¬ j = t 5 0 → t' 30 j = t 30 j) (hd : t 5 0 < 10) (l6 : t 17 0 ≤ 6) (hN : M'.2 27 (t 5 0) = Int64.ofInt (n5 t' (t 5 0) : Nat)) (hNo : ∀ i, i < t 5 0 → M'.2 27 i = M.2 27 i) (h : dC M t) (hr : ∀ k, ¬ (k = 5 ∨ k = 6 ∨ k = 7 ∨ k = 30 ∨ k = 31 + t 5 0) → t' k = t k) (hf : q_fs [27, 28, 29] [(24, 5), (3, 3), (3, 4), (3, 5), (3, 6), (3, 7), (3, 8), (3, 9), (3, 10)] M M') : dC M' t' := by
  obtain ⟨⟨a0, a1, a2, a5, a9, a16, a17, aJ, aD, aE, aF, aC⟩, aL, aG, aN, aM, aW, aS⟩ := h
  refine ⟨⟨?_, ?_, ?_, ?_, ?_, ?_, ?_, ?_, ?_, ?_, ?_, ?_⟩, ?_, ?_, ?_, ?_, ?_, ?_⟩
  · exact by rw [hr 0 (by omega)]; exact (hf.p1 24 0).trans a0
  · exact by rw [hr 1 (by omega)]; exact (hf.p1 24 1).trans a1
  · exact by rw [hr 2 (by omega)]; exact (hf.p1 24 2).trans a2
  · exact hc
  · exact by rw [hr 8 (by omega)]; exact (hf.p1 24 9).trans a9
  · exact by rw [hr 13 (by omega)]; exact (hf.p1 24 16).trans a16
  · exact by rw [hr 17 (by omega)]; exact (hf.p1 35 5).trans a17
  · exact fun j hj => by rw [hr 2 (by omega)] at hj; rw [hr 3 (by omega), hr 4 (by omega)]; exact ⟨(hf.p1 25 j).trans (aJ j hj).1, (hf.p1 26 j).trans (aJ j hj).2⟩
  · exact fun i hi => by
        rw [hn] at hi
        by_cases q : i = t 5 0
        · subst q
          exact hnew
        · obtain ⟨o1, o2⟩ := hold i (by omega)
          exact ⟨o1.1.trans ((aD i (by omega)).1.trans (congrArg nI o2.1.symm)), o1.2.trans ((aD i (by omega)).2.trans (congrArg nI o2.2.symm))⟩
  · exact fun j hj => by rw [hr 8 (by omega)] at hj; rw [hr 9 (by omega), hr 10 (by omega)]; exact ⟨(hf.p1 31 j).trans (aE j hj).1, (hf.p1 32 j).trans (aE j hj).2⟩
  · exact fun e he g hg => by rw [hr 8 (by omega)] at he; rw [hr 12 (by omega)]; exact (hf.p1 34 _).trans (aF e he g hg)
  · exact fun c hc => by rw [hr 13 (by omega)] at hc; rw [hr 14 (by omega), hr 15 (by omega), hr 16 (by omega)]; exact ⟨(hf.p1 39 c).trans (aC c hc).1, (hf.p1 40 c).trans (aC c hc).2.1, (hf.p1 41 c).trans (aC c hc).2.2⟩
  · exact fun s hs => by rw [hr 11 (by omega)]; exact (hf.p1 33 s).trans (aL s hs)
  · exact fun s hs => by rw [hr 12 (by omega)]; exact (hf.p1 34 s).trans (aG s hs)
  · exact fun i hi => by
        rw [hn] at hi
        by_cases q : i = t 5 0
        · subst q
          exact hN
        · rw [n5_eq (h30 i q) (hr _ (by omega))]
          exact (hNo i (by omega)).trans (aN i (by omega))
  · exact fun e he => by
        rw [hr 8 (by omega)] at he
        rw [n5_eq (h30 _ (by omega)) (hr _ (by omega))]
        exact (hf.p2 30 e).trans (aM e he)
  · exact by rw [hr 17 (by omega), lawE_eq (hr 18 (by omega))]; exact (hf.p1 35 3).trans aW
  · exact fun l hl => by rw [hr 17 (by omega)] at hl; rw [lawE_eq (hr 18 (by omega)), lawE_eq (hr 18 (by omega))]; refine ⟨(hf.p1 37 l).trans (aS l hl).1, fun i hi => ?_⟩; rw [hr 18 (by omega)] at hi; rw [hr (19 + l) (by have := l6; omega)]; exact (hf.p1 36 _).trans ((aS l hl).2 i hi)
set_option maxRecDepth 100000 in
set_option maxHeartbeats 4000000 in
theorem dC.entr {M' : q_M} (hn : t' 8 0 = t 8 0 + 1) (hc : M'.1 24 9 = nI (t' 8 0)) (hnew : M'.1 31 (t 8 0) = nI (t' 9 (t 8 0)) ∧ M'.1 32 (t 8 0) = nI (t' 10 (t 8 0))) (hold : ∀ i, i < t 8 0 → (M'.1 31 i = M.1 31 i ∧ M'.1 32 i = M.1 32 i) ∧ t' 9 i = t 9 i ∧ t' 10 i = t 10 i) (h30 : ∀ j, ¬ j = 10 + t 8 0 → t' 30 j = t 30 j) (d10 : t 5 0 ≤ 10) (l6 : t 17 0 ≤ 6) (e6 : t 8 0 < 6) (hN : M'.2 30 (t 8 0) = Int64.ofInt (n5 t' (10 + t 8 0) : Nat)) (hNo : ∀ i, i < t 8 0 → M'.2 30 i = M.2 30 i) (h : dC M t) (hr : ∀ k, ¬ (k = 8 ∨ k = 9 ∨ k = 10 ∨ k = 30 ∨ k = 41 + t 8 0) → t' k = t k) (hf : q_fs [30, 31, 32] [(24, 9), (3, 3), (3, 4), (3, 5), (3, 6), (3, 7), (3, 8), (3, 9), (3, 10)] M M') : dC M' t' := by
  obtain ⟨⟨a0, a1, a2, a5, a9, a16, a17, aJ, aD, aE, aF, aC⟩, aL, aG, aN, aM, aW, aS⟩ := h
  refine ⟨⟨?_, ?_, ?_, ?_, ?_, ?_, ?_, ?_, ?_, ?_, ?_, ?_⟩, ?_, ?_, ?_, ?_, ?_, ?_⟩
  · exact by rw [hr 0 (by omega)]; exact (hf.p1 24 0).trans a0
  · exact by rw [hr 1 (by omega)]; exact (hf.p1 24 1).trans a1
  · exact by rw [hr 2 (by omega)]; exact (hf.p1 24 2).trans a2
  · exact by rw [hr 5 (by omega)]; exact (hf.p1 24 5).trans a5
  · exact hc
  · exact by rw [hr 13 (by omega)]; exact (hf.p1 24 16).trans a16
  · exact by rw [hr 17 (by omega)]; exact (hf.p1 35 5).trans a17
  · exact fun j hj => by rw [hr 2 (by omega)] at hj; rw [hr 3 (by omega), hr 4 (by omega)]; exact ⟨(hf.p1 25 j).trans (aJ j hj).1, (hf.p1 26 j).trans (aJ j hj).2⟩
  · exact fun j hj => by rw [hr 5 (by omega)] at hj; rw [hr 6 (by omega), hr 7 (by omega)]; exact ⟨(hf.p1 28 j).trans (aD j hj).1, (hf.p1 29 j).trans (aD j hj).2⟩
  · exact fun i hi => by
        rw [hn] at hi
        by_cases q : i = t 8 0
        · subst q
          exact hnew
        · obtain ⟨o1, o2⟩ := hold i (by omega)
          exact ⟨o1.1.trans ((aE i (by omega)).1.trans (congrArg nI o2.1.symm)), o1.2.trans ((aE i (by omega)).2.trans (congrArg nI o2.2.symm))⟩
  · exact fun e he g hg => by rw [hr 12 (by omega)]; exact (hf.p1 34 _).trans (aG _ (by rw [hn] at he; omega))
  · exact fun c hc => by rw [hr 13 (by omega)] at hc; rw [hr 14 (by omega), hr 15 (by omega), hr 16 (by omega)]; exact ⟨(hf.p1 39 c).trans (aC c hc).1, (hf.p1 40 c).trans (aC c hc).2.1, (hf.p1 41 c).trans (aC c hc).2.2⟩
  · exact fun s hs => by rw [hr 11 (by omega)]; exact (hf.p1 33 s).trans (aL s hs)
  · exact fun s hs => by rw [hr 12 (by omega)]; exact (hf.p1 34 s).trans (aG s hs)
  · exact fun i hi => by
        rw [hr 5 (by omega)] at hi
        rw [n5_eq (h30 _ (by omega)) (hr _ (by omega))]
        exact (hf.p2 27 i).trans (aN i hi)
  · exact fun e he => by
        rw [hn] at he
        by_cases q : e = t 8 0
        · subst q
          exact hN
        · rw [n5_eq (h30 _ (by omega)) (hr _ (by omega))]
          exact (hNo e (by omega)).trans (aM e (by omega))
  · exact by rw [hr 17 (by omega), lawE_eq (hr 18 (by omega))]; exact (hf.p1 35 3).trans aW
  · exact fun l hl => by rw [hr 17 (by omega)] at hl; rw [lawE_eq (hr 18 (by omega)), lawE_eq (hr 18 (by omega))]; refine ⟨(hf.p1 37 l).trans (aS l hl).1, fun i hi => ?_⟩; rw [hr 18 (by omega)] at hi; rw [hr (19 + l) (by omega)]; exact (hf.p1 36 _).trans ((aS l hl).2 i hi)
set_option maxRecDepth 100000 in
set_option maxHeartbeats 4000000 in
theorem dC.list {M' : q_M} (hL : ∀ s, s < 36 → M'.1 33 s = Int32.ofInt ((t' 11 s : Int) - 1)) (h : dC M t) (hr : ∀ k, ¬ (k = 11) → t' k = t k) (hf : q_fs [33] [(3, 3), (3, 4), (3, 5), (3, 6), (3, 7), (3, 8), (3, 9), (3, 10)] M M') : dC M' t' := by
  obtain ⟨⟨a0, a1, a2, a5, a9, a16, a17, aJ, aD, aE, aF, aC⟩, aL, aG, aN, aM, aW, aS⟩ := h
  refine ⟨⟨?_, ?_, ?_, ?_, ?_, ?_, ?_, ?_, ?_, ?_, ?_, ?_⟩, ?_, ?_, ?_, ?_, ?_, ?_⟩
  · exact by rw [hr 0 (by omega)]; exact (hf.p1 24 0).trans a0
  · exact by rw [hr 1 (by omega)]; exact (hf.p1 24 1).trans a1
  · exact by rw [hr 2 (by omega)]; exact (hf.p1 24 2).trans a2
  · exact by rw [hr 5 (by omega)]; exact (hf.p1 24 5).trans a5
  · exact by rw [hr 8 (by omega)]; exact (hf.p1 24 9).trans a9
  · exact by rw [hr 13 (by omega)]; exact (hf.p1 24 16).trans a16
  · exact by rw [hr 17 (by omega)]; exact (hf.p1 35 5).trans a17
  · exact fun j hj => by rw [hr 2 (by omega)] at hj; rw [hr 3 (by omega), hr 4 (by omega)]; exact ⟨(hf.p1 25 j).trans (aJ j hj).1, (hf.p1 26 j).trans (aJ j hj).2⟩
  · exact fun j hj => by rw [hr 5 (by omega)] at hj; rw [hr 6 (by omega), hr 7 (by omega)]; exact ⟨(hf.p1 28 j).trans (aD j hj).1, (hf.p1 29 j).trans (aD j hj).2⟩
  · exact fun j hj => by rw [hr 8 (by omega)] at hj; rw [hr 9 (by omega), hr 10 (by omega)]; exact ⟨(hf.p1 31 j).trans (aE j hj).1, (hf.p1 32 j).trans (aE j hj).2⟩
  · exact fun e he g hg => by rw [hr 8 (by omega)] at he; rw [hr 12 (by omega)]; exact (hf.p1 34 _).trans (aF e he g hg)
  · exact fun c hc => by rw [hr 13 (by omega)] at hc; rw [hr 14 (by omega), hr 15 (by omega), hr 16 (by omega)]; exact ⟨(hf.p1 39 c).trans (aC c hc).1, (hf.p1 40 c).trans (aC c hc).2.1, (hf.p1 41 c).trans (aC c hc).2.2⟩
  · exact hL
  · exact fun s hs => by rw [hr 12 (by omega)]; exact (hf.p1 34 s).trans (aG s hs)
  · exact fun i hi => by rw [hr 5 (by omega)] at hi; rw [n5_eq (by rw [hr 30 (by omega)]) (hr _ (by omega))]; exact (hf.p2 27 i).trans (aN i hi)
  · exact fun e he => by rw [hr 8 (by omega)] at he; rw [n5_eq (by rw [hr 30 (by omega)]) (hr _ (by omega))]; exact (hf.p2 30 e).trans (aM e he)
  · exact by rw [hr 17 (by omega), lawE_eq (hr 18 (by omega))]; exact (hf.p1 35 3).trans aW
  · exact fun l hl => by rw [hr 17 (by omega)] at hl; rw [lawE_eq (hr 18 (by omega)), lawE_eq (hr 18 (by omega))]; refine ⟨(hf.p1 37 l).trans (aS l hl).1, fun i hi => ?_⟩; rw [hr 18 (by omega)] at hi; rw [hr (19 + l) (by omega)]; exact (hf.p1 36 _).trans ((aS l hl).2 i hi)
set_option maxRecDepth 100000 in
set_option maxHeartbeats 4000000 in
theorem dC.form {M' : q_M} (e6 : t 8 0 ≤ 6) (hL : ∀ s, s < 36 → M'.1 34 s = nI (t' 12 s)) (h : dC M t) (hr : ∀ k, ¬ (k = 12) → t' k = t k) (hf : q_fs [34] [(3, 3), (3, 4), (3, 5), (3, 6), (3, 7), (3, 8), (3, 9), (3, 10)] M M') : dC M' t' := by
  obtain ⟨⟨a0, a1, a2, a5, a9, a16, a17, aJ, aD, aE, aF, aC⟩, aL, aG, aN, aM, aW, aS⟩ := h
  refine ⟨⟨?_, ?_, ?_, ?_, ?_, ?_, ?_, ?_, ?_, ?_, ?_, ?_⟩, ?_, ?_, ?_, ?_, ?_, ?_⟩
  · exact by rw [hr 0 (by omega)]; exact (hf.p1 24 0).trans a0
  · exact by rw [hr 1 (by omega)]; exact (hf.p1 24 1).trans a1
  · exact by rw [hr 2 (by omega)]; exact (hf.p1 24 2).trans a2
  · exact by rw [hr 5 (by omega)]; exact (hf.p1 24 5).trans a5
  · exact by rw [hr 8 (by omega)]; exact (hf.p1 24 9).trans a9
  · exact by rw [hr 13 (by omega)]; exact (hf.p1 24 16).trans a16
  · exact by rw [hr 17 (by omega)]; exact (hf.p1 35 5).trans a17
  · exact fun j hj => by rw [hr 2 (by omega)] at hj; rw [hr 3 (by omega), hr 4 (by omega)]; exact ⟨(hf.p1 25 j).trans (aJ j hj).1, (hf.p1 26 j).trans (aJ j hj).2⟩
  · exact fun j hj => by rw [hr 5 (by omega)] at hj; rw [hr 6 (by omega), hr 7 (by omega)]; exact ⟨(hf.p1 28 j).trans (aD j hj).1, (hf.p1 29 j).trans (aD j hj).2⟩
  · exact fun j hj => by rw [hr 8 (by omega)] at hj; rw [hr 9 (by omega), hr 10 (by omega)]; exact ⟨(hf.p1 31 j).trans (aE j hj).1, (hf.p1 32 j).trans (aE j hj).2⟩
  · exact fun e he g hg => by rw [hr 8 (by omega)] at he; exact hL _ (by omega)
  · exact fun c hc => by rw [hr 13 (by omega)] at hc; rw [hr 14 (by omega), hr 15 (by omega), hr 16 (by omega)]; exact ⟨(hf.p1 39 c).trans (aC c hc).1, (hf.p1 40 c).trans (aC c hc).2.1, (hf.p1 41 c).trans (aC c hc).2.2⟩
  · exact fun s hs => by rw [hr 11 (by omega)]; exact (hf.p1 33 s).trans (aL s hs)
  · exact hL
  · exact fun i hi => by rw [hr 5 (by omega)] at hi; rw [n5_eq (by rw [hr 30 (by omega)]) (hr _ (by omega))]; exact (hf.p2 27 i).trans (aN i hi)
  · exact fun e he => by rw [hr 8 (by omega)] at he; rw [n5_eq (by rw [hr 30 (by omega)]) (hr _ (by omega))]; exact (hf.p2 30 e).trans (aM e he)
  · exact by rw [hr 17 (by omega), lawE_eq (hr 18 (by omega))]; exact (hf.p1 35 3).trans aW
  · exact fun l hl => by rw [hr 17 (by omega)] at hl; rw [lawE_eq (hr 18 (by omega)), lawE_eq (hr 18 (by omega))]; refine ⟨(hf.p1 37 l).trans (aS l hl).1, fun i hi => ?_⟩; rw [hr 18 (by omega)] at hi; rw [hr (19 + l) (by omega)]; exact (hf.p1 36 _).trans ((aS l hl).2 i hi)
set_option maxRecDepth 100000 in
set_option maxHeartbeats 4000000 in
theorem dC.cut {M' : q_M} (hn : t' 13 0 = t 13 0 + 1) (hc : M'.1 24 16 = nI (t' 13 0)) (hnew : M'.1 39 (t 13 0) = nI (t' 14 (t 13 0)) ∧ M'.1 40 (t 13 0) = nI (t' 15 (t 13 0)) ∧ M'.1 41 (t 13 0) = nI (t' 16 (t 13 0))) (hold : ∀ i, i < t 13 0 → (M'.1 39 i = M.1 39 i ∧ M'.1 40 i = M.1 40 i ∧ M'.1 41 i = M.1 41 i) ∧ t' 14 i = t 14 i ∧ t' 15 i = t 15 i ∧ t' 16 i = t 16 i) (h : dC M t) (hr : ∀ k, ¬ (k = 13 ∨ k = 14 ∨ k = 15 ∨ k = 16) → t' k = t k) (hf : q_fs [39, 40, 41] [(24, 16), (3, 3), (3, 4), (3, 5), (3, 6), (3, 7), (3, 8), (3, 9), (3, 10)] M M') : dC M' t' := by
  obtain ⟨⟨a0, a1, a2, a5, a9, a16, a17, aJ, aD, aE, aF, aC⟩, aL, aG, aN, aM, aW, aS⟩ := h
  refine ⟨⟨?_, ?_, ?_, ?_, ?_, ?_, ?_, ?_, ?_, ?_, ?_, ?_⟩, ?_, ?_, ?_, ?_, ?_, ?_⟩
  · exact by rw [hr 0 (by omega)]; exact (hf.p1 24 0).trans a0
  · exact by rw [hr 1 (by omega)]; exact (hf.p1 24 1).trans a1
  · exact by rw [hr 2 (by omega)]; exact (hf.p1 24 2).trans a2
  · exact by rw [hr 5 (by omega)]; exact (hf.p1 24 5).trans a5
  · exact by rw [hr 8 (by omega)]; exact (hf.p1 24 9).trans a9
  · exact hc
  · exact by rw [hr 17 (by omega)]; exact (hf.p1 35 5).trans a17
  · exact fun j hj => by rw [hr 2 (by omega)] at hj; rw [hr 3 (by omega), hr 4 (by omega)]; exact ⟨(hf.p1 25 j).trans (aJ j hj).1, (hf.p1 26 j).trans (aJ j hj).2⟩
  · exact fun j hj => by rw [hr 5 (by omega)] at hj; rw [hr 6 (by omega), hr 7 (by omega)]; exact ⟨(hf.p1 28 j).trans (aD j hj).1, (hf.p1 29 j).trans (aD j hj).2⟩
  · exact fun j hj => by rw [hr 8 (by omega)] at hj; rw [hr 9 (by omega), hr 10 (by omega)]; exact ⟨(hf.p1 31 j).trans (aE j hj).1, (hf.p1 32 j).trans (aE j hj).2⟩
  · exact fun e he g hg => by rw [hr 8 (by omega)] at he; rw [hr 12 (by omega)]; exact (hf.p1 34 _).trans (aF e he g hg)
  · exact fun i hi => by
        rw [hn] at hi
        by_cases q : i = t 13 0
        · subst q
          exact hnew
        · obtain ⟨o1, o2⟩ := hold i (by omega)
          exact ⟨o1.1.trans ((aC i (by omega)).1.trans (congrArg nI o2.1.symm)), o1.2.1.trans ((aC i (by omega)).2.1.trans (congrArg nI o2.2.1.symm)), o1.2.2.trans ((aC i (by omega)).2.2.trans (congrArg nI o2.2.2.symm))⟩
  · exact fun s hs => by rw [hr 11 (by omega)]; exact (hf.p1 33 s).trans (aL s hs)
  · exact fun s hs => by rw [hr 12 (by omega)]; exact (hf.p1 34 s).trans (aG s hs)
  · exact fun i hi => by rw [hr 5 (by omega)] at hi; rw [n5_eq (by rw [hr 30 (by omega)]) (hr _ (by omega))]; exact (hf.p2 27 i).trans (aN i hi)
  · exact fun e he => by rw [hr 8 (by omega)] at he; rw [n5_eq (by rw [hr 30 (by omega)]) (hr _ (by omega))]; exact (hf.p2 30 e).trans (aM e he)
  · exact by rw [hr 17 (by omega), lawE_eq (hr 18 (by omega))]; exact (hf.p1 35 3).trans aW
  · exact fun l hl => by rw [hr 17 (by omega)] at hl; rw [lawE_eq (hr 18 (by omega)), lawE_eq (hr 18 (by omega))]; refine ⟨(hf.p1 37 l).trans (aS l hl).1, fun i hi => ?_⟩; rw [hr 18 (by omega)] at hi; rw [hr (19 + l) (by omega)]; exact (hf.p1 36 _).trans ((aS l hl).2 i hi)
set_option maxRecDepth 100000 in
set_option maxHeartbeats 4000000 in
theorem dC.law {M' : q_M} (hn : t' 17 0 = t 17 0 + 1) (h18 : ∀ l, ¬ l = t 17 0 → t' 18 l = t 18 l) (hc : M'.1 35 5 = nI (t' 17 0)) (l6 : t 17 0 < 6) (hw : M'.1 35 3 = nI (lawE t' (t' 17 0))) (hlo : (∀ q, q < lawE t (t 17 0) → M'.1 36 q = M.1 36 q) ∧ ∀ q, q < t 17 0 → M'.1 37 q = M.1 37 q) (hnew : M'.1 37 (t 17 0) = nI (lawE t' (t 17 0 + 1)) ∧ ∀ i, i < t' 18 (t 17 0) → M'.1 36 (lawE t' (t 17 0) + i) = nI (cS (t' (19 + t 17 0) i))) (h : dC M t) (hr : ∀ k, ¬ (k = 17 ∨ k = 18 ∨ k = 19 + t 17 0) → t' k = t k) (hf : q_fs [36, 37] [(35, 3), (35, 4), (35, 5), (3, 3), (3, 4), (3, 5), (3, 6), (3, 7), (3, 8), (3, 9), (3, 10)] M M') : dC M' t' := by
  obtain ⟨⟨a0, a1, a2, a5, a9, a16, a17, aJ, aD, aE, aF, aC⟩, aL, aG, aN, aM, aW, aS⟩ := h
  refine ⟨⟨?_, ?_, ?_, ?_, ?_, ?_, ?_, ?_, ?_, ?_, ?_, ?_⟩, ?_, ?_, ?_, ?_, ?_, ?_⟩
  · exact by rw [hr 0 (by omega)]; exact (hf.p1 24 0).trans a0
  · exact by rw [hr 1 (by omega)]; exact (hf.p1 24 1).trans a1
  · exact by rw [hr 2 (by omega)]; exact (hf.p1 24 2).trans a2
  · exact by rw [hr 5 (by omega)]; exact (hf.p1 24 5).trans a5
  · exact by rw [hr 8 (by omega)]; exact (hf.p1 24 9).trans a9
  · exact by rw [hr 13 (by omega)]; exact (hf.p1 24 16).trans a16
  · exact hc
  · exact fun j hj => by rw [hr 2 (by omega)] at hj; rw [hr 3 (by omega), hr 4 (by omega)]; exact ⟨(hf.p1 25 j).trans (aJ j hj).1, (hf.p1 26 j).trans (aJ j hj).2⟩
  · exact fun j hj => by rw [hr 5 (by omega)] at hj; rw [hr 6 (by omega), hr 7 (by omega)]; exact ⟨(hf.p1 28 j).trans (aD j hj).1, (hf.p1 29 j).trans (aD j hj).2⟩
  · exact fun j hj => by rw [hr 8 (by omega)] at hj; rw [hr 9 (by omega), hr 10 (by omega)]; exact ⟨(hf.p1 31 j).trans (aE j hj).1, (hf.p1 32 j).trans (aE j hj).2⟩
  · exact fun e he g hg => by rw [hr 8 (by omega)] at he; rw [hr 12 (by omega)]; exact (hf.p1 34 _).trans (aF e he g hg)
  · exact fun c hc => by rw [hr 13 (by omega)] at hc; rw [hr 14 (by omega), hr 15 (by omega), hr 16 (by omega)]; exact ⟨(hf.p1 39 c).trans (aC c hc).1, (hf.p1 40 c).trans (aC c hc).2.1, (hf.p1 41 c).trans (aC c hc).2.2⟩
  · exact fun s hs => by rw [hr 11 (by omega)]; exact (hf.p1 33 s).trans (aL s hs)
  · exact fun s hs => by rw [hr 12 (by omega)]; exact (hf.p1 34 s).trans (aG s hs)
  · exact fun i hi => by rw [hr 5 (by omega)] at hi; rw [n5_eq (by rw [hr 30 (by omega)]) (hr _ (by omega))]; exact (hf.p2 27 i).trans (aN i hi)
  · exact fun e he => by rw [hr 8 (by omega)] at he; rw [n5_eq (by rw [hr 30 (by omega)]) (hr _ (by omega))]; exact (hf.p2 30 e).trans (aM e he)
  · exact hw
  · exact fun l hl => by
        rw [hn] at hl
        by_cases q : l = t 17 0
        · subst q
          exact hnew
        · have le : ∀ m, m ≤ t 17 0 → lawE t' m = lawE t m := fun m hm => by
            unfold lawE
            exact fb_sm_cong (fun i hi => h18 i (by omega))
          rw [le (l + 1) (by omega), le l (by omega), h18 l q]
          refine ⟨(hlo.2 l (by omega)).trans (aS l (by omega)).1, fun i hi => ?_⟩
          rw [hr (19 + l) (by omega)]
          have a1 := lawE_le (t := t) (show l + 1 ≤ t 17 0 by omega)
          rw [lawE_s] at a1
          exact (hlo.1 _ (by omega)).trans ((aS l (by omega)).2 i hi)
set_option maxRecDepth 100000 in
set_option maxHeartbeats 4000000 in
theorem dR.rounds {M' : q_M} (bt : b_T t) (c255 : ∀ l, l < t 17 0 → t 18 l ≤ 255) (h0 : M'.1 279 0 = nI (t' 0 0)) (h1 : M'.1 279 1 = nI (t' 1 0)) (hz : t 8 0 = 0) (h : dR M t) (hr : ∀ k, ¬ (k = 0 ∨ k = 1) → t' k = t k) (hk : ∀ q, ¬ (q = 0 ∨ q = 1) → M'.1 279 q = M.1 279 q) (hm : ∀ q, ¬ (False) → M'.2 281 q = M.2 281 q) : dR M' t' := by
  obtain ⟨⟨a0, a1, a2, a5, a9, a16, a17, aJ, aD, aE, aF, aC⟩, aL, aN, aM, aS⟩ := h
  obtain ⟨b0, b1, b2, b5, b8, b13, b17, -⟩ := bt
  refine ⟨⟨?_, ?_, ?_, ?_, ?_, ?_, ?_, ?_, ?_, ?_, ?_, ?_⟩, ?_, ?_, ?_, ?_⟩
  · exact h0
  · exact h1
  · exact by rw [hr 2 (by omega)]; exact (hk 2 (by omega)).trans a2
  · exact by rw [hr 5 (by omega)]; exact (hk 3 (by omega)).trans a5
  · exact by rw [hr 8 (by omega)]; exact (hk 4 (by omega)).trans a9
  · exact by rw [hr 13 (by omega)]; exact (hk 6 (by omega)).trans a16
  · exact by rw [hr 17 (by omega)]; exact (hk 5 (by omega)).trans a17
  · exact fun j hj => by rw [hr 2 (by omega)] at hj; rw [hr 3 (by omega), hr 4 (by omega)]; exact ⟨(hk _ (by omega)).trans (aJ j hj).1, (hk _ (by omega)).trans (aJ j hj).2⟩
  · exact fun j hj => by rw [hr 5 (by omega)] at hj; rw [hr 6 (by omega), hr 7 (by omega)]; exact ⟨(hk _ (by omega)).trans (aD j hj).1, (hk _ (by omega)).trans (aD j hj).2⟩
  · exact fun j hj => by rw [hr 8 (by omega)] at hj; rw [hr 9 (by omega), hr 10 (by omega)]; exact ⟨(hk _ (by omega)).trans (aE j hj).1, (hk _ (by omega)).trans (aE j hj).2⟩
  · exact fun e he g hg => by rw [hr 8 (by omega)] at he; rw [hr 12 (by omega)]; exact (hk _ (by omega)).trans (aF e he g hg)
  · exact fun c hc => by rw [hr 13 (by omega)] at hc; rw [hr 14 (by omega), hr 15 (by omega), hr 16 (by omega)]; exact ⟨(hk _ (by omega)).trans (aC c hc).1, (hk _ (by omega)).trans (aC c hc).2.1, (hk _ (by omega)).trans (aC c hc).2.2⟩
  · exact fun e he => by rw [hr 8 (by omega)] at he; omega
  · exact fun i hi => by rw [hr 5 (by omega)] at hi; rw [n8_eq (by rw [hr 30 (by omega)]) (hr _ (by omega))]; exact (hm _ (by first | exact not_false | omega)).trans (aN i hi)
  · exact fun e he => by rw [hr 8 (by omega)] at he; rw [n8_eq (by rw [hr 30 (by omega)]) (hr _ (by omega))]; exact (hm _ (by first | exact not_false | omega)).trans (aM e he)
  · exact fun l hl => by rw [hr 17 (by omega)] at hl; rw [hr 18 (by omega), hr (19 + l) (by omega)]; exact ⟨(hk _ (by omega)).trans (aS l hl).1, fun i hi => (hk _ (by have := c255 l hl; omega)).trans ((aS l hl).2 i hi)⟩
set_option maxRecDepth 100000 in
set_option maxHeartbeats 4000000 in
theorem dR.judge {M' : q_M} (bt : b_T t) (c255 : ∀ l, l < t 17 0 → t 18 l ≤ 255) (hn : t' 2 0 = t 2 0 + 1) (hc : M'.1 279 2 = nI (t' 2 0)) (hnew : M'.1 279 (8 + 2 * t 2 0) = nI (t' 3 (t 2 0)) ∧ M'.1 279 (9 + 2 * t 2 0) = nI (t' 4 (t 2 0))) (hold : ∀ i, i < t 2 0 → t' 3 i = t 3 i ∧ t' 4 i = t 4 i) (j11 : t 2 0 < 11) (h : dR M t) (hr : ∀ k, ¬ (k = 2 ∨ k = 3 ∨ k = 4) → t' k = t k) (hk : ∀ q, ¬ (q = 2 ∨ q = 8 + 2 * t 2 0 ∨ q = 9 + 2 * t 2 0) → M'.1 279 q = M.1 279 q) (hm : ∀ q, ¬ (False) → M'.2 281 q = M.2 281 q) : dR M' t' := by
  obtain ⟨⟨a0, a1, a2, a5, a9, a16, a17, aJ, aD, aE, aF, aC⟩, aL, aN, aM, aS⟩ := h
  obtain ⟨b0, b1, b2, b5, b8, b13, b17, -⟩ := bt
  refine ⟨⟨?_, ?_, ?_, ?_, ?_, ?_, ?_, ?_, ?_, ?_, ?_, ?_⟩, ?_, ?_, ?_, ?_⟩
  · exact by rw [hr 0 (by omega)]; exact (hk 0 (by omega)).trans a0
  · exact by rw [hr 1 (by omega)]; exact (hk 1 (by omega)).trans a1
  · exact hc
  · exact by rw [hr 5 (by omega)]; exact (hk 3 (by omega)).trans a5
  · exact by rw [hr 8 (by omega)]; exact (hk 4 (by omega)).trans a9
  · exact by rw [hr 13 (by omega)]; exact (hk 6 (by omega)).trans a16
  · exact by rw [hr 17 (by omega)]; exact (hk 5 (by omega)).trans a17
  · exact fun i hi => by
        rw [hn] at hi
        by_cases q : i = t 2 0
        · subst q
          exact hnew
        · obtain ⟨o1, o2⟩ := hold i (by omega)
          rw [o1, o2]
          exact ⟨(hk _ (by omega)).trans (aJ i (by omega)).1, (hk _ (by omega)).trans (aJ i (by omega)).2⟩
  · exact fun j hj => by rw [hr 5 (by omega)] at hj; rw [hr 6 (by omega), hr 7 (by omega)]; exact ⟨(hk _ (by omega)).trans (aD j hj).1, (hk _ (by omega)).trans (aD j hj).2⟩
  · exact fun j hj => by rw [hr 8 (by omega)] at hj; rw [hr 9 (by omega), hr 10 (by omega)]; exact ⟨(hk _ (by omega)).trans (aE j hj).1, (hk _ (by omega)).trans (aE j hj).2⟩
  · exact fun e he g hg => by rw [hr 8 (by omega)] at he; rw [hr 12 (by omega)]; exact (hk _ (by omega)).trans (aF e he g hg)
  · exact fun c hc => by rw [hr 13 (by omega)] at hc; rw [hr 14 (by omega), hr 15 (by omega), hr 16 (by omega)]; exact ⟨(hk _ (by omega)).trans (aC c hc).1, (hk _ (by omega)).trans (aC c hc).2.1, (hk _ (by omega)).trans (aC c hc).2.2⟩
  · exact fun e he => by rw [hr 8 (by omega)] at he; rw [hr 11 (by omega), hr 0 (by omega)]; exact ⟨(hk _ (by omega)).trans (aL e he).1, fun z r hr' => (hk _ (by omega)).trans ((aL e he).2 z r hr')⟩
  · exact fun i hi => by rw [hr 5 (by omega)] at hi; rw [n8_eq (by rw [hr 30 (by omega)]) (hr _ (by omega))]; exact (hm _ (by first | exact not_false | omega)).trans (aN i hi)
  · exact fun e he => by rw [hr 8 (by omega)] at he; rw [n8_eq (by rw [hr 30 (by omega)]) (hr _ (by omega))]; exact (hm _ (by first | exact not_false | omega)).trans (aM e he)
  · exact fun l hl => by rw [hr 17 (by omega)] at hl; rw [hr 18 (by omega), hr (19 + l) (by omega)]; exact ⟨(hk _ (by omega)).trans (aS l hl).1, fun i hi => (hk _ (by have := c255 l hl; omega)).trans ((aS l hl).2 i hi)⟩
set_option maxRecDepth 100000 in
set_option maxHeartbeats 4000000 in
theorem dR.dive {M' : q_M} (bt : b_T t) (c255 : ∀ l, l < t 17 0 → t 18 l ≤ 255) (hn : t' 5 0 = t 5 0 + 1) (hc : M'.1 279 3 = nI (t' 5 0)) (hnew : M'.1 279 (30 + 2 * t 5 0) = nI (t' 6 (t 5 0)) ∧ M'.1 279 (31 + 2 * t 5 0) = nI (t' 7 (t 5 0))) (hold : ∀ i, i < t 5 0 → t' 6 i = t 6 i ∧ t' 7 i = t 7 i) (d10 : t 5 0 < 10) (h30 : ∀ j, ¬ j = t 5 0 → t' 30 j = t 30 j) (hN : M'.2 281 (t 5 0) = Int64.ofInt (n8 t' (t 5 0) : Nat)) (h : dR M t) (hr : ∀ k, ¬ (k = 5 ∨ k = 6 ∨ k = 7 ∨ k = 30 ∨ k = 31 + t 5 0) → t' k = t k) (hk : ∀ q, ¬ (q = 3 ∨ q = 30 + 2 * t 5 0 ∨ q = 31 + 2 * t 5 0) → M'.1 279 q = M.1 279 q) (hm : ∀ q, ¬ (q = t 5 0) → M'.2 281 q = M.2 281 q) : dR M' t' := by
  obtain ⟨⟨a0, a1, a2, a5, a9, a16, a17, aJ, aD, aE, aF, aC⟩, aL, aN, aM, aS⟩ := h
  obtain ⟨b0, b1, b2, b5, b8, b13, b17, -⟩ := bt
  refine ⟨⟨?_, ?_, ?_, ?_, ?_, ?_, ?_, ?_, ?_, ?_, ?_, ?_⟩, ?_, ?_, ?_, ?_⟩
  · exact by rw [hr 0 (by omega)]; exact (hk 0 (by omega)).trans a0
  · exact by rw [hr 1 (by omega)]; exact (hk 1 (by omega)).trans a1
  · exact by rw [hr 2 (by omega)]; exact (hk 2 (by omega)).trans a2
  · exact hc
  · exact by rw [hr 8 (by omega)]; exact (hk 4 (by omega)).trans a9
  · exact by rw [hr 13 (by omega)]; exact (hk 6 (by omega)).trans a16
  · exact by rw [hr 17 (by omega)]; exact (hk 5 (by omega)).trans a17
  · exact fun j hj => by rw [hr 2 (by omega)] at hj; rw [hr 3 (by omega), hr 4 (by omega)]; exact ⟨(hk _ (by omega)).trans (aJ j hj).1, (hk _ (by omega)).trans (aJ j hj).2⟩
  · exact fun i hi => by
        rw [hn] at hi
        by_cases q : i = t 5 0
        · subst q
          exact hnew
        · obtain ⟨o1, o2⟩ := hold i (by omega)
          rw [o1, o2]
          exact ⟨(hk _ (by omega)).trans (aD i (by omega)).1, (hk _ (by omega)).trans (aD i (by omega)).2⟩
  · exact fun j hj => by rw [hr 8 (by omega)] at hj; rw [hr 9 (by omega), hr 10 (by omega)]; exact ⟨(hk _ (by omega)).trans (aE j hj).1, (hk _ (by omega)).trans (aE j hj).2⟩
  · exact fun e he g hg => by rw [hr 8 (by omega)] at he; rw [hr 12 (by omega)]; exact (hk _ (by omega)).trans (aF e he g hg)
  · exact fun c hc => by rw [hr 13 (by omega)] at hc; rw [hr 14 (by omega), hr 15 (by omega), hr 16 (by omega)]; exact ⟨(hk _ (by omega)).trans (aC c hc).1, (hk _ (by omega)).trans (aC c hc).2.1, (hk _ (by omega)).trans (aC c hc).2.2⟩
  · exact fun e he => by rw [hr 8 (by omega)] at he; rw [hr 11 (by omega), hr 0 (by omega)]; exact ⟨(hk _ (by omega)).trans (aL e he).1, fun z r hr' => (hk _ (by omega)).trans ((aL e he).2 z r hr')⟩
  · exact fun i hi => by
        rw [hn] at hi
        by_cases q : i = t 5 0
        · subst q
          exact hN
        · rw [n8_eq (h30 i q) (hr _ (by omega))]
          exact (hm _ q).trans (aN i (by omega))
  · exact fun e he => by rw [hr 8 (by omega)] at he; rw [n8_eq (h30 _ (by omega)) (hr _ (by omega))]; exact (hm _ (by first | exact not_false | omega)).trans (aM e he)
  · exact fun l hl => by rw [hr 17 (by omega)] at hl; rw [hr 18 (by omega), hr (19 + l) (by omega)]; exact ⟨(hk _ (by omega)).trans (aS l hl).1, fun i hi => (hk _ (by have := c255 l hl; omega)).trans ((aS l hl).2 i hi)⟩
set_option maxRecDepth 100000 in
set_option maxHeartbeats 4000000 in
theorem dR.entr {M' : q_M} (bt : b_T t) (c255 : ∀ l, l < t 17 0 → t 18 l ≤ 255) (hn : t' 8 0 = t 8 0 + 1) (hc : M'.1 279 4 = nI (t' 8 0)) (hnew : M'.1 279 (50 + 2 * t 8 0) = nI (t' 9 (t 8 0)) ∧ M'.1 279 (51 + 2 * t 8 0) = nI (t' 10 (t 8 0))) (hold : ∀ i, i < t 8 0 → t' 9 i = t 9 i ∧ t' 10 i = t 10 i) (e6 : t 8 0 < 6) (h30 : ∀ j, ¬ j = 10 + t 8 0 → t' 30 j = t 30 j) (hN : M'.2 281 (10 + t 8 0) = Int64.ofInt (n8 t' (10 + t 8 0) : Nat)) (hl : M'.1 279 (62 + 6 * t 8 0) = Int32.ofInt (-1) ∧ t 11 (6 * t 8 0) = 0) (hfm : ∀ g, g < 6 → M'.1 279 (98 + (6 * t 8 0 + g)) = nI 10 ∧ t 12 (6 * t 8 0 + g) = 10) (h : dR M t) (hr : ∀ k, ¬ (k = 8 ∨ k = 9 ∨ k = 10 ∨ k = 30 ∨ k = 41 + t 8 0) → t' k = t k) (hk : ∀ q, ¬ (q = 4 ∨ q = 50 + 2 * t 8 0 ∨ q = 51 + 2 * t 8 0 ∨ q = 62 + 6 * t 8 0 ∨ (98 + 6 * t 8 0 ≤ q ∧ q < 104 + 6 * t 8 0)) → M'.1 279 q = M.1 279 q) (hm : ∀ q, ¬ (q = 10 + t 8 0) → M'.2 281 q = M.2 281 q) : dR M' t' := by
  obtain ⟨⟨a0, a1, a2, a5, a9, a16, a17, aJ, aD, aE, aF, aC⟩, aL, aN, aM, aS⟩ := h
  obtain ⟨b0, b1, b2, b5, b8, b13, b17, -⟩ := bt
  refine ⟨⟨?_, ?_, ?_, ?_, ?_, ?_, ?_, ?_, ?_, ?_, ?_, ?_⟩, ?_, ?_, ?_, ?_⟩
  · exact by rw [hr 0 (by omega)]; exact (hk 0 (by omega)).trans a0
  · exact by rw [hr 1 (by omega)]; exact (hk 1 (by omega)).trans a1
  · exact by rw [hr 2 (by omega)]; exact (hk 2 (by omega)).trans a2
  · exact by rw [hr 5 (by omega)]; exact (hk 3 (by omega)).trans a5
  · exact hc
  · exact by rw [hr 13 (by omega)]; exact (hk 6 (by omega)).trans a16
  · exact by rw [hr 17 (by omega)]; exact (hk 5 (by omega)).trans a17
  · exact fun j hj => by rw [hr 2 (by omega)] at hj; rw [hr 3 (by omega), hr 4 (by omega)]; exact ⟨(hk _ (by omega)).trans (aJ j hj).1, (hk _ (by omega)).trans (aJ j hj).2⟩
  · exact fun j hj => by rw [hr 5 (by omega)] at hj; rw [hr 6 (by omega), hr 7 (by omega)]; exact ⟨(hk _ (by omega)).trans (aD j hj).1, (hk _ (by omega)).trans (aD j hj).2⟩
  · exact fun i hi => by
        rw [hn] at hi
        by_cases q : i = t 8 0
        · subst q
          exact hnew
        · obtain ⟨o1, o2⟩ := hold i (by omega)
          rw [o1, o2]
          exact ⟨(hk _ (by omega)).trans (aE i (by omega)).1, (hk _ (by omega)).trans (aE i (by omega)).2⟩
  · exact fun e he g hg => by
        rw [hn] at he
        rw [hr 12 (by omega)]
        by_cases q : e = t 8 0
        · subst q
          rw [(hfm g hg).2]
          exact (hfm g hg).1
        · exact (hk _ (by omega)).trans (aF e (by omega) g hg)
  · exact fun c hc => by rw [hr 13 (by omega)] at hc; rw [hr 14 (by omega), hr 15 (by omega), hr 16 (by omega)]; exact ⟨(hk _ (by omega)).trans (aC c hc).1, (hk _ (by omega)).trans (aC c hc).2.1, (hk _ (by omega)).trans (aC c hc).2.2⟩
  · exact fun e he => by
        rw [hn] at he
        rw [hr 11 (by omega), hr 0 (by omega)]
        by_cases q : e = t 8 0
        · subst q
          rw [hl.2]
          exact ⟨hl.1, fun z => absurd rfl z⟩
        · exact ⟨(hk _ (by omega)).trans (aL e (by omega)).1, fun z r hr' => (hk _ (by omega)).trans ((aL e (by omega)).2 z r hr')⟩
  · exact fun i hi => by rw [hr 5 (by omega)] at hi; rw [n8_eq (h30 _ (by omega)) (hr _ (by omega))]; exact (hm _ (by first | exact not_false | omega)).trans (aN i hi)
  · exact fun e he => by
        rw [hn] at he
        by_cases q : e = t 8 0
        · subst q
          exact hN
        · rw [n8_eq (h30 _ (by omega)) (hr _ (by omega))]
          exact (hm _ (by first | exact not_false | omega)).trans (aM e (by omega))
  · exact fun l hl => by rw [hr 17 (by omega)] at hl; rw [hr 18 (by omega), hr (19 + l) (by omega)]; exact ⟨(hk _ (by omega)).trans (aS l hl).1, fun i hi => (hk _ (by have := c255 l hl; omega)).trans ((aS l hl).2 i hi)⟩
set_option maxRecDepth 100000 in
set_option maxHeartbeats 4000000 in
theorem dR.list {M' : q_M} (bt : b_T t) (c255 : ∀ l, l < t 17 0 → t 18 l ≤ 255) (hL : ∀ e, e < t 8 0 → M'.1 279 (62 + 6 * e) = Int32.ofInt ((t' 11 (6 * e) : Int) - 1) ∧ (¬ t' 11 (6 * e) = 0 → ∀ r, r < t 0 0 → M'.1 279 (62 + 6 * e + r) = Int32.ofInt ((t' 11 (6 * e + r) : Int) - 1))) (h : dR M t) (hr : ∀ k, ¬ (k = 11) → t' k = t k) (hk : ∀ q, ¬ (62 ≤ q ∧ q < 98) → M'.1 279 q = M.1 279 q) (hm : ∀ q, ¬ (False) → M'.2 281 q = M.2 281 q) : dR M' t' := by
  obtain ⟨⟨a0, a1, a2, a5, a9, a16, a17, aJ, aD, aE, aF, aC⟩, aL, aN, aM, aS⟩ := h
  obtain ⟨b0, b1, b2, b5, b8, b13, b17, -⟩ := bt
  refine ⟨⟨?_, ?_, ?_, ?_, ?_, ?_, ?_, ?_, ?_, ?_, ?_, ?_⟩, ?_, ?_, ?_, ?_⟩
  · exact by rw [hr 0 (by omega)]; exact (hk 0 (by omega)).trans a0
  · exact by rw [hr 1 (by omega)]; exact (hk 1 (by omega)).trans a1
  · exact by rw [hr 2 (by omega)]; exact (hk 2 (by omega)).trans a2
  · exact by rw [hr 5 (by omega)]; exact (hk 3 (by omega)).trans a5
  · exact by rw [hr 8 (by omega)]; exact (hk 4 (by omega)).trans a9
  · exact by rw [hr 13 (by omega)]; exact (hk 6 (by omega)).trans a16
  · exact by rw [hr 17 (by omega)]; exact (hk 5 (by omega)).trans a17
  · exact fun j hj => by rw [hr 2 (by omega)] at hj; rw [hr 3 (by omega), hr 4 (by omega)]; exact ⟨(hk _ (by omega)).trans (aJ j hj).1, (hk _ (by omega)).trans (aJ j hj).2⟩
  · exact fun j hj => by rw [hr 5 (by omega)] at hj; rw [hr 6 (by omega), hr 7 (by omega)]; exact ⟨(hk _ (by omega)).trans (aD j hj).1, (hk _ (by omega)).trans (aD j hj).2⟩
  · exact fun j hj => by rw [hr 8 (by omega)] at hj; rw [hr 9 (by omega), hr 10 (by omega)]; exact ⟨(hk _ (by omega)).trans (aE j hj).1, (hk _ (by omega)).trans (aE j hj).2⟩
  · exact fun e he g hg => by rw [hr 8 (by omega)] at he; rw [hr 12 (by omega)]; exact (hk _ (by omega)).trans (aF e he g hg)
  · exact fun c hc => by rw [hr 13 (by omega)] at hc; rw [hr 14 (by omega), hr 15 (by omega), hr 16 (by omega)]; exact ⟨(hk _ (by omega)).trans (aC c hc).1, (hk _ (by omega)).trans (aC c hc).2.1, (hk _ (by omega)).trans (aC c hc).2.2⟩
  · exact fun e he => by rw [hr 8 (by omega)] at he; rw [hr 0 (by omega)]; exact hL e he
  · exact fun i hi => by rw [hr 5 (by omega)] at hi; rw [n8_eq (by rw [hr 30 (by omega)]) (hr _ (by omega))]; exact (hm _ (by first | exact not_false | omega)).trans (aN i hi)
  · exact fun e he => by rw [hr 8 (by omega)] at he; rw [n8_eq (by rw [hr 30 (by omega)]) (hr _ (by omega))]; exact (hm _ (by first | exact not_false | omega)).trans (aM e he)
  · exact fun l hl => by rw [hr 17 (by omega)] at hl; rw [hr 18 (by omega), hr (19 + l) (by omega)]; exact ⟨(hk _ (by omega)).trans (aS l hl).1, fun i hi => (hk _ (by have := c255 l hl; omega)).trans ((aS l hl).2 i hi)⟩
set_option maxRecDepth 100000 in
set_option maxHeartbeats 4000000 in
theorem dR.form {M' : q_M} (bt : b_T t) (c255 : ∀ l, l < t 17 0 → t 18 l ≤ 255) (hL : ∀ e, e < t 8 0 → ∀ g, g < 6 → M'.1 279 (98 + (6 * e + g)) = nI (t' 12 (6 * e + g))) (h : dR M t) (hr : ∀ k, ¬ (k = 12) → t' k = t k) (hk : ∀ q, ¬ (98 ≤ q ∧ q < 134) → M'.1 279 q = M.1 279 q) (hm : ∀ q, ¬ (False) → M'.2 281 q = M.2 281 q) : dR M' t' := by
  obtain ⟨⟨a0, a1, a2, a5, a9, a16, a17, aJ, aD, aE, aF, aC⟩, aL, aN, aM, aS⟩ := h
  obtain ⟨b0, b1, b2, b5, b8, b13, b17, -⟩ := bt
  refine ⟨⟨?_, ?_, ?_, ?_, ?_, ?_, ?_, ?_, ?_, ?_, ?_, ?_⟩, ?_, ?_, ?_, ?_⟩
  · exact by rw [hr 0 (by omega)]; exact (hk 0 (by omega)).trans a0
  · exact by rw [hr 1 (by omega)]; exact (hk 1 (by omega)).trans a1
  · exact by rw [hr 2 (by omega)]; exact (hk 2 (by omega)).trans a2
  · exact by rw [hr 5 (by omega)]; exact (hk 3 (by omega)).trans a5
  · exact by rw [hr 8 (by omega)]; exact (hk 4 (by omega)).trans a9
  · exact by rw [hr 13 (by omega)]; exact (hk 6 (by omega)).trans a16
  · exact by rw [hr 17 (by omega)]; exact (hk 5 (by omega)).trans a17
  · exact fun j hj => by rw [hr 2 (by omega)] at hj; rw [hr 3 (by omega), hr 4 (by omega)]; exact ⟨(hk _ (by omega)).trans (aJ j hj).1, (hk _ (by omega)).trans (aJ j hj).2⟩
  · exact fun j hj => by rw [hr 5 (by omega)] at hj; rw [hr 6 (by omega), hr 7 (by omega)]; exact ⟨(hk _ (by omega)).trans (aD j hj).1, (hk _ (by omega)).trans (aD j hj).2⟩
  · exact fun j hj => by rw [hr 8 (by omega)] at hj; rw [hr 9 (by omega), hr 10 (by omega)]; exact ⟨(hk _ (by omega)).trans (aE j hj).1, (hk _ (by omega)).trans (aE j hj).2⟩
  · exact fun e he g hg => by rw [hr 8 (by omega)] at he; exact hL e he g hg
  · exact fun c hc => by rw [hr 13 (by omega)] at hc; rw [hr 14 (by omega), hr 15 (by omega), hr 16 (by omega)]; exact ⟨(hk _ (by omega)).trans (aC c hc).1, (hk _ (by omega)).trans (aC c hc).2.1, (hk _ (by omega)).trans (aC c hc).2.2⟩
  · exact fun e he => by rw [hr 8 (by omega)] at he; rw [hr 11 (by omega), hr 0 (by omega)]; exact ⟨(hk _ (by omega)).trans (aL e he).1, fun z r hr' => (hk _ (by omega)).trans ((aL e he).2 z r hr')⟩
  · exact fun i hi => by rw [hr 5 (by omega)] at hi; rw [n8_eq (by rw [hr 30 (by omega)]) (hr _ (by omega))]; exact (hm _ (by first | exact not_false | omega)).trans (aN i hi)
  · exact fun e he => by rw [hr 8 (by omega)] at he; rw [n8_eq (by rw [hr 30 (by omega)]) (hr _ (by omega))]; exact (hm _ (by first | exact not_false | omega)).trans (aM e he)
  · exact fun l hl => by rw [hr 17 (by omega)] at hl; rw [hr 18 (by omega), hr (19 + l) (by omega)]; exact ⟨(hk _ (by omega)).trans (aS l hl).1, fun i hi => (hk _ (by have := c255 l hl; omega)).trans ((aS l hl).2 i hi)⟩
set_option maxRecDepth 100000 in
set_option maxHeartbeats 4000000 in
theorem dR.cut {M' : q_M} (bt : b_T t) (c255 : ∀ l, l < t 17 0 → t 18 l ≤ 255) (hn : t' 13 0 = t 13 0 + 1) (hc : M'.1 279 6 = nI (t' 13 0)) (c3 : t 13 0 < 3) (hnew : M'.1 279 (134 + 3 * t 13 0) = nI (t' 14 (t 13 0)) ∧ M'.1 279 (135 + 3 * t 13 0) = nI (t' 15 (t 13 0)) ∧ M'.1 279 (136 + 3 * t 13 0) = nI (t' 16 (t 13 0))) (hold : ∀ i, i < t 13 0 → t' 14 i = t 14 i ∧ t' 15 i = t 15 i ∧ t' 16 i = t 16 i) (h : dR M t) (hr : ∀ k, ¬ (k = 13 ∨ k = 14 ∨ k = 15 ∨ k = 16) → t' k = t k) (hk : ∀ q, ¬ (q = 6 ∨ q = 134 + 3 * t 13 0 ∨ q = 135 + 3 * t 13 0 ∨ q = 136 + 3 * t 13 0) → M'.1 279 q = M.1 279 q) (hm : ∀ q, ¬ (False) → M'.2 281 q = M.2 281 q) : dR M' t' := by
  obtain ⟨⟨a0, a1, a2, a5, a9, a16, a17, aJ, aD, aE, aF, aC⟩, aL, aN, aM, aS⟩ := h
  obtain ⟨b0, b1, b2, b5, b8, b13, b17, -⟩ := bt
  refine ⟨⟨?_, ?_, ?_, ?_, ?_, ?_, ?_, ?_, ?_, ?_, ?_, ?_⟩, ?_, ?_, ?_, ?_⟩
  · exact by rw [hr 0 (by omega)]; exact (hk 0 (by omega)).trans a0
  · exact by rw [hr 1 (by omega)]; exact (hk 1 (by omega)).trans a1
  · exact by rw [hr 2 (by omega)]; exact (hk 2 (by omega)).trans a2
  · exact by rw [hr 5 (by omega)]; exact (hk 3 (by omega)).trans a5
  · exact by rw [hr 8 (by omega)]; exact (hk 4 (by omega)).trans a9
  · exact hc
  · exact by rw [hr 17 (by omega)]; exact (hk 5 (by omega)).trans a17
  · exact fun j hj => by rw [hr 2 (by omega)] at hj; rw [hr 3 (by omega), hr 4 (by omega)]; exact ⟨(hk _ (by omega)).trans (aJ j hj).1, (hk _ (by omega)).trans (aJ j hj).2⟩
  · exact fun j hj => by rw [hr 5 (by omega)] at hj; rw [hr 6 (by omega), hr 7 (by omega)]; exact ⟨(hk _ (by omega)).trans (aD j hj).1, (hk _ (by omega)).trans (aD j hj).2⟩
  · exact fun j hj => by rw [hr 8 (by omega)] at hj; rw [hr 9 (by omega), hr 10 (by omega)]; exact ⟨(hk _ (by omega)).trans (aE j hj).1, (hk _ (by omega)).trans (aE j hj).2⟩
  · exact fun e he g hg => by rw [hr 8 (by omega)] at he; rw [hr 12 (by omega)]; exact (hk _ (by omega)).trans (aF e he g hg)
  · exact fun i hi => by
        rw [hn] at hi
        by_cases q : i = t 13 0
        · subst q
          exact hnew
        · obtain ⟨o1, o2, o3⟩ := hold i (by omega)
          rw [o1, o2, o3]
          exact ⟨(hk _ (by omega)).trans (aC i (by omega)).1, (hk _ (by omega)).trans (aC i (by omega)).2.1, (hk _ (by omega)).trans (aC i (by omega)).2.2⟩
  · exact fun e he => by rw [hr 8 (by omega)] at he; rw [hr 11 (by omega), hr 0 (by omega)]; exact ⟨(hk _ (by omega)).trans (aL e he).1, fun z r hr' => (hk _ (by omega)).trans ((aL e he).2 z r hr')⟩
  · exact fun i hi => by rw [hr 5 (by omega)] at hi; rw [n8_eq (by rw [hr 30 (by omega)]) (hr _ (by omega))]; exact (hm _ (by first | exact not_false | omega)).trans (aN i hi)
  · exact fun e he => by rw [hr 8 (by omega)] at he; rw [n8_eq (by rw [hr 30 (by omega)]) (hr _ (by omega))]; exact (hm _ (by first | exact not_false | omega)).trans (aM e he)
  · exact fun l hl => by rw [hr 17 (by omega)] at hl; rw [hr 18 (by omega), hr (19 + l) (by omega)]; exact ⟨(hk _ (by omega)).trans (aS l hl).1, fun i hi => (hk _ (by have := c255 l hl; omega)).trans ((aS l hl).2 i hi)⟩
set_option maxRecDepth 100000 in
set_option maxHeartbeats 4000000 in
theorem dR.law {M' : q_M} (bt : b_T t) (c255 : ∀ l, l < t 17 0 → t 18 l ≤ 255) (hn : t' 17 0 = t 17 0 + 1) (l6 : t 17 0 < 6) (h18 : ∀ l, ¬ l = t 17 0 → t' 18 l = t 18 l) (hc : M'.1 279 5 = nI (t' 17 0)) (hnew : M'.1 279 (143 + t 17 0) = nI (t' 18 (t 17 0)) ∧ ∀ i, i < t' 18 (t 17 0) → M'.1 279 (149 + 256 * t 17 0 + i) = nI (t' (19 + t 17 0) i)) (h : dR M t) (hr : ∀ k, ¬ (k = 17 ∨ k = 18 ∨ k = 19 + t 17 0) → t' k = t k) (hk : ∀ q, ¬ (q = 5 ∨ q = 143 + t 17 0 ∨ (149 + 256 * t 17 0 ≤ q ∧ q < 405 + 256 * t 17 0)) → M'.1 279 q = M.1 279 q) (hm : ∀ q, ¬ (False) → M'.2 281 q = M.2 281 q) : dR M' t' := by
  obtain ⟨⟨a0, a1, a2, a5, a9, a16, a17, aJ, aD, aE, aF, aC⟩, aL, aN, aM, aS⟩ := h
  obtain ⟨b0, b1, b2, b5, b8, b13, b17, -⟩ := bt
  refine ⟨⟨?_, ?_, ?_, ?_, ?_, ?_, ?_, ?_, ?_, ?_, ?_, ?_⟩, ?_, ?_, ?_, ?_⟩
  · exact by rw [hr 0 (by omega)]; exact (hk 0 (by omega)).trans a0
  · exact by rw [hr 1 (by omega)]; exact (hk 1 (by omega)).trans a1
  · exact by rw [hr 2 (by omega)]; exact (hk 2 (by omega)).trans a2
  · exact by rw [hr 5 (by omega)]; exact (hk 3 (by omega)).trans a5
  · exact by rw [hr 8 (by omega)]; exact (hk 4 (by omega)).trans a9
  · exact by rw [hr 13 (by omega)]; exact (hk 6 (by omega)).trans a16
  · exact hc
  · exact fun j hj => by rw [hr 2 (by omega)] at hj; rw [hr 3 (by omega), hr 4 (by omega)]; exact ⟨(hk _ (by omega)).trans (aJ j hj).1, (hk _ (by omega)).trans (aJ j hj).2⟩
  · exact fun j hj => by rw [hr 5 (by omega)] at hj; rw [hr 6 (by omega), hr 7 (by omega)]; exact ⟨(hk _ (by omega)).trans (aD j hj).1, (hk _ (by omega)).trans (aD j hj).2⟩
  · exact fun j hj => by rw [hr 8 (by omega)] at hj; rw [hr 9 (by omega), hr 10 (by omega)]; exact ⟨(hk _ (by omega)).trans (aE j hj).1, (hk _ (by omega)).trans (aE j hj).2⟩
  · exact fun e he g hg => by rw [hr 8 (by omega)] at he; rw [hr 12 (by omega)]; exact (hk _ (by omega)).trans (aF e he g hg)
  · exact fun c hc => by rw [hr 13 (by omega)] at hc; rw [hr 14 (by omega), hr 15 (by omega), hr 16 (by omega)]; exact ⟨(hk _ (by omega)).trans (aC c hc).1, (hk _ (by omega)).trans (aC c hc).2.1, (hk _ (by omega)).trans (aC c hc).2.2⟩
  · exact fun e he => by rw [hr 8 (by omega)] at he; rw [hr 11 (by omega), hr 0 (by omega)]; exact ⟨(hk _ (by omega)).trans (aL e he).1, fun z r hr' => (hk _ (by omega)).trans ((aL e he).2 z r hr')⟩
  · exact fun i hi => by rw [hr 5 (by omega)] at hi; rw [n8_eq (by rw [hr 30 (by omega)]) (hr _ (by omega))]; exact (hm _ (by first | exact not_false | omega)).trans (aN i hi)
  · exact fun e he => by rw [hr 8 (by omega)] at he; rw [n8_eq (by rw [hr 30 (by omega)]) (hr _ (by omega))]; exact (hm _ (by first | exact not_false | omega)).trans (aM e he)
  · exact fun l hl => by
        rw [hn] at hl
        by_cases q : l = t 17 0
        · subst q
          exact hnew
        · rw [h18 l q, hr (19 + l) (by omega)]
          exact ⟨(hk _ (by omega)).trans (aS l (by omega)).1, fun i hi => (hk _ (by have := c255 l (by omega); omega)).trans ((aS l (by omega)).2 i hi)⟩
end DR
