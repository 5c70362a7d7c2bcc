/-! the invariant of both sides -/
def iX (M : q_M) (t : q_T) (n : sN) (p s : Nat) (H : Nat → sN) (kp : Nat → Option sN) : Prop := iH M t n p s H ∧ (i_tape M ∧ i_fault M) ∧ (g_W M t ∧ b_L t ∧ g_nm M t) ∧ (g_lx M ∧ g_ow M ∧ M.1 270 0 = 1) ∧ g_Mo M t ∧ g_Kp M t kp ∧ ∀ k m, k < 2 → kp k = some m → b_J t m
def iW (M : q_M) : Prop := ∃ t n p s H kp, iX M t n p s H kp
section IV
variable {L : Nat} {xs : Nat → Int32} {E : q_E} {d : Nat} {M : q_M} {t : q_T} {n : sN} {Q : Option Value → q_M → Prop} {P : q_M → Prop}
variable {p s p' s' : Nat} {H H' : Nat → sN} {kp : Nat → Option sN} {m : sN} {M' : q_M}
theorem i_tape.Z (it : i_tape M) (z : q_fZ M M') (e1 : M'.1 3 2 = M.1 3 2) (e2 : M'.1 271 1 = M.1 271 1) : i_tape M' := by
  obtain ⟨k, hk, ⟨t1, t2, t3⟩, tb⟩ := it
  refine ⟨k, hk, ⟨e1.trans t1, e2.trans t2, fun i hi => (z 4 i rfl).1.trans ((t3 i hi).trans (z 272 i rfl).1.symm)⟩, fun i hi => ?_⟩
  obtain ⟨b, hb, e⟩ := tb i hi
  exact ⟨b, hb, (z 4 i rfl).1.trans e⟩
theorem i_tape.no (e1 : M'.1 3 2 = Int32.ofInt 0) (e2 : M'.1 271 1 = Int32.ofInt 0) : i_tape M' := ⟨0, Nat.zero_le _, ⟨e1, e2, fun i hi => absurd hi (Nat.not_lt_zero _)⟩, fun i hi => absurd hi (Nat.not_lt_zero _)⟩
theorem i_fault.eq (h : i_fault M) (e1 : M'.1 2 14 = M.1 2 14) (e2 : M'.1 2 15 = M.1 2 15) (e3 : M'.1 2 16 = M.1 2 16) (f1 : M'.1 271 11 = M.1 271 11) (f2 : M'.1 271 12 = M.1 271 12) (f3 : M'.1 271 29 = M.1 271 29) : i_fault M' := ⟨e1.trans (h.1.trans f1.symm), e2.trans (h.2.1.trans f2.symm), e3.trans (h.2.2.trans f3.symm)⟩
theorem g_Kp.Z (h : g_Kp M t kp) (z : q_fZ M M') : g_Kp M' t kp := by
  intro k hk
  obtain ⟨h0, h1⟩ := h k hk
  have e13 := (z 2 13 rfl).1
  refine ⟨fun e => ⟨by rw [e13]; exact (h0 e).1, (z 288 k rfl).1.trans (h0 e).2⟩, fun m e => ?_⟩
  obtain ⟨a1, a2, a3, a4⟩ := h1 m e
  refine ⟨by rw [e13]; exact a1, (z 288 k rfl).1.trans a2, ?_, fun j hj => (z 287 _ rfl).1.trans (a4 j hj)⟩
  obtain rfl | rfl : k = 0 ∨ k = 1 := by omega
  · exact a3.eq (funext fun i => (z 52 i rfl).1) (funext fun i => (z 53 i rfl).1) (funext fun i => (z 54 i rfl).1) (funext fun i => (z 55 i rfl).1) (funext fun i => (z 56 i rfl).1) (funext fun i => (z 57 i rfl).1) (funext fun i => (z 58 i rfl).1) (funext fun i => (z 59 i rfl).1)
  · exact a3.eq (funext fun i => (z 60 i rfl).1) (funext fun i => (z 61 i rfl).1) (funext fun i => (z 62 i rfl).1) (funext fun i => (z 63 i rfl).1) (funext fun i => (z 64 i rfl).1) (funext fun i => (z 65 i rfl).1) (funext fun i => (z 66 i rfl).1) (funext fun i => (z 67 i rfl).1)
def kY (r : Nat) : Bool := c_rng 5 19 r || c_rng 21 23 r || Nat.beq r 270 || Nat.beq r 278 || Nat.beq r 280 || Nat.beq r 282
def q_fY (M M' : q_M) : Prop := ∀ r i, kY r = true → M'.1 r i = M.1 r i ∧ M'.2 r i = M.2 r i
theorem q_fs.fY {l : List Nat} {f : List (Nat × Nat)} (h : q_fs l f M M') (o : (l.all (fun a => !(kY a)) && f.all (fun q => !(kY q.1))) = true := by exact rfl) : q_fY M M' := fun r i hr => h r i (q_out (p := kY) o hr i)
theorem kY.Z {r i : Nat} (h : kY r = true) : kZ r i = true := by
  unfold kY at h
  rcases bo_or h with h | h
  · rcases bo_or h with h | h
    · rcases bo_or h with h | h
      · rcases bo_or h with h | h
        · rcases bo_or h with h | h
          · have a := c_rng.o h
            have : c_rng 4 19 r = true := c_rng.i (by omega) (by omega)
            unfold kZ
            rw [this]
            rfl
          · unfold kZ
            rw [h]
            cases c_rng 4 19 r <;> rfl
        · have := Nat.eq_of_beq_eq_true h
          subst this
          rfl
      · have := Nat.eq_of_beq_eq_true h
        subst this
        rfl
    · have := Nat.eq_of_beq_eq_true h
      subst this
      rfl
  · have := Nat.eq_of_beq_eq_true h
    subst this
    rfl
theorem q_fZ.fY (z : q_fZ M M') : q_fY M M' := fun r i hr => z r i (kY.Z hr)
theorem iX.Y {kp' : Nat → Option sN} (h : iX M t n p s H kp) (i' : iH M' t m p' s' H') (z : q_fY M M') (it : i_tape M') (ft : i_fault M') (mo : g_Mo M' t) (kpp : g_Kp M' t kp') (kj : ∀ k m, k < 2 → kp' k = some m → b_J t m) : iX M' t m p' s' H' kp' := by
  obtain ⟨h1, -, ⟨w, bl, nm⟩, ⟨gl, go, sb⟩, -, -, -⟩ := h
  exact ⟨i', ⟨it, ft⟩, ⟨⟨(z 17 5 rfl).1.trans w.1, fun l hl => ⟨(z 19 l rfl).1.trans (w.2 l hl).1, (z 280 _ rfl).1.trans (w.2 l hl).2.1, fun i hi => ⟨(z 18 _ rfl).1.trans ((w.2 l hl).2.2 i hi).1, (z 280 _ rfl).1.trans ((w.2 l hl).2.2 i hi).2⟩⟩⟩, bl, ⟨fun i hi => ⟨(nm.1 i hi).1, (z 9 i rfl).2.trans (nm.1 i hi).2.1, (z 282 i rfl).2.trans (nm.1 i hi).2.2⟩, fun e he => ⟨(nm.2 e he).1, (z 12 e rfl).2.trans (nm.2 e he).2.1, (z 282 _ rfl).2.trans (nm.2 e he).2.2⟩⟩⟩, ⟨fun q hq => (z 5 q rfl).2.trans (gl q hq), fun q hq => (z 278 q rfl).2.trans (go q hq), (z 270 0 rfl).1.trans sb⟩, mo, kpp, kj⟩
theorem g_Mo.Z (mo : g_Mo M t) (h10 : t 5 0 ≤ 10) (z : q_fZ M M') : g_Mo M' t := fun pr hp hb => by
  rw [(z 244 8 rfl).1] at hb
  exact (mo pr hp hb).eq hp h10 (fun i _ _ => ⟨(z 246 i rfl).1, (z 247 i rfl).1⟩)
theorem iX.Z (h : iX M t n p s H kp) (i' : iH M' t m p' s' H') (z : q_fZ M M') (it : i_tape M') (ft : i_fault M') : iX M' t m p' s' H' kp := h.Y i' z.fY it ft (h.2.2.2.2.1.Z h.1.1.1.R.d10 z) (h.2.2.2.2.2.1.Z z) h.2.2.2.2.2.2
/-- behind a call that moves scratch cells alone -/
theorem iX.q {l : List Nat} {f : List (Nat × Nat)} (h : iX M t n p s H kp) (hf : q_fs l f M M') (o1 : (l.all (g_q 43) && f.all (fun p => g_q 43 p.1)) = true := by exact rfl) (o2 : (l.all (fun a => !(c_rng 68 237 a)) && f.all (fun q => !(c_rng 68 237 q.1))) = true := by exact rfl) (o3 : q_scr l f 271 28 = false := by exact rfl) (o4 : ∀ i, q_scr l f 286 i = false := by intro i; exact rfl) (oZ : (l.all (fun a => !(kZ0 a)) && f.all (fun q => !(kZ q.1 q.2))) = true := by exact rfl) (a1 : q_scr l f 3 2 = false := by exact rfl) (a2 : q_scr l f 271 1 = false := by exact rfl) (a3 : q_scr l f 2 14 = false := by exact rfl) (a4 : q_scr l f 2 15 = false := by exact rfl) (a5 : q_scr l f 2 16 = false := by exact rfl) (a6 : q_scr l f 271 11 = false := by exact rfl) (a7 : q_scr l f 271 12 = false := by exact rfl) (a8 : q_scr l f 271 29 = false := by exact rfl) : iX M' t n p s H kp := h.Z (h.1.fs hf o1 o2 o3 o4) (hf.fZ oZ) (h.2.1.1.Z (hf.fZ oZ) (hf 3 2 a1).1 (hf 271 1 a2).1) (h.2.1.2.eq (hf 2 14 a3).1 (hf 2 15 a4).1 (hf 2 16 a5).1 (hf 271 11 a6).1 (hf 271 12 a7).1 (hf 271 29 a8).1)
/-- behind an act -/
theorem iX.o (h : iX M t n p s H kp) (i' : iH M' t m p' s' H') (hf : q_fo M M') : iX M' t m p' s' H' kp := h.Z i' hf.fZ (h.2.1.1.Z hf.fZ (hf 3 2 rfl).1 (hf 271 1 rfl).1) (h.2.1.2.eq (hf 2 14 rfl).1 (hf 2 15 rfl).1 (hf 2 16 rfl).1 (hf 271 11 rfl).1 (hf 271 12 rfl).1 (hf 271 29 rfl).1)
/-- behind a MEET -/
theorem iX.mt {t' : q_T} (h : iX M t n p s H kp) (hf : q_fs lMe fMe M M') (i' : iH M' t' m 0 0 H) (w : g_W M' t') (bl : b_L t') (nm : g_nm M' t') (e244 : M'.1 244 8 = Int32.ofInt 0) (e213 : M'.1 2 13 = Int32.ofInt 0) (k0 : M'.1 288 0 = Int32.ofInt 0) (k1 : M'.1 288 1 = Int32.ofInt 0) (e32 : M'.1 3 2 = Int32.ofInt 0) (e71 : M'.1 271 1 = Int32.ofInt 0) (ft : i_fault M') : iX M' t' m 0 0 H (fun _ => none) := by
  obtain ⟨-, -, -, ⟨gl, go, sb⟩, -, -, -⟩ := h
  have b0 : ∀ k, k < 2 → bt (Int32.ofInt 0) k = false := by decide +kernel
  refine ⟨i', ⟨i_tape.no e32 e71, ft⟩, ⟨w, bl, nm⟩, ⟨fun q hq => (hf.p2 5 q).trans (gl q hq), fun q hq => (hf.p2 278 q).trans (go q hq), (hf.p1 270 0).trans sb⟩, fun pr hp hb => ?_, fun k hk => ⟨fun _ => ⟨by rw [e213]; exact b0 k hk, ?_⟩, fun m e => by cases e⟩, fun k m _ e => by cases e⟩
  · rw [e244, b0 pr hp] at hb
    cases hb
  · obtain rfl | rfl : k = 0 ∨ k = 1 := by omega
    · exact k0
    · exact k1
end IV
