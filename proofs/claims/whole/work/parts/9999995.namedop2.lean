/-! the call named: both sides -/
section NP
variable {L : Nat} {xs : Nat → Int32} {E : q_E} {d : Nat} {M : q_M} {t : q_T} {n : sN} {Q : Option Value → q_M → Prop} {P : q_M → Prop}
set_option maxRecDepth 100000 in
set_option maxHeartbeats 4000000 in
theorem o_named {a : Int32} (g : g_A 43 M t n) (it : i_tape M) (gl : g_lx M) (nm : g_nm M t) (hP : ∀ M', q_fs lSp fNd M M' → M'.1 3 2 = Int32.ofInt 0 → M'.1 271 1 = Int32.ofInt 0 → P M') : zOp L xs E nX11_named nX12_named (d + 6) [.int a] M P := by
  obtain ⟨len, hl, ⟨t1, t2, t3⟩, tb⟩ := it
  have h10 := g.R.d10
  have h6 := g.R.e6
  obtain ⟨x, hx⟩ : ∃ x : Nat → Nat, ∀ i, i < len → M.1 4 i = nI (x i) ∧ x i < 256 := ⟨fun i => (M.1 4 i).toInt.toNat, fun i hi => by
    obtain ⟨b, hb, e⟩ := tb i hi
    have e2 : (M.1 4 i).toInt.toNat = b := by
      rw [e, z_nat, z_toInt (by omega)]
      omega
    show M.1 4 i = nI ((M.1 4 i).toInt.toNat) ∧ (M.1 4 i).toInt.toNat < 256
    rw [e2]
    exact ⟨e, hb⟩⟩
  have gx : g_tx M x len := ⟨t1, hl, hx⟩
  have gy : g_ty M x len := ⟨hl, fun i hi => ⟨(t3 i hi).symm.trans (hx i hi).1, (hx i hi).2⟩⟩
  obtain ⟨a0, ha, rfl⟩ := z_of a
  -- the reference
  have ref : ∀ M2 v, q_fs [] fNc M M2 → M2.1 3 2 = Int32.ofInt 0 → (a0 = 0 → anN t x len 0 (t 5 0) v) → (a0 = 1 → anN t x len 10 (t 8 0) v) → (¬ a0 = 0 → ¬ a0 = 1 → v = Int32.ofInt (-1)) → q_C q_mt (L, xs, q_shp) E nX12_named (d + 6) 0 0 (.ref 271 :: [.int (Int32.ofInt a0)]) M2 (fun v' M'' => v' = some (.int v) ∧ P M'') := by
    intro M2 v hf2 e32 v0 v1 v2
    have g2 : g_R M2 t n := g.R.fs hf2
    have go : ∀ M3 w, q_fs lSp fSp M2 M3 → M3.1 271 1 = Int32.ofInt 0 → ((lnW x len ∧ w = Int64.ofInt (w8E x (tkS x len 0) (lnK x len) : Nat)) ∨ (¬ lnW x len ∧ w = 0)) → q_G q_mt (L, xs, q_shp) E nX12_named (d + 6) 0 0 (q_Q (L, xs, q_shp) E (fun v' M'' => v' = some (.int v) ∧ P M'')) 5 [some (.ref 271), some (.int (Int32.ofInt a0)), some (.long w), none] [] M3 := by
      intro M3 w hf3 e1 hw
      have g3 := g2.fs hf3
      have fin : P M3 := hP M3 (hf2.mono.tr hf3.mono) ((hf3 3 2 rfl).1.trans e32) e1
      have n82 : ∀ j, M3.2 282 j = M.2 282 j := fun j => (hf3 282 j rfl).2.trans (hf2 282 j rfl).2
      refine w_at 90 [] ?_
      refine z_ne a0 0 (fun z0 => ?_) (fun z0 => ?_)
      · refine z_ne a0 1 (fun z1 => ⟨_, rfl, by rw [v2 z0 z1], fin⟩) (fun z1 => ?_)
        refine ⟨4, _, by (first | assumption | (simp only [z_nat, z_lit, ← Int32.ofInt_add, ← Int32.ofInt_sub, ← Int32.ofInt_mul]; exact congrArg Int32.ofInt (by omega)) | (simp only [z_nat, z_lit, ← Int32.ofInt_add, ← Int32.ofInt_sub, ← Int32.ofInt_mul]; done) | exact congrArg Int32.ofInt (by omega) | rfl), by (dsimp only; omega), g3.R4, ?_⟩
        refine k_nameAns 10 (t 8 0) (by omega) (fun i hi => ⟨(nm.2 i hi).1, (n82 _).trans (nm.2 i hi).2.2⟩) hw (fun r hr => ⟨_, rfl, by rw [(v1 z1).un hr], fin⟩)
      · refine ⟨3, _, by (first | assumption | (simp only [z_nat, z_lit, ← Int32.ofInt_add, ← Int32.ofInt_sub, ← Int32.ofInt_mul]; exact congrArg Int32.ofInt (by omega)) | (simp only [z_nat, z_lit, ← Int32.ofInt_add, ← Int32.ofInt_sub, ← Int32.ofInt_mul]; done) | exact congrArg Int32.ofInt (by omega) | rfl), by (dsimp only; omega), g3.R3, ?_⟩
        refine k_nameAns 0 (t 5 0) (by omega) (fun i hi => ?_) hw (fun r hr => ⟨_, rfl, by rw [(v0 z0).un hr], fin⟩)
        rw [Nat.zero_add]
        exact ⟨(nm.1 i hi).1, (n82 _).trans (nm.1 i hi).2.2⟩
    refine w_in 90 [5] ?_
    exact k_wordAlone (gy.fs hf2) ((hf2 271 1 rfl).1.trans t2) (fun M3 hf3 e1 w => go M3 _ hf3 e1 (Or.inl ⟨w, rfl⟩)) (fun M3 hf3 e1 w => go M3 _ hf3 e1 (Or.inr ⟨w, rfl⟩))
  refine w_in 90 [] ?_
  refine k2_readLoneName gx gl (fun M1 hf1 w o => ?_) (fun M1 hf1 w => ?_)
  · have l := ln_lt w
    have b5 := w5E_60 l.2
    refine ⟨_, rfl, ?_⟩
    have hf2 : q_fs [] fNc M (q_si M1 3 2 (Int32.ofInt 0)) := hf1.mono.tr q_fs.rf.s1
    have c9 : ∀ i, (q_si M1 3 2 (Int32.ofInt 0)).2 9 i = M.2 9 i := fun i => (hf2 9 i rfl).2
    have c12 : ∀ i, (q_si M1 3 2 (Int32.ofInt 0)).2 12 i = M.2 12 i := fun i => (hf2 12 i rfl).2
    have hD : (q_si M1 3 2 (Int32.ofInt 0)).1 6 5 = nI (t 5 0) := (hf2 6 5 rfl).1.trans g.dN
    have hE : (q_si M1 3 2 (Int32.ofInt 0)).1 6 9 = nI (t 8 0) := (hf2 6 9 rfl).1.trans g.eN
    refine ⟨fun _ => ?_, fun z => ?_⟩
    · refine z_ne a0 0 (fun z0 => ?_) (fun z0 => ?_)
      · refine z_ne a0 1 (fun z1 => ⟨_, rfl, _, rfl, ref _ _ hf2 q_si_s (fun y => absurd y z0) (fun y => absurd y z1) (fun _ _ => rfl)⟩) (fun z1 => ?_)
        refine k2_findEntrant hE h6 (fun i hi => ⟨_, rfl, _, rfl, ref _ _ hf2 q_si_s (fun y => by omega) (fun _ => ?_) (fun _ y => absurd z1 y)⟩) (fun h => ⟨_, rfl, _, rfl, ref _ _ hf2 q_si_s (fun y => by omega) (fun _ => ?_) (fun _ y => absurd z1 y)⟩)
        · refine Or.inl ⟨i, hi.1, ⟨⟨w, o⟩, ((nm.2 i hi.1).2.1.symm.trans (c12 i).symm).trans hi.2.1⟩, fun j hj y => hi.2.2 j hj ?_, rfl⟩
          exact (c12 j).trans ((nm.2 j (by have := hi.1; omega)).2.1.trans y.2)
        · refine Or.inr ⟨fun i hi y => h i hi ?_, rfl⟩
          exact (c12 i).trans ((nm.2 i hi).2.1.trans y.2)
      · refine k2_findDive hD h10 (fun i hi => ⟨_, rfl, _, rfl, ref _ _ hf2 q_si_s (fun _ => ?_) (fun y => by omega) (fun y => absurd z0 y)⟩) (fun h => ⟨_, rfl, _, rfl, ref _ _ hf2 q_si_s (fun _ => ?_) (fun y => by omega) (fun y => absurd z0 y)⟩)
        · refine Or.inl ⟨i, hi.1, ?_, fun j hj y => hi.2.2 j hj ?_, rfl⟩
          · rw [Nat.zero_add]
            exact ⟨⟨w, o⟩, ((nm.1 i hi.1).2.1.symm.trans (c9 i).symm).trans hi.2.1⟩
          · rw [Nat.zero_add] at y
            exact (c9 j).trans ((nm.1 j (by have := hi.1; omega)).2.1.trans y.2)
        · refine Or.inr ⟨fun i hi y => h i hi ?_, rfl⟩
          rw [Nat.zero_add] at y
          exact (c9 i).trans ((nm.1 i hi).2.1.trans y.2)
    · have z : Int64.ofInt (w5E x (tkS x len 0) (lnK x len) : Nat) = Int64.ofInt ((0 : Nat) : Int) := (lg_cmp_eq _ _).mp z
      rw [y_inj (by omega) (by omega)] at z
      have := (w5E_inj (y := x) (j := 0) (m := 0) (by have := o.1; omega) (by omega) l.2 (fun p hp => by omega) z).1
      omega
  · refine ⟨_, rfl, ?_⟩
    have hf2 : q_fs [] fNc M (q_si M1 3 2 (Int32.ofInt 0)) := hf1.mono.tr q_fs.rf.s1
    refine ⟨fun z => absurd ((lg_cmp_eq _ _).mpr rfl) z, fun _ => ⟨_, rfl, _, rfl, ref _ _ hf2 q_si_s (fun _ => Or.inr ⟨fun i _ y => w y.1, rfl⟩) (fun _ => Or.inr ⟨fun i _ y => w y.1, rfl⟩) (fun _ _ => rfl)⟩⟩
end NP
