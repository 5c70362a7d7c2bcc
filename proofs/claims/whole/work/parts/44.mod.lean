/-! what the reference's constructor leaves -/
noncomputable def w_modM (M : q_M) : q_M := (q_si (q_sl (q_sl (q_sl (q_sl (q_sl (q_sl (q_sl (q_sl (q_sl (q_sl (q_sl (q_sl (q_sl (q_sl (q_sl (q_sl (q_sl (q_sl (q_sl (q_sl (q_sl (q_sl (q_sl (q_sl (q_sl (q_sl (q_sl (q_sl (q_sl (q_sl (q_sl (q_sl (q_sl (q_sl (q_si M 271 12 (Int32.ofInt (-1))) 278 0 (Int64.ofNat 125823037105267)) 278 1 (Int64.ofNat 1685221232)) 278 2 (Int64.ofNat 457236047717)) 278 3 (Int64.ofNat 1818324580)) 278 4 (Int64.ofNat 439855772532)) 278 5 (Int64.ofNat 126879297138276)) 278 6 (Int64.ofNat 8390038316256879986)) 278 7 (Int64.ofNat 1684633189)) 278 8 (Int64.ofNat 444301538672)) 278 9 (Int64.ofNat 110386690024805)) 278 10 (Int64.ofNat 431266096498)) 278 11 (Int64.ofNat 1885432178)) 278 12 (Int64.ofNat 1818850164)) 278 13 (Int64.ofNat 1718579821)) 278 14 (Int64.ofNat 7102839)) 278 15 (Int64.ofNat 6518132)) 278 16 (Int64.ofNat 1836020596)) 278 17 (Int64.ofNat 1634624887)) 278 18 (Int64.ofNat 28530)) 278 19 (Int64.ofNat 6385252)) 278 20 (Int64.ofNat 7237492)) 278 21 (Int64.ofNat 491496238692)) 278 22 (Int64.ofNat 7566701)) 278 23 (Int64.ofNat 1936024942)) 278 24 (Int64.ofNat 129117125700453)) 278 25 (Int64.ofNat 469786323827)) 278 26 (Int64.ofNat 499984983411)) 278 27 (Int64.ofNat 6384748)) 278 28 (Int64.ofNat 1650551915)) 278 29 (Int64.ofNat 6513008)) 278 30 (Int64.ofNat 1751215206)) 278 31 (Int64.ofNat 1717660012)) 278 32 (Int64.ofNat 1734964837)) 278 33 (Int64.ofNat 7304564)) 271 29 (Int32.ofInt (-1)))
section WM
variable {L : Nat} {xs : Nat → Int32} {E : q_E} {M : q_M} {d : Nat}
theorem q_CK.mono {mt : Nat → q_Me} {Z : q_Z} {E : q_E} {mi d rc rs : Nat} {as : List Value} {M : q_M} {Q Q' : q_Z → q_E → q_M → Prop} (h : q_CK mt Z E mi d rc rs as M Q) (hQ : ∀ Z' E' M', Q Z' E' M' → Q' Z' E' M') : q_CK mt Z E mi d rc rs as M Q' := by
  intro l p e ha hc hk s m args below hf happ hP hK
  obtain ⟨n, o, h1, h2, h3, ⟨⟨⟨Z', E', M', e1, e2, e3, e4, e5⟩, h5⟩, h6⟩⟩ := h l p e ha hc hk s m args below hf happ hP hK
  exact ⟨n, o, h1, h2, h3, ⟨⟨⟨Z', E', M', e1, e2, e3, hQ _ _ _ e4, e5⟩, h5⟩, h6⟩⟩
set_option maxRecDepth 1000000 in
set_option maxHeartbeats 10000000 in
theorem w_mod (hE : E.2.2.2.2.1 = 270) (hz : q_zero M 271) : q_CK q_mt (q_more (L, xs, q_shp.take 269) (0, 13, 49, List.replicate 49 none)) E nX12_init (d + 1) 28 27182 [.ref 271] M (fun Z' E' M' => Z' = (L, xs, q_shp) ∧ E'.2 = E.2 ∧ M' = w_modM M) := by
  have h := k_X12 (Z0 := q_more (L, xs, q_shp.take 269) (0, 13, 49, List.replicate 49 none)) (E := E) (M := M) (r0 := 269) (d := d) rfl (show ∀ h ∈ q_shp.take 269 ++ [(0, 13, 49, List.replicate 49 none)], q_wr 272 h.2.2.2 = true by decide +kernel) (fun r hr => hz r (Nat.le_of_succ_le hr)) hE (Nat.le_refl _)
  exact h.mono (fun Z' E' M' q => ⟨q.1, q.2.2, q.2.1⟩)
end WM
