/-! THE WHOLE, out of what is still owed (open: the class's constructor, the calls) -/
/-- the class's constructor, from a place with nothing but the new object in it -/
def w_ctor (L : Nat) (xs : Nat → Int32) (E : q_E) (I0 : q_M → Prop) (d rc rs : Nat) : Prop := q_CK q_mt (q_more (L, xs, []) (0, 12, 17, List.replicate 17 none)) E nX11_init d rc rs [.ref 2] (fun _ _ => 0, fun _ _ => 0) (fun Z' E' M' => Z' = (L, xs, q_shp.take 269) ∧ E'.2 = E.2 ∧ q_zero M' 271 ∧ I0 M')
