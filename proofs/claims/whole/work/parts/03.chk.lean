/-! what is checked of the code tables -/
/-- a row of a method's code: pc, instruction, its length, its site -/
abbrev q_I : Type := Nat × Instr × Nat × List Nat
/-- a method: own class, name, bytes, locals, answer, rows -/
abbrev q_Me : Type := String × MethodName × ByteArray × Nat × Option FieldType × List q_I
/-- calls of a nest mate's private method -/
def q_nl : List (String × Nat × MethodName × String) := [("DropTwo$MeetReader", 105, ⟨"DropTwo$Laws", "readTest", "(LDropTwo$Tape;I)Z"⟩, "DropTwo"), ("DropTwo$Panel", 47, ⟨"DropTwo", "cellOf", "(II)I"⟩, "DropTwo"), ("DropTwo$Ways", 70, ⟨"DropTwo", "cellOf", "(II)I"⟩, "DropTwo"), ("DropTwo$State", 65, ⟨"DropTwo", "cellOf", "(II)I"⟩, "DropTwo"), ("DropTwo$Outlook", 63, ⟨"DropTwo", "cellOf", "(II)I"⟩, "DropTwo")]
/-- what the tables must say of a row's site -/
def q_fok (own : String) (idx ci k j : Nat) (put : Bool) : Bool := match vwCl[ci]? with
  | some (C, T, N) => decide (k < N) && q_in j (.fieldLink own idx C (T k).2.1 (T k).2.2.1) && decide ((T k).1 = C) && (!put || (!(T k).2.2.2 && decide (parseFieldDescriptor (T k).2.2.1 = some (match q_fk ci k with
    | 0 => .int
    | 1 => .long
    | _ => .boolean))))
  | none => false
def q_yok (me : q_Me) (n : Nat) : Bool := decide (me.2.1.cls ≠ "java/lang/invoke/MethodHandle") && decide (me.2.1.cls ≠ "java/lang/invoke/VarHandle") && decide ((parseMethodDescriptor me.2.1.desc).map (fun d => d.parameters.length) = some n)
def q_sck (mt : Nat → q_Me) (nm : Nat) (own : String) (pc : Nat) (i : Instr) (site : List Nat) : Bool := match i, site with
  | .bipush n, _ => decide ((Int8.ofInt n).toInt32 = Int32.ofInt n)
  | .sipush n, _ => decide ((Int16.ofInt n).toInt32 = Int32.ofInt n)
  | .ldc idx, [j, v] => q_in j (.constant own idx (Int32.ofNat v))
  | .ldc_w idx, [j, v] => q_in j (.constant own idx (Int32.ofNat v))
  | .ldc2_w idx, [j, v] => q_in j (.constantLong own idx (Int64.ofNat v))
  | .ifCond _ off, [t] => decide ((pc : Int) + off = (t : Int))
  | .if_icmp _ off, [t] => decide ((pc : Int) + off = (t : Int))
  | .goto off, [t] => decide ((pc : Int) + off = (t : Int))
  | .tableswitch dflt lo hi offs, t :: ts => decide ((pc : Int) + dflt = (t : Int)) && decide (offs.toList.map (fun o => (pc : Int) + o) = ts.map Int.ofNat) && decide (hi = lo + (ts.length : Int) - 1)
  | .lookupswitch dflt ps, t :: ts => decide ((pc : Int) + dflt = (t : Int)) && decide (ps.toList.map (fun o => (pc : Int) + o.2) = ts.map Int.ofNat) && (ps.toList.zip (ps.toList.drop 1)).all (fun (a, next) => a.1 < next.1)
  | .getfield idx, [ci, k, j] => q_fok own idx ci k j false
  | .putfield idx, [ci, k, j] => q_fok own idx ci k j true
  | .invokevirtual idx, [1, mj, n, ci, j1, j2, j3, j4] => match vwCl[ci]? with
    | some (C, _, _) => decide (mj < nm) && decide ((mt mj).2.1.cls = C) && q_in j1 (.methodLink own idx (mt mj).2.1) && q_in j2 (.instanceMethod (mt mj).2.1) && q_in j3 (.selects C (mt mj).2.1 (mt mj).2.1) && q_in j4 (.initialized C) && q_yok (mt mj) n
    | none => false
  | .invokevirtual idx, [4, mj, n, ci, k, j2, j3, j4] => match vwCl[ci]?, q_nl[k]? with
    | some (C, _, _), some (o, ix, y, _) => decide (mj < nm) && decide (o = own) && decide (ix = idx) && decide (y = (mt mj).2.1) && decide ((mt mj).2.1.cls = C) && q_in j2 (.instanceMethod (mt mj).2.1) && q_in j3 (.selects C (mt mj).2.1 (mt mj).2.1) && q_in j4 (.initialized C) && q_yok (mt mj) n
    | _, _ => false
  | .invokestatic idx, [2, mj, n, j1, j2, j4] => decide (mj < nm) && q_in j1 (.methodLink own idx (mt mj).2.1) && q_in j2 (.static (mt mj).2.1) && q_in j4 (.initialized (mt mj).2.1.cls) && q_yok (mt mj) n
  | .invokestatic idx, [3, mj, n, k, j2, j4] => match q_nl[k]? with
    | some (o, ix, y, _) => decide (mj < nm) && decide (o = own) && decide (ix = idx) && decide (y = (mt mj).2.1) && q_in j2 (.static (mt mj).2.1) && q_in j4 (.initialized (mt mj).2.1.cls) && q_yok (mt mj) n
    | none => false
  | .invokestatic idx, [5, j1, j2, j3, j4] => q_in j1 (.methodLink own idx arraycopyName) && q_in j2 (.native arraycopyName) && q_in j3 (.static arraycopyName) && q_in j4 (.initialized "java/lang/System")
  | _, _ => true
def q_len (i : Instr) : Nat := match i with
  | .bipush _ | .ldc _ | .iload _ | .lload _ | .aload _ | .istore _ | .lstore _ | .astore _ | .newarray _ => 2
  | .sipush _ | .ldc_w _ | .ldc2_w _ | .iinc _ _ | .goto _ | .ifCond _ _ | .if_icmp _ _ | .getfield _ | .putfield _ | .invokevirtual _ | .invokestatic _ | .invokespecial _ | .new _ | .anewarray _ => 3
  | _ => 1
def q_lok (i : Instr) (n : Nat) : Bool := match i with
  | .tableswitch .. => true
  | .lookupswitch .. => true
  | i => Nat.beq n (q_len i)
def q_rck (mt : Nat → q_Me) (nm : Nat) (me : q_Me) (r : q_I) : Bool := decide (decode me.2.2.1 r.1 = .ok (r.2.1, r.2.2.1)) && q_lok r.2.1 r.2.2.1 && q_sck mt nm me.1 r.1 r.2.1 r.2.2.2
/-- a method's facts -/
def q_mok (mt : Nat → q_Me) (nm : Nat) (me : q_Me) : Prop := plainName me.2.1.cls = true ∧ me.2.1.cls = me.1 ∧ Cond.code me.2.1 me.2.2.1 me.2.2.2.1 me.2.2.2.2.1 ∈ q_wT ∧ me.2.2.2.1 ≤ 45 ∧ me.2.2.2.2.2.all (q_rck mt nm me) = true
def q_all (mt : Nat → q_Me) (nm : Nat) : Prop := ∀ mi, mi < nm → q_mok mt nm (mt mi)
