/-! A PURE MACHINE: ints, longs, references by (kind, id); a memory of whole numbers by id and place; one instruction as a proposition -/
abbrev pz_V : Type := Int ⊕ (Int ⊕ (Nat × Nat))
abbrev pz_M : Type := Nat → Nat → Int
abbrev pz_L : Type := List (Option pz_V)
abbrev pz_F : Type := Nat → pz_L → List pz_V → pz_M → Prop
abbrev pz_E : Type := Nat × Instr × Nat × Nat × List Nat
abbrev pz_C : Type := Nat × Nat × (List pz_V → pz_M → Prop) × (List pz_V → pz_M → Option pz_V → pz_M → Prop)
/-- how long an instruction is -/
def pz_len : Instr → Nat
  | .iconst _ => 1 | .bipush _ => 2 | .sipush _ => 3 | .lconst _ => 1 | .ldc _ => 2 | .ldc_w _ => 3 | .ldc2_w _ => 3
  | .iload _ => 2 | .iload_n _ => 1 | .lload _ => 2 | .lload_n _ => 1 | .aload _ => 2 | .aload_n _ => 1
  | .istore _ => 2 | .istore_n _ => 1 | .lstore _ => 2 | .lstore_n _ => 1 | .astore _ => 2 | .astore_n _ => 1
  | .iinc _ _ => 3 | .goto _ => 3 | .ifCond _ _ => 3 | .if_icmp _ _ => 3 | .getfield _ => 3 | .putfield _ => 3 | .invokevirtual _ => 3 | .invokestatic _ => 3
  | _ => 1
def pz_tok (pc : Nat) : Instr → List Nat → Bool
  | .goto o, [t] => decide ((pc : Int) + o = (t : Int))
  | .ifCond _ o, [t] => decide ((pc : Int) + o = (t : Int))
  | .if_icmp _ o, [t] => decide ((pc : Int) + o = (t : Int))
  | .tableswitch d low high os, ts => decide ((d :: os.toList).map (fun o => (pc : Int) + o) = ts.map Int.ofNat) && decide (high - low + 1 = (os.toList.length : Int))
  | .lookupswitch d ps, ts => decide ((d :: ps.toList.map (·.2)).map (fun o => (pc : Int) + o) = ts.map Int.ofNat) && (ps.toList.zip (ps.toList.drop 1)).all (fun q => decide (q.1.1 < q.2.1))
  | .goto _, _ => false
  | .ifCond _ _, _ => false
  | .if_icmp _ _, _ => false
  | _, _ => true
def pz_imm : Instr → Bool
  | .iconst v => decide (-1 ≤ v) && decide (v ≤ 5)
  | .bipush v => decide (-128 ≤ v) && decide (v ≤ 127)
  | .sipush v => decide (-32768 ≤ v) && decide (v ≤ 32767)
  | .iinc _ v => decide (-128 ≤ v) && decide (v ≤ 127)
  | _ => true
def pz_sl : Instr → Nat → Nat → Bool
  | .tableswitch .., _, _ => true
  | .lookupswitch .., _, _ => true
  | I, n, _ => decide (n = pz_len I)
/-- a row of a method's table says what its bytes say -/
def pz_wf (cc : ByteArray) (q : pz_E) : Bool := decide (decode cc q.1 = .ok (q.2.1, q.2.2.1)) && (decide (q.2.2.2.1 = q.1 + q.2.2.1) && (pz_sl q.2.1 q.2.2.1 0 && (pz_tok q.1 q.2.1 q.2.2.2.2 && pz_imm q.2.1)))
def pz_at (tb : List pz_E) (pc : Nat) : Option pz_E := tb.find? (fun q => Nat.beq q.1 pc)
