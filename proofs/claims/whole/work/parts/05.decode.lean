/-! each row of the tables is what the bytes decode to -/
def mj_len (i : Instr) (k : Nat) : Nat := match i with
  | .iload _ => 2
  | .lload _ => 2
  | .aload _ => 2
  | .istore _ => 2
  | .astore _ => 2
  | .lstore _ => 2
  | .ldc _ => 2
  | .bipush _ => 2
  | .newarray _ => 2
  | .sipush _ => 3
  | .ldc_w _ => 3
  | .ldc2_w _ => 3
  | .iinc _ _ => 3
  | .goto _ => 3
  | .ifCond _ _ => 3
  | .if_icmp _ _ => 3
  | .getfield _ => 3
  | .putfield _ => 3
  | .getstatic _ => 3
  | .invokestatic _ => 3
  | .invokevirtual _ => 3
  | .invokespecial _ => 3
  | .new _ => 3
  | .anewarray _ => 3
  | .tableswitch _ _ _ _ => k
  | _ => 1
def mj_ckd (y pc : Nat) (q : MI) : Bool := decide (decode (mj_B y) pc = .ok (q.1, mj_len q.1 (q.2.1 - pc))) && decide (q.2.1 = pc + mj_len q.1 (q.2.1 - pc))
def mj_ckm (y : Nat) : Bool := (List.range (mj_Z y)).all (fun pc => match mj_ins y pc with
  | none => true
  | some q => mj_ckd y pc q)
def mj_ckr (y a n : Nat) : Bool := (List.range n).all (fun j => match mj_ins y (a + j) with
  | none => true
  | some q => mj_ckd y (a + j) q)
