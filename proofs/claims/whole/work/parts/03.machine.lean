/-! THE MINI MACHINE: a picture of the bytecode's run over cells named by (tag, number); what it says is shown to hold of the real machine in the parts behind -/
abbrev MV : Type := Int32 ⊕ (Int64 ⊕ (Nat × Nat))
/-- ints, longs, references (each by tag, number, place), how many cells are made -/
abbrev MH : Type := (Nat → Nat → Nat → Int32) × (Nat → Nat → Nat → Int64) × (Nat → Nat → Nat → Nat × Nat) × Nat
abbrev ML : Type := List (Option MV)
abbrev MS : Type := Nat × ML × List MV × MH
abbrev vI (x : Int32) : MV := Sum.inl x
abbrev vL (x : Int64) : MV := Sum.inr (Sum.inl x)
abbrev vR (t i : Nat) : MV := Sum.inr (Sum.inr (t, i))
def up3 {α : Type} (f : Nat → Nat → Nat → α) (t i k : Nat) (v : α) : Nat → Nat → Nat → α := fun a b c => if a = t ∧ b = i ∧ c = k then v else f a b c
def upA {α : Type} (f : Nat → Nat → Nat → α) (t i : Nat) (g : Nat → α) : Nat → Nat → Nat → α := fun a b c => if a = t ∧ b = i then g c else f a b c
def mj_nth : ML → Nat → Option MV
  | [], _ => none
  | x :: _, 0 => x
  | _ :: l, k + 1 => mj_nth l k
def mj_isL : Option MV → Bool
  | some (.inr (.inl _)) => true
  | _ => false
/-- a store into the locals: not behind a long (p: what stands ahead is one) -/
def mj_stoA : Bool → ML → Nat → MV → Option ML
  | _, [], _, _ => none
  | p, _ :: l, 0, v => match p with
    | true => none
    | false => some (some v :: l)
  | _, x :: l, k + 1, v => match mj_stoA (mj_isL x) l k v with
    | some l' => some (x :: l')
    | none => none
def mj_sto (l : ML) (k : Nat) (v : MV) : Option ML := mj_stoA false l k v
def mj_stoB : Bool → ML → Nat → MV → Option ML
  | p, _ :: _ :: l, 0, v => match p with
    | true => none
    | false => some (some v :: none :: l)
  | _, x :: l, k + 1, v => match mj_stoB (mj_isL x) l k v with
    | some l' => some (x :: l')
    | none => none
  | _, _, _, _ => none
def mj_sto2 (l : ML) (k : Nat) (v : MV) : Option ML := mj_stoB false l k v
def mj_c1 : MV → Bool
  | .inr (.inl _) => false
  | _ => true
def mj_cat (v : MV) : Nat := cond (mj_c1 v) 1 2
/-- a tag: its sort (1 object, 2 ints, 3 longs, 4 references), its class's or component's number, its length -/
def mj_tk (t : Nat) : Nat × Nat × Nat :=
  cond (Nat.blt t 17) (cond (Nat.blt t 11) (cond (Nat.blt t 8) (cond (Nat.beq t 5) (1, 11, 10) (cond (Nat.beq t 6) (4, 2, 6) (cond (Nat.beq t 7) (1, 10, 5) (0, 0, 0)))) (cond (Nat.beq t 8) (2, 0, 120) (cond (Nat.beq t 9) (4, 3, 4) (2, 0, 7))))
      (cond (Nat.blt t 14) (cond (Nat.beq t 11) (1, 4, 2) (cond (Nat.beq t 12) (1, 2, 2) (1, 9, 2))) (cond (Nat.beq t 14) (1, 1, 2) (cond (Nat.beq t 15) (1, 6, 2) (1, 0, 2)))))
    (cond (Nat.blt t 25) (cond (Nat.blt t 21) (cond (Nat.beq t 17) (1, 8, 6) (cond (Nat.beq t 18) (4, 4, 8) (cond (Nat.beq t 19) (4, 5, 6) (1, 3, 3)))) (cond (Nat.beq t 21) (2, 0, 12) (cond (Nat.beq t 22) (1, 5, 3) (cond (Nat.beq t 23) (1, 7, 3) (3, 1, 40)))))
      (cond (Nat.blt t 29) (cond (Nat.beq t 25) (1, 12, 15) (2, 0, 134)) (cond (Nat.beq t 29) (2, 0, 7) (cond (Nat.beq t 30) (2, 0, 120) (cond (Nat.blt t 33) (2, 0, 4) (cond (Nat.beq t 33) (3, 1, 160) (0, 0, 0)))))))
/-- which fields of a class (by its number) hold references -/
def mj_fr (ci k : Nat) : Bool :=
  cond (Nat.beq ci 11) (Nat.blt k 9) (cond (Nat.beq ci 10) (Nat.beq k 0) (cond (Nat.beq ci 8) (Nat.blt k 2) (cond (Nat.beq ci 3) (Nat.blt k 2) (cond (Nat.beq ci 5) false (cond (Nat.beq ci 7) (Nat.beq k 0)
    (cond (Nat.beq ci 12) (Nat.blt k 3 || Nat.beq k 4 || Nat.beq k 5 || Nat.blt 11 k) (Nat.beq k 1)))))))
/-- a cell of tag t has the fields of group g -/
def mj_fok (t g : Nat) : Bool := cond (Nat.beq g 11) (Nat.ble 11 t && Nat.ble t 16) (Nat.beq t g && Nat.beq (mj_tk t).1 1)
def mj_strs : List (List Int32) := [[104, 97, 116], [102, 101, 108, 116], [115, 116, 114, 97, 119], [102, 101, 97, 116, 104, 101, 114], [109, 105, 116, 114, 101], [98, 114, 105, 109], [104, 111, 108, 100, 115], [112, 108, 101, 100, 103, 101], [104, 101, 97, 100], [104, 97, 115], [98, 97, 108, 100], [109, 111, 116, 104, 115], [110, 111, 110, 101]]
def mj_slen (i : Nat) : Nat := (mj_strs.getD i []).length
def mj_sbyt (i j : Nat) : Int32 := (mj_strs.getD i []).getD j 0
def mj_nams : List Int32 := [104, 97, 116, 0, 0, 0, 0, 102, 101, 108, 116, 0, 0, 0, 115, 116, 114, 97, 119, 0, 0, 102, 101, 97, 116, 104, 101, 114, 109, 105, 116, 114, 101, 0, 0, 98, 114, 105, 109, 0, 0, 0, 104, 111, 108, 100, 115, 0, 0, 112, 108, 101, 100, 103, 101, 0, 104, 101, 97, 100, 0, 0, 0, 104, 97, 115, 0, 0, 0, 0, 98, 97, 108, 100, 0, 0, 0, 109, 111, 116, 104, 115, 0, 0, 110, 111, 110, 101, 0, 0, 0]
def mj_nam (j : Nat) : Int32 := mj_nams.getD j 0
def mj_vin (j : Int32) (n : Nat) : Bool := decide (¬ (j < 0 ∨ n ≤ j.toNatClampNeg))
/-- a cell of tag t may stand in a row whose component is class number e -/
def mj_asg (e t : Nat) : Bool := cond (Nat.beq e 2) (Nat.ble 11 t && Nat.ble t 16) (cond (Nat.beq e 3) (Nat.beq t 23) (cond (Nat.beq e 4) (Nat.beq t 20) (Nat.beq e 5 && Nat.beq t 22)))
def mj_swt : List (Int32 × Nat) → Nat → Int32 → Nat
  | [], d, _ => d
  | (k, t) :: l, d, x => if x = k then t else mj_swt l d x
def mj_stp (q : MI) (s : MS) : Option (List Bool × MS) :=
  match s with
  | (_, ls, st, (ii, jj, rr, m)) => match q with
    | (i, n, w, a, b, c) => match i with
      | .iconst _ => some ([], (n, ls, vI w :: st, (ii, jj, rr, m)))
      | .bipush _ => some ([], (n, ls, vI w :: st, (ii, jj, rr, m)))
      | .sipush _ => some ([], (n, ls, vI w :: st, (ii, jj, rr, m)))
      | .ldc_w _ => some ([], (n, ls, vI w :: st, (ii, jj, rr, m)))
      | .ldc _ => match a with
        | 0 => some ([], (n, ls, vI w :: st, (ii, jj, rr, m)))
        | _ => some ([], (n, ls, vR 3 b :: st, (ii, jj, rr, m)))
      | .ldc2_w _ => some ([], (n, ls, vL (lN a) :: st, (ii, jj, rr, m)))
      | .lconst _ => some ([], (n, ls, vL (lN a) :: st, (ii, jj, rr, m)))
      | .iload_n _ => match mj_nth ls a with
        | some (.inl x) => some ([], (n, ls, vI x :: st, (ii, jj, rr, m)))
        | _ => none
      | .iload _ => match mj_nth ls a with
        | some (.inl x) => some ([], (n, ls, vI x :: st, (ii, jj, rr, m)))
        | _ => none
      | .lload_n _ => match mj_nth ls a with
        | some (.inr (.inl x)) => some ([], (n, ls, vL x :: st, (ii, jj, rr, m)))
        | _ => none
      | .lload _ => match mj_nth ls a with
        | some (.inr (.inl x)) => some ([], (n, ls, vL x :: st, (ii, jj, rr, m)))
        | _ => none
      | .aload_n _ => match mj_nth ls a with
        | some (.inr (.inr x)) => some ([], (n, ls, .inr (.inr x) :: st, (ii, jj, rr, m)))
        | _ => none
      | .aload _ => match mj_nth ls a with
        | some (.inr (.inr x)) => some ([], (n, ls, .inr (.inr x) :: st, (ii, jj, rr, m)))
        | _ => none
      | .istore_n _ => match st with
        | .inl x :: r => match mj_sto ls a (.inl x) with
          | some ls' => some ([], (n, ls', r, (ii, jj, rr, m)))
          | none => none
        | _ => none
      | .istore _ => match st with
        | .inl x :: r => match mj_sto ls a (.inl x) with
          | some ls' => some ([], (n, ls', r, (ii, jj, rr, m)))
          | none => none
        | _ => none
      | .astore_n _ => match st with
        | .inr (.inr x) :: r => match mj_sto ls a (.inr (.inr x)) with
          | some ls' => some ([], (n, ls', r, (ii, jj, rr, m)))
          | none => none
        | _ => none
      | .astore _ => match st with
        | .inr (.inr x) :: r => match mj_sto ls a (.inr (.inr x)) with
          | some ls' => some ([], (n, ls', r, (ii, jj, rr, m)))
          | none => none
        | _ => none
      | .lstore _ => match st with
        | .inr (.inl x) :: r => match mj_sto2 ls a (.inr (.inl x)) with
          | some ls' => some ([], (n, ls', r, (ii, jj, rr, m)))
          | none => none
        | _ => none
      | .iinc _ _ => match mj_nth ls a with
        | some (.inl x) => match mj_sto ls a (.inl (x + w)) with
          | some ls' => some ([], (n, ls', st, (ii, jj, rr, m)))
          | none => none
        | _ => none
      | .iadd => match st with
        | .inl y :: .inl x :: r => some ([], (n, ls, vI (x + y) :: r, (ii, jj, rr, m)))
        | _ => none
      | .isub => match st with
        | .inl y :: .inl x :: r => some ([], (n, ls, vI (x - y) :: r, (ii, jj, rr, m)))
        | _ => none
      | .imul => match st with
        | .inl y :: .inl x :: r => some ([], (n, ls, vI (x * y) :: r, (ii, jj, rr, m)))
        | _ => none
      | .iand => match st with
        | .inl y :: .inl x :: r => some ([], (n, ls, vI (x &&& y) :: r, (ii, jj, rr, m)))
        | _ => none
      | .ior => match st with
        | .inl y :: .inl x :: r => some ([], (n, ls, vI (x ||| y) :: r, (ii, jj, rr, m)))
        | _ => none
      | .ixor => match st with
        | .inl y :: .inl x :: r => some ([], (n, ls, vI (x ^^^ y) :: r, (ii, jj, rr, m)))
        | _ => none
      | .ishl => match st with
        | .inl y :: .inl x :: r => some ([], (n, ls, vI (x <<< (y &&& 31)) :: r, (ii, jj, rr, m)))
        | _ => none
      | .ishr => match st with
        | .inl y :: .inl x :: r => some ([], (n, ls, vI (x >>> (y &&& 31)) :: r, (ii, jj, rr, m)))
        | _ => none
      | .iushr => match st with
        | .inl y :: .inl x :: r => some ([], (n, ls, vI ((x.toUInt32 >>> (y.toUInt32 &&& Int32.toUInt32 31)).toInt32) :: r, (ii, jj, rr, m)))
        | _ => none
      | .idiv => match st with
        | .inl y :: .inl x :: r => some ([decide (¬ y = 0)], (n, ls, vI (x / y) :: r, (ii, jj, rr, m)))
        | _ => none
      | .irem => match st with
        | .inl y :: .inl x :: r => some ([decide (¬ y = 0)], (n, ls, vI (x - x / y * y) :: r, (ii, jj, rr, m)))
        | _ => none
      | .ineg => match st with
        | .inl x :: r => some ([], (n, ls, vI (-x) :: r, (ii, jj, rr, m)))
        | _ => none
      | .land => match st with
        | .inr (.inl y) :: .inr (.inl x) :: r => some ([], (n, ls, vL (x &&& y) :: r, (ii, jj, rr, m)))
        | _ => none
      | .lor => match st with
        | .inr (.inl y) :: .inr (.inl x) :: r => some ([], (n, ls, vL (x ||| y) :: r, (ii, jj, rr, m)))
        | _ => none
      | .lshl => match st with
        | .inl y :: .inr (.inl x) :: r => some ([], (n, ls, vL (x <<< (y.toInt64 &&& 63)) :: r, (ii, jj, rr, m)))
        | _ => none
      | .lcmp => match st with
        | .inr (.inl y) :: .inr (.inl x) :: r => some ([], (n, ls, vI (lg_cmp x y) :: r, (ii, jj, rr, m)))
        | _ => none
      | .i2l => match st with
        | .inl x :: r => some ([], (n, ls, vL x.toInt64 :: r, (ii, jj, rr, m)))
        | _ => none
      | .l2i => match st with
        | .inr (.inl x) :: r => some ([], (n, ls, vI x.toInt32 :: r, (ii, jj, rr, m)))
        | _ => none
      | .i2b => match st with
        | .inl x :: r => some ([], (n, ls, vI x.toInt8.toInt32 :: r, (ii, jj, rr, m)))
        | _ => none
      | .i2s => match st with
        | .inl x :: r => some ([], (n, ls, vI x.toInt16.toInt32 :: r, (ii, jj, rr, m)))
        | _ => none
      | .i2c => match st with
        | .inl x :: r => some ([], (n, ls, vI (x.toUInt32 % 65536).toInt32 :: r, (ii, jj, rr, m)))
        | _ => none
      | .dup => match st with
        | v :: r => cond (mj_c1 v) (some ([], (n, ls, v :: v :: r, (ii, jj, rr, m)))) none
        | _ => none
      | .dup2 => match st with
        | v :: u :: r => cond (mj_c1 v && mj_c1 u) (some ([], (n, ls, v :: u :: v :: u :: r, (ii, jj, rr, m)))) none
        | _ => none
      | .pop => match st with
        | v :: r => cond (mj_c1 v) (some ([], (n, ls, r, (ii, jj, rr, m)))) none
        | _ => none
      | .goto _ => some ([], (a, ls, st, (ii, jj, rr, m)))
      | .getfield _ => match st with
        | .inr (.inr (t, i)) :: r => match a with
          | 3 => cond (Nat.beq t 3) (match b with
            | 0 => some ([], (n, ls, vR 4 i :: r, (ii, jj, rr, m)))
            | _ => some ([], (n, ls, vI 0 :: r, (ii, jj, rr, m)))) none
          | _ => cond (mj_fok t a) (match c with
            | 1 => match rr t i b with
              | (t', i') => some ([], (n, ls, vR t' i' :: r, (ii, jj, rr, m)))
            | _ => some ([], (n, ls, vI (ii t i b) :: r, (ii, jj, rr, m)))) none
        | _ => none
      | .putfield _ => match st with
        | .inl x :: .inr (.inr (t, i)) :: r => cond (mj_fok t a) (match c with
          | 0 => some ([], (n, ls, r, (up3 ii t i b x, jj, rr, m)))
          | 2 => some ([decide (x = 0 ∨ x = 1)], (n, ls, r, (up3 ii t i b x, jj, rr, m)))
          | _ => none) none
        | .inr (.inr (t', i')) :: .inr (.inr (t, i)) :: r => cond (mj_fok t a && Nat.beq c 1) (some ([], (n, ls, r, (ii, jj, up3 rr t i b (t', i'), m)))) none
        | _ => none
      | .getstatic _ => match a with
        | 0 => some ([], (n, ls, vI w :: st, (ii, jj, rr, m)))
        | 1 => some ([], (n, ls, vR 2 0 :: st, (ii, jj, rr, m)))
        | _ => some ([], (n, ls, vR 34 0 :: st, (ii, jj, rr, m)))
      | .iaload => match st with
        | .inl j :: .inr (.inr (t, i)) :: r => match t with
          | 1 => match i with
            | 0 => some ([mj_vin j (ii 1 1 0).toNatClampNeg], (n, ls, vI (ii 1 0 j.toNatClampNeg) :: r, (ii, jj, rr, m)))
            | _ => none
          | 2 => some ([mj_vin j 91], (n, ls, vI (mj_nam j.toNatClampNeg) :: r, (ii, jj, rr, m)))
          | t => match mj_tk t with
            | (2, _, len) => some ([mj_vin j len], (n, ls, vI (ii t i j.toNatClampNeg) :: r, (ii, jj, rr, m)))
            | _ => none
        | _ => none
      | .baload => match st with
        | .inl j :: .inr (.inr (t, i)) :: r => cond (Nat.beq t 4) (some ([mj_vin j (mj_slen i)], (n, ls, vI (mj_sbyt i j.toNatClampNeg) :: r, (ii, jj, rr, m)))) none
        | _ => none
      | .laload => match st with
        | .inl j :: .inr (.inr (t, i)) :: r => match mj_tk t with
          | (3, _, len) => some ([mj_vin j len], (n, ls, vL (jj t i j.toNatClampNeg) :: r, (ii, jj, rr, m)))
          | _ => none
        | _ => none
      | .aaload => match st with
        | .inl j :: .inr (.inr (t, i)) :: r => match mj_tk t with
          | (4, _, len) => match rr t i j.toNatClampNeg with
            | (t', i') => some ([mj_vin j len], (n, ls, vR t' i' :: r, (ii, jj, rr, m)))
          | _ => none
        | _ => none
      | .iastore => match st with
        | .inl x :: .inl j :: .inr (.inr (t, i)) :: r => match mj_tk t with
          | (2, _, len) => some ([mj_vin j len], (n, ls, r, (up3 ii t i j.toNatClampNeg x, jj, rr, m)))
          | _ => none
        | _ => none
      | .lastore => match st with
        | .inr (.inl x) :: .inl j :: .inr (.inr (t, i)) :: r => match mj_tk t with
          | (3, _, len) => some ([mj_vin j len], (n, ls, r, (ii, up3 jj t i j.toNatClampNeg x, rr, m)))
          | _ => none
        | _ => none
      | .aastore => match st with
        | .inr (.inr (t', i')) :: .inl j :: .inr (.inr (t, i)) :: r => match mj_tk t with
          | (4, e, len) => cond (mj_asg e t') (some ([mj_vin j len], (n, ls, r, (ii, jj, up3 rr t i j.toNatClampNeg (t', i'), m)))) none
          | _ => none
        | _ => none
      | .arraylength => match st with
        | .inr (.inr (t, i)) :: r => match t with
          | 1 => match i with
            | 0 => some ([], (n, ls, vI (ii 1 1 0) :: r, (ii, jj, rr, m)))
            | _ => none
          | 4 => some ([], (n, ls, vI (nI (mj_slen i)) :: r, (ii, jj, rr, m)))
          | t => match mj_tk t with
            | (k, _, len) => cond (Nat.blt 1 k) (some ([], (n, ls, vI (nI len) :: r, (ii, jj, rr, m)))) none
        | _ => none
      | .invokespecial _ => match a with
        | 5 => match st with
          | .inr (.inr (t, _)) :: r => cond (Nat.blt 0 (mj_tk t).1 && Nat.ble (r.map mj_cat).sum 8) (some ([], (n, ls, r, (ii, jj, rr, m)))) none
          | _ => none
        | _ => none
      | .invokestatic _ => match a with
        | 7 => match st with
          | .inl k :: .inl dp :: .inr (.inr (t1, i1)) :: .inl sp :: .inr (.inr (t0, i0)) :: r => match mj_tk t0 with
            | (2, _, n0) => match mj_tk t1 with
              | (2, _, n1) => cond (Nat.ble (r.map mj_cat).sum 8)
                (some ([decide (¬ sp < 0), decide (¬ dp < 0), decide (¬ k < 0), decide (sp.toNatClampNeg + k.toNatClampNeg ≤ n0), decide (dp.toNatClampNeg + k.toNatClampNeg ≤ n1)],
                  (n, ls, r, (upA ii t1 i1 (va_cpy (ii t0 i0) (ii t1 i1) sp.toNatClampNeg dp.toNatClampNeg k.toNatClampNeg), jj, rr, m)))) none
              | _ => none
            | (3, _, n0) => match mj_tk t1 with
              | (3, _, n1) => cond (Nat.ble (r.map mj_cat).sum 8)
                (some ([decide (¬ sp < 0), decide (¬ dp < 0), decide (¬ k < 0), decide (sp.toNatClampNeg + k.toNatClampNeg ≤ n0), decide (dp.toNatClampNeg + k.toNatClampNeg ≤ n1)],
                  (n, ls, r, (ii, upA jj t1 i1 (va_cpy (jj t0 i0) (jj t1 i1) sp.toNatClampNeg dp.toNatClampNeg k.toNatClampNeg), rr, m)))) none
              | _ => none
            | _ => none
          | _ => none
        | 8 => match st with
          | .inl y :: .inl x :: r => cond (Nat.ble (r.map mj_cat).sum 8) (some ([], (n, ls, vI (if x < y then y else x) :: r, (ii, jj, rr, m)))) none
          | _ => none
        | 9 => match st with
          | .inl y :: .inl x :: r => cond (Nat.ble (r.map mj_cat).sum 8) (some ([], (n, ls, vI (if y < x then y else x) :: r, (ii, jj, rr, m)))) none
          | _ => none
        | _ => none
      | _ => none
/-- steps one behind another, until a place, or a branch, a call, a switch, a making, an answer: what must hold, where it comes to -/
def mj_go (y e : Nat) : Nat → MS → List Bool × MS
  | 0, s => ([], s)
  | k + 1, s => match s with
    | (pc, ls, st, h) => match mj_ins y pc with
      | none => ([], (pc, ls, st, h))
      | some q => match mj_stp q (pc, ls, st, h) with
        | none => ([], (pc, ls, st, h))
        | some (c, s1) => match Nat.beq s1.1 e with
          | true => (c, s1)
          | false => match c with
            | [] => mj_go y e k s1
            | _ => match mj_go y e k s1 with
              | (d, s2) => (c ++ d, s2)
def mj_all : List Bool → Prop
  | [] => True
  | b :: l => b = true ∧ mj_all l
/-- a branch: its condition, where it goes if that holds, where if not -/
def mj_brk (q : MI) (s : MS) : Option (Prop × MS × MS) :=
  match s with
  | (_, ls, st, h) => match q with
    | (i, n, _, a, _, _) => match i with
      | .ifCond cc _ => match st with
        | .inl x :: r => match cc with
          | .eq => some (x = 0, (a, ls, r, h), (n, ls, r, h))
          | .ne => some (x = 0, (n, ls, r, h), (a, ls, r, h))
          | .lt => some (x < 0, (a, ls, r, h), (n, ls, r, h))
          | .ge => some (0 ≤ x, (a, ls, r, h), (n, ls, r, h))
          | .gt => some (0 < x, (a, ls, r, h), (n, ls, r, h))
          | .le => some (x ≤ 0, (a, ls, r, h), (n, ls, r, h))
        | _ => none
      | .if_icmp cc _ => match st with
        | .inl y :: .inl x :: r => match cc with
          | .eq => some (x = y, (a, ls, r, h), (n, ls, r, h))
          | .ne => some (x = y, (n, ls, r, h), (a, ls, r, h))
          | .lt => some (x < y, (a, ls, r, h), (n, ls, r, h))
          | .ge => some (y ≤ x, (a, ls, r, h), (n, ls, r, h))
          | .gt => some (y < x, (a, ls, r, h), (n, ls, r, h))
          | .le => some (x ≤ y, (a, ls, r, h), (n, ls, r, h))
        | _ => none
      | _ => none
/-- the same, for numbers that are known -/
def mj_brb (q : MI) (s : MS) : Option MS :=
  match s with
  | (_, ls, st, h) => match q with
    | (i, n, _, a, _, _) => match i with
      | .ifCond cc _ => match st with
        | .inl x :: r => match cc with
          | .eq => some (cond (decide (x = 0)) (a, ls, r, h) (n, ls, r, h))
          | .ne => some (cond (decide (x = 0)) (n, ls, r, h) (a, ls, r, h))
          | .lt => some (cond (decide (x < 0)) (a, ls, r, h) (n, ls, r, h))
          | .ge => some (cond (decide (0 ≤ x)) (a, ls, r, h) (n, ls, r, h))
          | .gt => some (cond (decide (0 < x)) (a, ls, r, h) (n, ls, r, h))
          | .le => some (cond (decide (x ≤ 0)) (a, ls, r, h) (n, ls, r, h))
        | _ => none
      | .if_icmp cc _ => match st with
        | .inl y :: .inl x :: r => match cc with
          | .eq => some (cond (decide (x = y)) (a, ls, r, h) (n, ls, r, h))
          | .ne => some (cond (decide (x = y)) (n, ls, r, h) (a, ls, r, h))
          | .lt => some (cond (decide (x < y)) (a, ls, r, h) (n, ls, r, h))
          | .ge => some (cond (decide (y ≤ x)) (a, ls, r, h) (n, ls, r, h))
          | .gt => some (cond (decide (y < x)) (a, ls, r, h) (n, ls, r, h))
          | .le => some (cond (decide (x ≤ y)) (a, ls, r, h) (n, ls, r, h))
        | _ => none
      | _ => none
/-- a switch: where it goes -/
def mj_swi (y : Nat) (q : MI) (s : MS) : Option (Int32 × List (Int32 × Nat) × Nat × ML × List MV × MH) :=
  match s with
  | (pc, ls, st, h) => match q with
    | (i, _, _, _, _, _) => match i with
      | .tableswitch _ _ _ _ => match st with
        | .inl x :: r => match mj_sw y pc with
          | (l, d) => some (x, l, d, ls, r, h)
        | _ => none
      | _ => none
def mj_pop : Nat → List MV → List MV → Option (List MV × List MV)
  | 0, acc, st => some (acc, st)
  | n + 1, acc, v :: st => mj_pop n (v :: acc) st
  | _ + 1, _, [] => none
/-- a call: the method, its arguments, what is left -/
def mj_cll (q : MI) (s : MS) : Option (Nat × List MV × Nat × ML × List MV × MH) :=
  match s with
  | (_, ls, st, h) => match q with
    | (i, n, _, a, b, c) => match i with
      | .invokestatic _ => match a with
        | 0 => match mj_pop c [] st with
          | some (as, r) => cond (Nat.ble (r.map mj_cat).sum 8) (some (b, as, n, ls, r, h)) none
          | none => none
        | _ => none
      | .invokevirtual _ => match mj_pop c [] st with
        | some (as, .inr (.inr (t, i)) :: r) => cond (Nat.ble (r.map mj_cat).sum 8) (match a with
          | 1 => cond (Nat.beq (mj_mt b) t) (some (b, vR t i :: as, n, ls, r, h)) none
          | 2 => match mj_dsp b t with
            | some y => some (y, vR t i :: as, n, ls, r, h)
            | none => none
          | _ => none) none
        | _ => none
      | .invokespecial _ => match mj_pop c [] st with
        | some (as, .inr (.inr (t, i)) :: r) => cond (Nat.blt 0 (mj_tk t).1 && Nat.ble (r.map mj_cat).sum 8) (match a with
          | 3 => some (b, vR t i :: as, n, ls, r, h)
          | 4 => some (b, vR t i :: as, n, ls, r, h)
          | 6 => cond (Nat.ble 11 t && Nat.ble t 16) (some (b, vR t i :: as, n, ls, r, h)) none
          | _ => none) none
        | _ => none
      | _ => none
/-- an answer -/
def mj_ret (y : Nat) (q : MI) (s : MS) : Option (List Bool × Option MV × MH) :=
  match s with
  | (_, _, st, h) => match q with
    | (i, _, _, _, _, _) => match i with
      | .return_ => match st with
        | [] => some ([], none, h)
        | _ => none
      | .lreturn => match st with
        | [.inr (.inl x)] => some ([], some (vL x), h)
        | _ => none
      | .ireturn => match st with
        | [.inl x] => match mj_R y with
          | some .int => some ([], some (vI x), h)
          | some .boolean => some ([decide (x = 0 ∨ x = 1)], some (vI x), h)
          | some .byte => some ([decide (x.toInt8.toInt32 = x)], some (vI x), h)
          | some .char => some ([decide ((x.toUInt32 % 65536).toInt32 = x)], some (vI x), h)
          | _ => none
        | _ => none
      | _ => none
/-- a making: the cell's slots, the next state -/
def mj_mak (q : MI) (s : MS) : Option (Nat × MS) :=
  match s with
  | (_, ls, st, (ii, jj, rr, m)) => match q with
    | (i, n, _, a, _, _) => match mj_al[m]? with
      | none => none
      | some (t', k) => cond (Nat.beq a t') (match i with
        | .new _ => some ((mj_tk a).2.2, (n, ls, vR a k :: st, (upA ii a k (fun _ => 0), upA jj a k (fun _ => 0), upA rr a k (fun _ => (0, 0)), m + 1)))
        | .newarray _ => match st with
          | .inl x :: r => cond (decide (x = nI (mj_tk a).2.2)) (some ((mj_tk a).2.2, (n, ls, vR a k :: r, (upA ii a k (fun _ => 0), upA jj a k (fun _ => 0), upA rr a k (fun _ => (0, 0)), m + 1)))) none
          | _ => none
        | .anewarray _ => match st with
          | .inl x :: r => cond (decide (x = nI (mj_tk a).2.2)) (some ((mj_tk a).2.2, (n, ls, vR a k :: r, (upA ii a k (fun _ => 0), upA jj a k (fun _ => 0), upA rr a k (fun _ => (0, 0)), m + 1)))) none
          | _ => none
        | _ => none) none
/-- the locals at a method's entry -/
def mj_lay : List MV → Nat → Option ML
  | [], 0 => some []
  | [], n + 1 => match mj_lay [] n with
    | some r => some (none :: r)
    | none => none
  | .inr (.inl x) :: l, n + 2 => match mj_lay l n with
    | some r => some (some (.inr (.inl x)) :: none :: r)
    | none => none
  | .inl x :: l, n + 1 => match mj_lay l n with
    | some r => some (some (.inl x) :: r)
    | none => none
  | .inr (.inr x) :: l, n + 1 => match mj_lay l n with
    | some r => some (some (.inr (.inr x)) :: r)
    | none => none
  | _, _ => none
def mj_pus (r : Option MV) (st : List MV) : List MV := match r with
  | none => st
  | some v => v :: st
/-- the references as they stand behind the constructors: only the kinds of hats change -/
def mj_rk (kd : Nat → Nat) (t i k : Nat) : Nat × Nat :=
  match t with
  | 5 => match k with
    | 0 => (6, 0)
    | 1 => (17, 0)
    | 2 => (17, 1)
    | 3 => (17, 2)
    | 4 => (20, 24)
    | 5 => (20, 25)
    | 6 => (7, 0)
    | 7 => (9, 0)
    | 8 => (10, 0)
    | _ => (0, 0)
  | 6 => (k + 11, 0)
  | 7 => (8, 0)
  | 9 => (23, k)
  | 11 => (3, 0)
  | 12 => (3, 1)
  | 13 => (3, 2)
  | 14 => (3, 3)
  | 15 => (3, 4)
  | 16 => (3, 5)
  | 17 => match k with
    | 0 => (18, i)
    | 1 => (19, i)
    | _ => (0, 0)
  | 18 => match i with
    | 0 => (20, k)
    | 1 => (20, k + 8)
    | _ => (20, k + 16)
  | 19 => match i with
    | 0 => (22, k)
    | 1 => (22, k + 6)
    | _ => (22, k + 12)
  | 20 => match k with
    | 0 => (21, i)
    | 1 => (kd i + 11, 0)
    | _ => (0, 0)
  | 23 => (24, i)
  | 25 => match k with
    | 0 => (26, 0)
    | 1 => (27, 0)
    | 2 => (28, 0)
    | 4 => (29, 0)
    | 5 => (30, 0)
    | 12 => (31, 0)
    | 13 => (32, 0)
    | 14 => (33, 0)
    | _ => (0, 0)
  | _ => (0, 0)
def mj_arc : List String := ["HeadHats$HatKind", "HeadHats$Sheet", "HeadHats$Hat", "HeadHats$Head"]
def mj_Wg : List Cond := lw_tbl.filter goodWord
def mj_wd (y : Nat) : List Cond := Cond.code (mj_N y) (mj_B y) (mj_L y) (mj_R y) :: mj_Wg
