/-! THE CONSTRUCTORS, by evaluation -/
def mj_h0 : MH := (fun _ _ _ => 0, fun _ _ _ => 0, fun _ _ _ => (0, 0), 1)
def mj_rA : Option (Option MV × MH × Nat × Nat) := mj_run 6000 8 72 (0, [some (vR 5 0), none], [], mj_h0)
def mj_hA : MH := match mj_rA with
  | some z => z.2.1
  | none => mj_h0
def mj_ok4 (z : Option (Option MV × MH × Nat × Nat)) (n a b : Nat) : Bool := match z with
  | some (none, h, a', b') => Nat.beq h.2.2.2 n && Nat.beq a a' && Nat.beq b b'
  | _ => false
set_option maxRecDepth 1000000 in
theorem mj_rAc : mj_ok4 mj_rA 99 98 830 = true := by decide +kernel
def mj_hB0 : MH := (upA mj_hA.1 25 0 (fun _ => 0), upA mj_hA.2.1 25 0 (fun _ => 0), upA mj_hA.2.2.1 25 0 (fun _ => (0, 0)), 100)
def mj_rB : Option (Option MV × MH × Nat × Nat) := mj_run 300 8 130 (0, [some (vR 25 0)], [], mj_hB0)
def mj_hB : MH := match mj_rB with
  | some z => z.2.1
  | none => mj_hB0
/-- the ints as they stand behind the constructors -/
def mj_iN (t _i k : Nat) : Int32 := match t with
  | 7 => match k with
    | 2 => 4
    | _ => 0
  | 12 => match k with
    | 0 => 1
    | _ => 0
  | 13 => match k with
    | 0 => 2
    | _ => 0
  | 14 => match k with
    | 0 => 3
    | _ => 0
  | 15 => match k with
    | 0 => 4
    | _ => 0
  | 16 => match k with
    | 0 => 5
    | _ => 0
  | 20 => match k with
    | 2 => 5
    | _ => 0
  | _ => 0
def mj_agree (h : MH) (r : Nat × Nat) : Bool := match mj_tk r.1 with
  | (1, ci, n) => (List.range n).all (fun j => match mj_fr ci j with
    | true => decide (mj_rk (fun _ => 0) r.1 r.2 j = h.2.2.1 r.1 r.2 j)
    | false => decide (mj_iN r.1 r.2 j = h.1 r.1 r.2 j))
  | (2, _, n) => (List.range n).all (fun j => decide (mj_iN r.1 r.2 j = h.1 r.1 r.2 j))
  | (3, _, n) => (List.range n).all (fun j => decide ((0 : Int64) = h.2.1 r.1 r.2 j))
  | (_, _, n) => (List.range n).all (fun j => decide (mj_rk (fun _ => 0) r.1 r.2 j = h.2.2.1 r.1 r.2 j))
set_option maxRecDepth 1000000 in
theorem mj_rBc : mj_ok4 mj_rB 108 8 697 = true := by decide +kernel
set_option maxRecDepth 1000000 in
theorem mj_agr : (List.range 108).all (fun k => mj_agree mj_hB (mj_at k)) = true := by decide +kernel
def mj_okrb (r : Nat × Nat) : Bool := Nat.beq r.1 0 || (Nat.beq r.1 3 && Nat.blt r.2 13) || mj_al.contains r
set_option maxRecDepth 1000000 in
theorem mj_okN : (List.range 108).all (fun k => (List.range (mj_tk (mj_at k).1).2.2).all (fun j => mj_okrb (mj_rk (fun _ => 0) (mj_at k).1 (mj_at k).2 j))) = true := by decide +kernel
