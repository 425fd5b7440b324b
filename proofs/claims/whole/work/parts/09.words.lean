/-! THE TABLES ARE RIGHT: each row is the instruction that the bytes decode to, and its words stand in the statement's tables -/
def mj_inT (i : Nat) (w : Cond) : Bool := decide (lw_tbl[i]? = some w) && goodWord w
theorem mj_inT_mem {i : Nat} {w : Cond} (h : mj_inT i w = true) : w ∈ mj_Wg := by
  unfold mj_inT at h
  simp only [Bool.and_eq_true, decide_eq_true_eq] at h
  exact List.mem_filter.mpr ⟨List.mem_of_getElem? h.1, h.2⟩
def mj_tyk : FieldType → Nat
  | .int => 0
  | .boolean => 2
  | .object _ => 1
  | .array _ => 1
  | _ => 9
/-- the class of a tag's cells -/
def mj_tcn (t : Nat) : String := cond (Nat.beq t 3) "java/lang/String" (mj_cn (mj_tk t).2.1)
def mj_en (e : Nat) : String := mj_arc.getD (e - 2) ""
def mj_ckn (b c : Nat) : Bool := Nat.blt b mj_nm && decide ((parseMethodDescriptor (mj_N b).desc).map (fun d => d.parameters.length) = some c)
def mj_ckf (own : String) (x a b c : Nat) (ps : List Nat) : Bool :=
  (match ps.getD 1 0 with
    | 0 => mj_inT (ps.getD 0 0) (.fieldLink own x (mj_T (mj_tk a).2.1 b).1 (mj_T (mj_tk a).2.1 b).2.1 (mj_T (mj_tk a).2.1 b).2.2.1)
    | _ => decide (mj_nst[ps.getD 0 0]? = some (.fieldLinkNest own x (mj_T (mj_tk a).2.1 b).1 (mj_T (mj_tk a).2.1 b).2.1 (mj_T (mj_tk a).2.1 b).2.2.1 "HeadHats"))) &&
  decide ((mj_tk a).1 = 1) && Nat.blt b (mj_tk a).2.2 && decide (mj_tyk (mj_Ty (mj_tk a).2.1 b) = c)
def mj_cks (pc : Nat) (lo : Int) : Nat → List Int → List (Int32 × Nat) → Bool
  | _, [], [] => true
  | j, o :: l, (k, t) :: r => decide (k.toInt = lo + j) && decide ((pc : Int) + o = (t : Int)) && mj_cks pc lo (j + 1) l r
  | _, _, _ => false
def mj_ck (y pc : Nat) (q : MI) (ps : List Nat) : Bool := match q with
  | (i, _, w, a, b, c) => (match i with
    | .iconst k => decide (Int32.ofInt k = w)
    | .bipush k => decide ((Int8.ofInt k).toInt32 = w)
    | .sipush k => decide ((Int16.ofInt k).toInt32 = w)
    | .ldc x => match a with
      | 0 => mj_inT (ps.getD 0 0) (.constant (mj_N y).cls x w)
      | _ => decide ((mj_srf[b]?).map (fun z => (z.1, z.2.1)) = some ((mj_N y).cls, x))
    | .ldc_w x => mj_inT (ps.getD 0 0) (.constant (mj_N y).cls x w)
    | .ldc2_w x => mj_inT (ps.getD 0 0) (.constantLong (mj_N y).cls x (lN a))
    | .lconst k => decide (Int64.ofNat k.val = lN a)
    | .iload_n k => decide (k.val = a)
    | .lload_n k => decide (k.val = a)
    | .aload_n k => decide (k.val = a)
    | .istore_n k => decide (k.val = a)
    | .astore_n k => decide (k.val = a)
    | .iload k => decide (k = a)
    | .lload k => decide (k = a)
    | .aload k => decide (k = a)
    | .istore k => decide (k = a)
    | .astore k => decide (k = a)
    | .lstore k => decide (k = a)
    | .iinc k z => decide (k = a) && decide (Int32.ofInt z = w)
    | .goto o => decide ((pc : Int) + o = (a : Int))
    | .ifCond _ o => decide ((pc : Int) + o = (a : Int))
    | .if_icmp _ o => decide ((pc : Int) + o = (a : Int))
    | .tableswitch d lo hi offs => decide ((pc : Int) + d = ((mj_sw y pc).2 : Int)) && decide (hi = lo + (offs.size : Int) - 1) && mj_cks pc lo 0 offs.toList (mj_sw y pc).1
    | .getfield x => match a with
      | 3 => match b with
        | 0 => mj_inT (ps.getD 0 0) (.fieldLink (mj_N y).cls x "java/lang/String" "value" "[B")
        | _ => mj_inT (ps.getD 0 0) (.fieldLink (mj_N y).cls x "java/lang/String" "coder" "B")
      | _ => mj_ckf (mj_N y).cls x a b c ps
    | .putfield x => mj_ckf (mj_N y).cls x a b c ps && !Nat.beq a 3 && (match (mj_T (mj_tk a).2.1 b).2.2.2 with
      | true => decide ((mj_N y).name = "<init>") && decide ((mj_T (mj_tk a).2.1 b).1 = (mj_N y).cls) && decide (ps.getD 1 0 = 0)
      | false => true)
    | .getstatic x => match a with
      | 0 => mj_inT (ps.getD 0 0) (.fieldLink (mj_N y).cls x "java/lang/String" "COMPACT_STRINGS" "Z") && decide (w = 1)
      | 1 => mj_inT (ps.getD 0 0) (.fieldLink (mj_N y).cls x "HeadHatsModel" "NAMES" "[I")
      | _ => mj_inT (ps.getD 0 0) (.fieldLink (mj_N y).cls x "jdk/internal/util/Preconditions" "SIOOBE_FORMATTER" "Ljava/util/function/BiFunction;")
    | .invokestatic x => match a with
      | 0 => mj_inT (ps.getD 0 0) (.methodLink (mj_N y).cls x (mj_N b)) && mj_inT (ps.getD 1 0) (.static (mj_N b)) && mj_inT (ps.getD 2 0) (.initialized (mj_N b).cls) && mj_ckn b c
      | 8 => mj_inT (ps.getD 0 0) (.methodLink (mj_N y).cls x Lib.Math.max.name) && mj_inT (ps.getD 1 0) (.static Lib.Math.max.name) && mj_inT (ps.getD 2 0) (.initialized "java/lang/Math") && mj_inT (ps.getD 3 0) (.code Lib.Math.max.name Lib.Math.max.code 2 (some .int))
      | 9 => mj_inT (ps.getD 0 0) (.methodLink (mj_N y).cls x Lib.Math.min.name) && mj_inT (ps.getD 1 0) (.static Lib.Math.min.name) && mj_inT (ps.getD 2 0) (.initialized "java/lang/Math") && mj_inT (ps.getD 3 0) (.code Lib.Math.min.name Lib.Math.min.code 2 (some .int))
      | _ => mj_inT (ps.getD 0 0) (.methodLink (mj_N y).cls x arraycopyName) && mj_inT (ps.getD 1 0) (.native arraycopyName) && mj_inT (ps.getD 2 0) (.static arraycopyName) && mj_inT (ps.getD 3 0) (.initialized "java/lang/System")
    | .invokevirtual x => match a with
      | 1 => mj_inT (ps.getD 0 0) (.methodLink (mj_N y).cls x (mj_N b)) && mj_inT (ps.getD 1 0) (.instanceMethod (mj_N b)) && mj_inT (ps.getD 2 0) (.selects (mj_N b).cls (mj_N b) (mj_N b)) && mj_inT (ps.getD 3 0) (.initialized (mj_N b).cls) && mj_ckn b c && decide (mj_tcn (mj_mt b) = (mj_N b).cls)
      | _ => mj_inT (ps.getD 0 0) (.methodLink (mj_N y).cls x (mj_N (mj_dx b))) && mj_inT (ps.getD 1 0) (.sameMethod (mj_N (mj_dx b)).cls (mj_N (mj_dx b)).cls (mj_N (mj_dx b)).name (mj_N (mj_dx b)).desc) && mj_inT (ps.getD 2 0) (.instanceMethod (mj_N (mj_dx b))) && mj_ckn (mj_dx b) c && Nat.blt b 5
    | .invokespecial x => match a with
      | 5 => mj_inT (ps.getD 0 0) (.methodLink (mj_N y).cls x objectInit) && mj_inT (ps.getD 1 0) (.instanceMethod objectInit) && mj_inT (ps.getD 2 0) (.code objectInit ⟨#[0xb1]⟩ 1 none)
      | 3 => mj_inT (ps.getD 0 0) (.methodLink (mj_N y).cls x (mj_N b)) && mj_inT (ps.getD 1 0) (.instanceMethod (mj_N b)) && mj_inT (ps.getD 2 0) (.initialized (mj_N b).cls) && decide ((mj_N b).name = "<init>") && decide (mj_R b = none) && mj_ckn b c
      | 4 => decide (mj_nst[ps.getD 0 0]? = some (.methodLinkNest (mj_N y).cls x (mj_N b) "HeadHats")) && mj_inT (ps.getD 1 0) (.instanceMethod (mj_N b)) && mj_inT (ps.getD 2 0) (.initialized (mj_N b).cls) && decide ((mj_N b).name = "<init>") && decide (mj_R b = none) && mj_ckn b c
      | _ => mj_inT (ps.getD 0 0) (.methodLink (mj_N y).cls x (mj_N b)) && mj_inT (ps.getD 1 0) (.sameMethod (mj_N b).cls (mj_N b).cls (mj_N b).name (mj_N b).desc) && mj_inT (ps.getD 2 0) (.superclass (mj_N y).cls (mj_N b).cls) && mj_inT (ps.getD 3 0) (.instanceMethod (mj_N b)) && mj_inT (ps.getD 4 0) (.initialized (mj_N b).cls) && decide ((mj_N b).name ≠ "<init>") && mj_ckn b c
    | .new x => decide ((mj_tk a).1 = 1) && mj_inT (ps.getD 0 0) (.classLink (mj_N y).cls x (mj_cn (mj_tk a).2.1)) && mj_inT (ps.getD 1 0) (.instantiable (mj_cn (mj_tk a).2.1) (mj_tk a).2.2) && mj_inT (ps.getD 2 0) (.initialized (mj_cn (mj_tk a).2.1))
    | .newarray ty => (decide ((mj_tk a).1 = 2 ∧ newarray.typeOf ty = .int) || decide ((mj_tk a).1 = 3 ∧ newarray.typeOf ty = .long)) && mj_inT (ps.getD 0 0) (.arrayClass (newarray.typeOf ty))
    | .return_ => decide (mj_R y = none)
    | .lreturn => decide (mj_R y = some .long)
    | .anewarray x => decide ((mj_tk a).1 = 4) && mj_inT (ps.getD 0 0) (.classLink (mj_N y).cls x (mj_en (mj_tk a).2.1))
    | _ => true)
def mj_ckw (y : Nat) : Bool := (List.range (mj_Z y)).all (fun pc => match mj_ins y pc with
  | none => true
  | some q => mj_ck y pc q (mj_pos y pc))
