/-! WHAT HOLDS AT THE LAW'S ENTRY -/
def R_law : String := "HeadHatsLaw"
def lw_P (b : Addr) (xs : List Int32) (args : Array Value) (s : State) : Prop := args = #[.ref b] ∧ s.IntsAt b xs ∧ xs.length ≤ 3072 ∧ (Jvm.Cond.and given_1 narrow_1).before args s = true
def lw_Q (_ : Array Value) (s : State) (o : Outcome) (t : State) : Prop := o = .returned (some (.int 1)) ∧ Framed s o t [] 600000 7302250
def lw_Z (below : List Frame) (a : Array Value) (s : State) : State → Prop := fun t => ∃ o, t.status = .running ∧ Ended t below o ∧ lw_Q a s o t
def lw_At (p : Program) (s : State) (m : MethodId) (meth : Method) (c : Code) (b L : Nat) (xs : Nat → Int32) : Prop :=
  p.tables.exec = Jvm.exec ∧ c.code = code ∧ meth.sig.returnType = ret ∧ c.maxLocals = 4 ∧ s.vm.findClass R_law = some m.cls ∧ (∀ w ∈ lw_tbl, w.before #[Value.ref b] s = true) ∧ va_X b L xs s s.heap ∧ b < s.heap.size ∧ meth.locks = false ∧ (Jvm.Cond.and given_1 narrow_1).before #[Value.ref b] s = true
def mj_tm (i : Nat) : Term := match mj_srf[i]? with
  | some (o, k, _) => .string o k
  | none => .string "" 0
def mj_fl : List Cond := flatC (Jvm.Cond.and given_1 narrow_1)
set_option maxRecDepth 1000000 in
theorem mj_n1 : ∀ i, i < 13 → Cond.exactly (mj_tm i) "java/lang/String" ∈ mj_fl := by decide +kernel
set_option maxRecDepth 1000000 in
theorem mj_n2 : ∀ i, i < 13 → Cond.eq (.field (mj_tm i) "java/lang/String" "coder" "B") (.int 0) ∈ mj_fl := by decide +kernel
set_option maxRecDepth 1000000 in
theorem mj_n3 : ∀ i, i < 13 → Cond.arrayOf (.field (mj_tm i) "java/lang/String" "value" "[B") .byte ∈ mj_fl := by decide +kernel
set_option maxRecDepth 1000000 in
theorem mj_n4 : ∀ i, i < 13 → Cond.eq (.length (.field (mj_tm i) "java/lang/String" "value" "[B")) (.int (Int32.ofNat ((mj_strs.map List.length).getD i 0))) ∈ mj_fl := by decide +kernel
set_option maxRecDepth 1000000 in
theorem mj_n5 : ∀ i, i < 13 → ∀ j, j < (mj_strs.map List.length).getD i 0 → Cond.eq (.elem (.field (mj_tm i) "java/lang/String" "value" "[B") (.int (Int32.ofNat j))) (.int ((mj_strs.getD i []).getD j 0)) ∈ mj_fl := by decide +kernel
def mj_np : List (List Nat) := [[0, 165, 175, 188, 200, 212, 226, 242, 257, 272, 289, 308, 327], [165, 0, 176, 189, 201, 213, 227, 243, 258, 273, 290, 309, 328], [175, 176, 0, 190, 202, 214, 228, 244, 259, 274, 291, 310, 329], [188, 189, 190, 0, 203, 215, 229, 245, 260, 275, 292, 311, 330], [200, 201, 202, 203, 0, 216, 230, 246, 261, 276, 293, 312, 331], [212, 213, 214, 215, 216, 0, 231, 247, 262, 277, 294, 313, 332], [226, 227, 228, 229, 230, 231, 0, 248, 263, 278, 295, 314, 333], [242, 243, 244, 245, 246, 247, 248, 0, 264, 279, 296, 315, 334], [257, 258, 259, 260, 261, 262, 263, 264, 0, 280, 297, 316, 335], [272, 273, 274, 275, 276, 277, 278, 279, 280, 0, 298, 317, 336], [289, 290, 291, 292, 293, 294, 295, 296, 297, 298, 0, 318, 337], [308, 309, 310, 311, 312, 313, 314, 315, 316, 317, 318, 0, 338], [327, 328, 329, 330, 331, 332, 333, 334, 335, 336, 337, 338, 0]]
def mj_nq (i j : Nat) : Bool := Nat.beq i j || decide (mj_fl[(mj_np.getD i []).getD j 0]? = some (Cond.not (Cond.eq (mj_tm i) (mj_tm j)))) || decide (mj_fl[(mj_np.getD i []).getD j 0]? = some (Cond.not (Cond.eq (mj_tm j) (mj_tm i))))
set_option maxRecDepth 1000000 in
theorem mj_nr0 : (List.range 13).all (fun j => mj_nq 0 j) = true := by decide +kernel
set_option maxRecDepth 1000000 in
theorem mj_nr1 : (List.range 13).all (fun j => mj_nq 1 j) = true := by decide +kernel
set_option maxRecDepth 1000000 in
theorem mj_nr2 : (List.range 13).all (fun j => mj_nq 2 j) = true := by decide +kernel
set_option maxRecDepth 1000000 in
theorem mj_nr3 : (List.range 13).all (fun j => mj_nq 3 j) = true := by decide +kernel
set_option maxRecDepth 1000000 in
theorem mj_nr4 : (List.range 13).all (fun j => mj_nq 4 j) = true := by decide +kernel
set_option maxRecDepth 1000000 in
theorem mj_nr5 : (List.range 13).all (fun j => mj_nq 5 j) = true := by decide +kernel
set_option maxRecDepth 1000000 in
theorem mj_nr6 : (List.range 13).all (fun j => mj_nq 6 j) = true := by decide +kernel
set_option maxRecDepth 1000000 in
theorem mj_nr7 : (List.range 13).all (fun j => mj_nq 7 j) = true := by decide +kernel
set_option maxRecDepth 1000000 in
theorem mj_nr8 : (List.range 13).all (fun j => mj_nq 8 j) = true := by decide +kernel
set_option maxRecDepth 1000000 in
theorem mj_nr9 : (List.range 13).all (fun j => mj_nq 9 j) = true := by decide +kernel
set_option maxRecDepth 1000000 in
theorem mj_nr10 : (List.range 13).all (fun j => mj_nq 10 j) = true := by decide +kernel
set_option maxRecDepth 1000000 in
theorem mj_nr11 : (List.range 13).all (fun j => mj_nq 11 j) = true := by decide +kernel
set_option maxRecDepth 1000000 in
theorem mj_nr12 : (List.range 13).all (fun j => mj_nq 12 j) = true := by decide +kernel
theorem mj_nra (i : Nat) (h : i < 13) : (List.range 13).all (fun j => mj_nq i j) = true := by
  match i, h with
  | 0, _ => exact mj_nr0
  | 1, _ => exact mj_nr1
  | 2, _ => exact mj_nr2
  | 3, _ => exact mj_nr3
  | 4, _ => exact mj_nr4
  | 5, _ => exact mj_nr5
  | 6, _ => exact mj_nr6
  | 7, _ => exact mj_nr7
  | 8, _ => exact mj_nr8
  | 9, _ => exact mj_nr9
  | 10, _ => exact mj_nr10
  | 11, _ => exact mj_nr11
  | 12, _ => exact mj_nr12
  | n + 13, h => omega
theorem mj_n6 (i : Nat) (hi : i < 13) (j : Nat) (hj : j < 13) (hne : i ≠ j) : Cond.not (Cond.eq (mj_tm i) (mj_tm j)) ∈ mj_fl ∨ Cond.not (Cond.eq (mj_tm j) (mj_tm i)) ∈ mj_fl := by
  have h := List.all_eq_true.mp (mj_nra i hi) j (List.mem_range.mpr hj)
  unfold mj_nq at h
  simp only [Bool.or_eq_true, decide_eq_true_eq] at h
  rcases h with (h | h) | h
  · exact absurd (Nat.eq_of_beq_eq_true h) hne
  · exact Or.inl (List.mem_of_getElem? h)
  · exact Or.inr (List.mem_of_getElem? h)
set_option maxRecDepth 1000000 in
theorem mj_n7 : ∀ j, j < 91 → Cond.eq (.elem (.static "HeadHatsModel" "NAMES" "[I") (.int (Int32.ofNat j))) (.int (mj_nam j)) ∈ mj_fl := by decide +kernel
set_option maxRecDepth 1000000 in
theorem mj_n8 : Cond.arrayOf (.static "HeadHatsModel" "NAMES" "[I") .int ∈ mj_fl ∧ Cond.eq (.length (.static "HeadHatsModel" "NAMES" "[I")) (.int 91) ∈ mj_fl ∧ Cond.eq (.static "java/lang/String" "COMPACT_STRINGS" "Z") (.int 1) ∈ mj_fl ∧ Cond.isRef (.static "jdk/internal/util/Preconditions" "SIOOBE_FORMATTER" "Ljava/util/function/BiFunction;") ∈ mj_fl := by decide +kernel
set_option maxRecDepth 1000000 in
theorem mj_t1 : Cond.laysStatic "HeadHatsModel" "NAMES" "[I" ∈ lw_tbl ∧ Cond.initialized "HeadHatsModel" ∈ lw_tbl ∧ Cond.laysStatic "java/lang/String" "COMPACT_STRINGS" "Z" ∈ lw_tbl ∧ Cond.initialized "java/lang/String" ∈ lw_tbl ∧ Cond.laysStatic "jdk/internal/util/Preconditions" "SIOOBE_FORMATTER" "Ljava/util/function/BiFunction;" ∈ lw_tbl ∧ Cond.initialized "jdk/internal/util/Preconditions" ∈ lw_tbl ∧ Cond.arrayClass .int ∈ lw_tbl ∧ Cond.arrayClass .long ∈ lw_tbl := by decide +kernel
set_option maxRecDepth 1000000 in
theorem mj_t2 : ∀ ci, ci < 13 → Cond.instantiable (mj_cn ci) (mj_cf ci) ∈ lw_tbl := by decide +kernel
set_option maxRecDepth 1000000 in
theorem mj_t3 : mj_nst.all (fun w => decide (w ∈ lw_tbl)) = true := by decide +kernel
set_option maxRecDepth 1000000 in
theorem mj_t4 : mj_cst.all (fun c => decide (Cond.castable c "HeadHats$HatKind" ∈ lw_tbl)) = true := by decide +kernel
set_option maxRecDepth 1000000 in
theorem mj_t5 : mj_arc.all (fun c => decide (Cond.arrayOver (.object c) ∈ lw_tbl)) = true := by decide +kernel
set_option maxRecDepth 1000000 in
theorem mj_t6 : mj_srf.all (fun z => decide (Cond.stringRef z.1 z.2.1 z.2.2 ∈ lw_tbl)) = true := by decide +kernel
