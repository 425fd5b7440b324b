/-! THE PICTURE AND THE REAL HEAP -/
/-- what stays the same: the classes' numbers, their slots, the array classes, the constants' cells and rows, the script's cell, the names' cell, the formatter, where our cells begin, the script's length and its ints, whether it may be read -/
abbrev FX : Type := (Nat → ClassId) × (Nat → Nat → Nat) × (Nat → ClassId) × (Nat → Nat) × (Nat → Nat) × Nat × Nat × Option Nat × Nat × Nat × (Nat → Int32) × Bool
def fx_D (X : FX) : va_G := (X.1, X.2.1)
def fx_A (X : FX) : Nat → ClassId := X.2.2.1
def fx_S (X : FX) : Nat → Nat := X.2.2.2.1
def fx_V (X : FX) : Nat → Nat := X.2.2.2.2.1
def fx_b (X : FX) : Nat := X.2.2.2.2.2.1
def fx_n (X : FX) : Nat := X.2.2.2.2.2.2.1
def fx_o (X : FX) : Option Nat := X.2.2.2.2.2.2.2.1
def fx_0 (X : FX) : Nat := X.2.2.2.2.2.2.2.2.1
def fx_L (X : FX) : Nat := X.2.2.2.2.2.2.2.2.2.1
def fx_x (X : FX) : Nat → Int32 := X.2.2.2.2.2.2.2.2.2.2.1
/-- the script may be read -/
def fx_g (X : FX) : Bool := X.2.2.2.2.2.2.2.2.2.2.2
def fx_P (X : FX) : Nat → Prop := fun q => fx_0 X ≤ q
def mj_adr (X : FX) (ad : Nat → Nat) (r : Nat × Nat) : Nat := match r.1 with
  | 1 => fx_b X
  | 2 => fx_n X
  | 3 => fx_S X r.2
  | 4 => fx_V X r.2
  | _ => ad (mj_al.idxOf r)
def mj_orf (X : FX) (ad : Nat → Nat) (r : Nat × Nat) : Option Nat := match r.1 with
  | 0 => none
  | 34 => fx_o X
  | _ => some (mj_adr X ad r)
def mj_tr (X : FX) (ad : Nat → Nat) : MV → Value
  | .inl x => .int x
  | .inr (.inl x) => .long x
  | .inr (.inr r) => va_rf (mj_orf X ad r)
def mj_fv (X : FX) (ad : Nat → Nat) (h : MH) (ci : Nat) (r : Nat × Nat) (k : Nat) : Value := match mj_fr ci k with
  | true => va_rf (mj_orf X ad (h.2.2.1 r.1 r.2 k))
  | false => .int (h.1 r.1 r.2 k)
def mj_cel (X : FX) (ad : Nat → Nat) (h : MH) (r : Nat × Nat) : va_E := match mj_tk r.1 with
  | (1, ci, n) => .inr (ci, (List.range n).map (mj_fv X ad h ci r))
  | (2, _, n) => .inl (fx_A X 0, n, .inl (h.1 r.1 r.2))
  | (3, _, n) => .inl (fx_A X 1, n, .inr (.inl (h.2.1 r.1 r.2)))
  | (_, e, n) => .inl (fx_A X e, n, .inr (.inr (.inr (.inr (fun j => mj_orf X ad (h.2.2.1 r.1 r.2 j))))))
def mj_at (k : Nat) : Nat × Nat := mj_al.getD k (0, 0)
def mj_ws (X : FX) (ad : Nat → Nat) (h : MH) : va_W := (List.range h.2.2.2).map (fun k => (ad k, mj_cel X ad h (mj_at k)))
/-- a reference that may stand somewhere, with n cells made -/
def mj_okr (X : FX) (n : Nat) (r : Nat × Nat) : Prop := r.1 = 0 ∨ r.1 = 34 ∨ (r = (1, 0) ∧ fx_g X = true) ∨ r = (2, 0) ∨ ((r.1 = 3 ∨ r.1 = 4) ∧ r.2 < 13) ∨ ∃ k, k < n ∧ mj_al[k]? = some r
def mj_okv (X : FX) (n : Nat) : MV → Prop
  | .inr (.inr r) => mj_okr X n r
  | _ => True
def mj_okh (X : FX) (h : MH) : Prop := ∀ (k : Nat) (r : Nat × Nat), k < h.2.2.2 → mj_al[k]? = some r → ∀ j, j < (mj_tk r.1).2.2 → mj_okr X h.2.2.2 (h.2.2.1 r.1 r.2 j)
def mj_scr (X : FX) (h : MH) : Prop := fx_g X = true → (∀ j, j < fx_L X → h.1 1 0 j = fx_x X j) ∧ h.1 1 1 0 = Int32.ofNat (fx_L X) ∧ fx_L X < 2 ^ 31
def mj_lv (X : FX) (ad : Nat → Nat) (ls : ML) : List (Nat × Value) := (List.range ls.length).filterMap (fun j => (mj_nth ls j).map (fun v => (j, mj_tr X ad v)))
def mj_tys (X : FX) : List (ClassId × FieldType) := [(fx_A X 0, .int), (fx_A X 1, .long), (fx_A X 2, .object "HeadHats$HatKind"), (fx_A X 3, .object "HeadHats$Sheet"), (fx_A X 4, .object "HeadHats$Hat"), (fx_A X 5, .object "HeadHats$Head")]
def mj_cst : List String := ["HeadHats$Felt", "HeadHats$Straw", "HeadHats$Feather", "HeadHats$Mitre", "HeadHats$Brim"]
/-- what the tables say, as far as it isn't in the words -/
def mj_Kn (X : FX) (U : State) : Prop := va_K (fx_D X) mj_cl (mj_tys X) U ∧ (∀ w ∈ mj_nst, va_Nw w U) ∧ (∀ c ∈ mj_cst, va_Nw (.castable c "HeadHats$HatKind") U) ∧ (∀ c ∈ mj_arc, va_AO c U) ∧
  ∀ (i : Nat) (o : String) (k : Nat) (tx : String), mj_srf[i]? = some (o, k, tx) → vk_R o k tx (fx_S X i) U
/-- what stands outside of our cells -/
def mj_Out (X : FX) (U : State) : Prop := vk_S 13 (mj_strs.map List.length) mj_strs (fx_S X) (fx_V X) (fx_P X) U U.heap ∧ (fx_g X = true → va_X (fx_b X) (fx_L X) (fx_x X) U U.heap ∧ fx_b X < U.heap.size ∧ ¬ fx_P X (fx_b X)) ∧
  va_T .int (fx_n X) 91 (fun j => .int (mj_nam j)) (fx_P X) U U.heap ∧ va_Z "HeadHatsModel" "NAMES" "[I" (.ref (fx_n X)) (fx_P X) U U.heap ∧ va_Z "java/lang/String" "COMPACT_STRINGS" "Z" (.int 1) (fx_P X) U U.heap ∧
  va_Z "jdk/internal/util/Preconditions" "SIOOBE_FORMATTER" "Ljava/util/function/BiFunction;" (va_rf (fx_o X)) (fx_P X) U U.heap ∧ fx_0 X ≤ U.heap.size
/-- the heap holds the picture -/
def mj_Hp (X : FX) (ad : Nat → Nat) (h : MH) (H : Heap) : Prop := va_P (fx_D X) mj_cl (mj_ws X ad h) H ∧ va_D (fx_P X) (mj_ws X ad h) ∧ mj_okh X h ∧ mj_scr X h ∧ h.2.2.2 ≤ 108
def mj_rm (d mc ms : Nat) : Room := { frames := d + 2, cells := mc, slots := ms, locals := 64 * d + 128 }
/-- an activation of method y: what stays the same -/
def mj_C (X : FX) (d y : Nat) (p : Program) (R : Room) (st : State) (m : MethodId) (args : Array Value) (meth : Method) (c : Code) : Prop :=
  p.tables.exec = Jvm.exec ∧ c.code = mj_B y ∧ c.maxLocals = mj_L y ∧ st.vm.findClass (mj_N y).cls = some m.cls ∧ (∀ w ∈ mj_Wg, w.before args st = true) ∧ ((mj_N y).name = "<init>" → meth.name = "<init>") ∧ d + 2 ≤ R.frames ∧ 64 * d + 128 ≤ R.locals ∧ mj_Kn X st ∧ mj_Out X st
/-- .. and what its state is -/
def mj_I (X : FX) (ad : Nat → Nat) (y : Nat) (s : MS) (st : State) (H : Heap) (locs : List Loc) (lsR : Array Slot) : Prop :=
  mj_Hp X ad s.2.2.2 H ∧ va_S (fx_P X) st.heap H locs ∧ s.2.1.length = mj_L y ∧ lv_has lsR (mj_L y) (mj_lv X ad s.2.1) ∧ (∀ v ∈ s.2.2.1, mj_okv X s.2.2.2.2.2.2 v) ∧ ∀ j v, mj_nth s.2.1 j = some v → mj_okv X s.2.2.2.2.2.2 v
def mj_rI (y pc : Nat) (r : Option MV) : Prop := match r with
  | none => mj_R y = none ∧ decode (mj_B y) pc = .ok (.return_, 1)
  | some (.inl x) => (∃ ty, mj_R y = some ty ∧ narrow ty (.int x) = .int x) ∧ decode (mj_B y) pc = .ok (.ireturn, 1)
  | some (.inr (.inl _)) => mj_R y = some .long ∧ decode (mj_B y) pc = .ok (.lreturn, 1)
  | some (.inr (.inr _)) => False
/-- from a state of method y's activation: it answers r, the picture is h'; at most mc cells of ms slots are new; d calls deep at most -/
def GB (l : Launch) (X : FX) (d mc ms y : Nat) (s : MS) (r : Option MV) (h' : MH) : Prop :=
  ∀ (p : Program) (e : Env) (R : Room) (st : State) (m : MethodId) (args : Array Value) (below : List Frame) (meth : Method) (c : Code) (H : Heap) (locs : List Loc) (cells slots : Nat) (Q : State → Prop) (ad : Nat → Nat) (lsR : Array Slot),
    mj_C X d y p R st m args meth c → cells + mc ≤ R.cells → slots + ms ≤ R.slots → mj_I X ad y s st H locs lsR →
    (∀ (ad' : Nat → Nat) (H' : Heap) (locs' : List Loc) (pc' : Nat) (ls' : Array Slot), (∀ k, k < s.2.2.2.2.2.2 → ad' k = ad k) → s.2.2.2.2.2.2 ≤ h'.2.2.2 → mj_Hp X ad' h' H' → va_S (fx_P X) st.heap H' locs' → (∀ v, r = some v → mj_okv X h'.2.2.2 v) → mj_rI y pc' r →
      W p l e R st m args below meth c H' locs' (cells + mc) (slots + ms) Q (F0 m pc' ls' ((mj_pus r []).map (mj_tr X ad')))) →
    W p l e R st m args below meth c H locs cells slots Q (F0 m s.1 lsR (s.2.2.1.map (mj_tr X ad)))
def mj_Qc (X : FX) (ad : Nat → Nat) (h : MH) (r : Option MV) (h' : MH) : Array Value → State → Outcome → State → Prop := fun _ st oc t =>
  (∃ ad' : Nat → Nat, (∀ k, k < h.2.2.2 → ad' k = ad k) ∧ h.2.2.2 ≤ h'.2.2.2 ∧ oc = .returned (r.map (mj_tr X ad')) ∧ mj_Hp X ad' h' t.heap ∧ ∀ v, r = some v → mj_okv X h'.2.2.2 v) ∧ va_F (fx_P X) st t
/-- method y's contract on these arguments: it answers r, the picture becomes h' -/
def SB (l : Launch) (X : FX) (d mc ms y : Nat) (as : List MV) (h : MH) (r : Option MV) (h' : MH) : Prop :=
  ∀ ad : Nat → Nat, (∀ v ∈ as, mj_okv X h.2.2.2 v) → Met l (mj_N y) (mj_wd y) (mj_rm d mc ms) (va_Pc (as.map (mj_tr X ad)) (fun U => mj_Hp X ad h U.heap ∧ mj_Kn X U ∧ mj_Out X U)) (mj_Qc X ad h r h') mc ms (fx_P X)
/-! small facts -/
theorem mj_nth_lt : ∀ {ls : ML} {j : Nat} {v : MV}, mj_nth ls j = some v → j < ls.length
  | [], _, _, h => by simp [mj_nth] at h
  | _ :: _, 0, _, _ => by simp
  | _ :: l, j + 1, v, h => by
    have := mj_nth_lt (ls := l) (j := j) (v := v) h
    simp; omega
theorem mj_lv_mem {X : FX} {ad : Nat → Nat} {ls : ML} {q : Nat × Value} : q ∈ mj_lv X ad ls ↔ ∃ v, mj_nth ls q.1 = some v ∧ q.2 = mj_tr X ad v := by
  unfold mj_lv
  rw [List.mem_filterMap]
  constructor
  · rintro ⟨j, -, hj⟩
    cases hn : mj_nth ls j with
    | none => rw [hn] at hj; cases hj
    | some v =>
      rw [hn] at hj
      cases hj
      exact ⟨v, hn, rfl⟩
  · rintro ⟨v, h1, h2⟩
    refine ⟨q.1, List.mem_range.mpr (mj_nth_lt h1), ?_⟩
    rw [h1]
    show some (q.1, mj_tr X ad v) = some q
    rw [← h2]
theorem mj_stoA_spec : ∀ {p : Bool} {ls : ML} {k : Nat} {v : MV} {ls' : ML}, mj_stoA p ls k v = some ls' → ls'.length = ls.length ∧ k < ls.length ∧ (∀ j, mj_nth ls' j = if j = k then some v else mj_nth ls j) ∧ (k = 0 → p = false) ∧ ∀ j, j + 1 = k → mj_isL (mj_nth ls j) = false
  | _, [], _, _, _, h => by simp [mj_stoA] at h
  | p, x :: l, 0, v, ls', h => by
    cases p with
    | true => simp [mj_stoA] at h
    | false =>
      simp [mj_stoA] at h
      subst h
      refine ⟨by simp, by simp, fun j => ?_, fun _ => rfl, fun j hj => by omega⟩
      cases j with
      | zero => simp [mj_nth]
      | succ j => simp [mj_nth]
  | p, x :: l, k + 1, v, ls', h => by
    simp only [mj_stoA] at h
    cases h1 : mj_stoA (mj_isL x) l k v with
    | none => rw [h1] at h; cases h
    | some l' =>
      rw [h1] at h
      cases h
      obtain ⟨a1, a2, a3, a4, a5⟩ := mj_stoA_spec h1
      refine ⟨by simp [a1], by simp; omega, fun j => ?_, fun q => by omega, fun j hj => ?_⟩
      · cases j with
        | zero => simp [mj_nth]
        | succ j => simp only [mj_nth, a3 j, Nat.add_right_cancel_iff]
      · cases j with
        | zero => exact a4 (by omega)
        | succ j => exact a5 j (by omega)
theorem mj_stoB_spec : ∀ {p : Bool} {ls : ML} {k : Nat} {v : MV} {ls' : ML}, mj_stoB p ls k v = some ls' → ls'.length = ls.length ∧ k + 1 < ls.length ∧ (∀ j, mj_nth ls' j = if j = k then some v else if j = k + 1 then none else mj_nth ls j) ∧ (k = 0 → p = false) ∧ ∀ j, j + 1 = k → mj_isL (mj_nth ls j) = false
  | _, [], _, _, _, h => by simp [mj_stoB] at h
  | p, [x], 0, v, ls', h => by simp [mj_stoB] at h
  | p, x :: z :: l, 0, v, ls', h => by
    cases p with
    | true => simp [mj_stoB] at h
    | false =>
      simp [mj_stoB] at h
      subst h
      refine ⟨by simp, by simp, fun j => ?_, fun _ => rfl, fun j hj => by omega⟩
      match j with
      | 0 => simp [mj_nth]
      | 1 => simp [mj_nth]
      | j + 2 => simp [mj_nth]
  | p, x :: l, k + 1, v, ls', h => by
    simp only [mj_stoB] at h
    cases h1 : mj_stoB (mj_isL x) l k v with
    | none => rw [h1] at h; cases h
    | some l' =>
      rw [h1] at h
      cases h
      obtain ⟨a1, a2, a3, a4, a5⟩ := mj_stoB_spec h1
      refine ⟨by simp [a1], by simp; omega, fun j => ?_, fun q => by omega, fun j hj => ?_⟩
      · cases j with
        | zero => simp [mj_nth]
        | succ j => simp only [mj_nth, a3 j, Nat.add_right_cancel_iff]
      · cases j with
        | zero => exact a4 (by omega)
        | succ j => exact a5 j (by omega)
theorem mj_cat_tr (X : FX) (ad : Nat → Nat) (v : MV) : (mj_tr X ad v).category = mj_cat v := by
  rcases v with x | x | r
  · rfl
  · rfl
  · show (va_rf (mj_orf X ad r)).category = 1
    cases mj_orf X ad r <;> rfl
theorem mj_cat_isL {X : FX} {ad : Nat → Nat} {v : MV} (h : (mj_tr X ad v).category = 2) : mj_isL (some v) = true := by
  rw [mj_cat_tr] at h
  rcases v with x | x | r
  · cases h
  · rfl
  · cases h
/-- fewer or the same listed values -/
theorem mj_lvsub {ls : Array Slot} {nL : Nat} {l l' : List (Nat × Value)} (h : lv_has ls nL l) (hl : ∀ q ∈ l', q ∈ l) : lv_has ls nL l' := ⟨h.1, h.2.1, fun q hq => h.2.2 q (hl q hq)⟩
theorem mj_lvsto {X : FX} {ad : Nat → Nat} {ls ls' : ML} {k : Nat} {v : MV} (h : mj_sto ls k v = some ls') : ∀ q ∈ mj_lv X ad ls', q ∈ (k, mj_tr X ad v) :: (mj_lv X ad ls).filter (fun q => !(q.1 == k) && !(q.1 + 1 == k && q.2.category == 2)) := by
  intro q hq
  obtain ⟨-, -, a3, -, a5⟩ := mj_stoA_spec h
  obtain ⟨w, h1, h2⟩ := mj_lv_mem.mp hq
  rw [a3] at h1
  by_cases hk : q.1 = k
  · rw [if_pos hk] at h1
    cases h1
    rw [← hk, ← h2]
    exact List.mem_cons_self
  · rw [if_neg hk] at h1
    refine List.mem_cons_of_mem _ (List.mem_filter.mpr ⟨mj_lv_mem.mpr ⟨w, h1, h2⟩, ?_⟩)
    by_cases hj : q.1 + 1 = k
    · have h5 := a5 q.1 hj
      rw [h1] at h5
      have : ¬ q.2.category = 2 := fun hc => by
        rw [h2] at hc
        rw [mj_cat_isL hc] at h5
        cases h5
      simp [hk, this]
    · simp [hk, hj]
theorem mj_lvsto2 {X : FX} {ad : Nat → Nat} {ls ls' : ML} {k : Nat} {v : MV} (h : mj_sto2 ls k v = some ls') : ∀ q ∈ mj_lv X ad ls', q ∈ (k, mj_tr X ad v) :: (mj_lv X ad ls).filter (fun q => !(q.1 == k) && (!(q.1 == k + 1) && !(q.1 + 1 == k && q.2.category == 2))) := by
  intro q hq
  obtain ⟨-, -, a3, -, a5⟩ := mj_stoB_spec h
  obtain ⟨w, h1, h2⟩ := mj_lv_mem.mp hq
  rw [a3] at h1
  by_cases hk : q.1 = k
  · rw [if_pos hk] at h1
    cases h1
    rw [← hk, ← h2]
    exact List.mem_cons_self
  · rw [if_neg hk] at h1
    by_cases hk1 : q.1 = k + 1
    · rw [if_pos hk1] at h1
      cases h1
    · rw [if_neg hk1] at h1
      refine List.mem_cons_of_mem _ (List.mem_filter.mpr ⟨mj_lv_mem.mpr ⟨w, h1, h2⟩, ?_⟩)
      by_cases hj : q.1 + 1 = k
      · have h5 := a5 q.1 hj
        rw [h1] at h5
        have : ¬ q.2.category = 2 := fun hc => by
          rw [h2] at hc
          rw [mj_cat_isL hc] at h5
          cases h5
        simp [hk, hk1, this]
      · simp [hk, hk1, hj]
