/-! THE CLASS'S SMALL METHODS -/
section MG
variable {l : Launch} {X : FX} {d y : Nat} {Z : Option MV → MH → Prop}
theorem GE.cal {q : MI} {s : MS} {y' n' d' : Nat} {as rs : List MV} {ls : ML} {h h1 : MH} {r' : Option MV} (hi : mj_ins y s.1 = some q) (hs : mj_cll q s = some (y', as, n', ls, rs, h)) (hdd : d' + 1 ≤ d) (hSB : SK l X d' y' as h r' h1) (k : GE l X d y (n', ls, mj_pus r' rs, h1) Z) : GE l X d y s Z :=
  GE.call (Z' := fun r h2 => r = r' ∧ h2 = h1) hi hs hdd ⟨r', h1, hSB, rfl, rfl⟩ (fun r h2 e => by
    obtain ⟨e1, e2⟩ := e
    subst e1
    subst e2
    exact k)
theorem GB.cal {q : MI} {s : MS} {y' n' d' : Nat} {as rs : List MV} {ls : ML} {h h1 h' : MH} {r r' : Option MV} (hi : mj_ins y s.1 = some q) (hs : mj_cll q s = some (y', as, n', ls, rs, h)) (hdd : d' + 1 ≤ d) (hSB : SK l X d' y' as h r' h1) (k : GB l X d 0 0 y (n', ls, mj_pus r' rs, h1) r h') : GB l X d 0 0 y s r h' :=
  GB.call (mc' := 0) (mc := 0) (ms' := 0) (ms := 0) hi hs hdd (hSB _ (Nat.le_refl _)) k
theorem GB.upto {r : Option MV} {h' : MH} (N : Nat) (S : Nat → MS) (body : ∀ k, k < N → GB l X d 0 0 y (S (k + 1)) r h' → GB l X d 0 0 y (S k) r h') (fin : GB l X d 0 0 y (S N) r h') : ∀ n k, k + n = N → GB l X d 0 0 y (S k) r h'
  | 0, k, h => by
    cases (show k = N by omega)
    exact fin
  | n + 1, k, h => body k (by omega) (GB.upto N S body fin n (k + 1) (by omega))
end MG
def bI (b : Bool) : Int32 := cond b 1 0
theorem bI_1 {P : Prop} {hP : Decidable P} (h : P) : bI (decide P) = 1 := by rw [decide_eq_true h]; rfl
theorem bI_0 {P : Prop} {hP : Decidable P} (h : ¬ P) : bI (decide P) = 0 := by rw [decide_eq_false h]; rfl
theorem bI_t {b : Bool} (h : ¬ bI b = 0) : b = true := by
  cases b
  · exact absurd rfl h
  · rfl
theorem bI_f {b : Bool} (h : bI b = 0) : b = false := by
  cases b
  · rfl
  · exact absurd h (by decide)
theorem bd_t {P : Prop} {hP : Decidable P} (h : ¬ bI (decide P) = 0) : P := of_decide_eq_true (bI_t h)
theorem bd_f {P : Prop} {hP : Decidable P} (h : bI (decide P) = 0) : ¬ P := of_decide_eq_false (bI_f h)
theorem bI_ok (b : Bool) : decide (bI b = 0 ∨ bI b = 1) = true := by cases b <;> decide
/-- from 0 up to m -/
def uT (v m : Int32) : Bool := decide (¬ v < 0 ∧ ¬ m < v)
section MK
variable {l : Launch} {X : FX} {ii : Nat → Nat → Nat → Int32} {jj : Nat → Nat → Nat → Int64} {kd : Nat → Nat}
theorem k_upto (h : MH) (v m : Int32) : SK l X 1 117 [vI v, vI m] h (some (vI (bI (uT v m)))) h := by
  refine SK.of (by decide) (by decide) rfl ?_
  obtain ⟨ii, jj, rr, n⟩ := h
  unfold uT
  refine GB.go 9999 rfl aB0 ?_
  refine GB.br rfl rfl (fun c => ?_) (fun c => ?_)
  · rw [bI_0 (fun h => h.1 c)]
    refine GB.go 9999 rfl aB0 ?_
    exact GB.ret rfl rfl (aB1 (by decide) aB0)
  · refine GB.go 9999 rfl aB0 ?_
    refine GB.br rfl rfl (fun c2 => ?_) (fun c2 => ?_)
    · rw [bI_0 (fun h => h.2 c2)]
      refine GB.go 9999 rfl aB0 ?_
      exact GB.ret rfl rfl (aB1 (by decide) aB0)
    · rw [bI_1 ⟨c, c2⟩]
      refine GB.go 9999 rfl aB0 ?_
      refine GB.go 9999 rfl aB0 ?_
      exact GB.ret rfl rfl (aB1 (by decide) aB0)
theorem k_isSet (h : MH) (v : Int32) : SK l X 2 118 [vI v] h (some (vI (bI (uT v 4095)))) h := by
  refine SK.of (by decide) (by decide) rfl ?_
  obtain ⟨ii, jj, rr, n⟩ := h
  refine GB.go 9999 rfl aB0 ?_
  refine GB.cal rfl rfl (by decide) (k_upto _ v 4095) ?_
  exact GB.ret rfl rfl (aB1 (bI_ok _) aB0)
theorem k_isThought (h : MH) (v : Int32) : SK l X 2 119 [vI v] h (some (vI (bI (uT v 11)))) h := by
  refine SK.of (by decide) (by decide) rfl ?_
  obtain ⟨ii, jj, rr, n⟩ := h
  refine GB.go 9999 rfl aB0 ?_
  refine GB.cal rfl rfl (by decide) (k_upto _ v 11) ?_
  exact GB.ret rfl rfl (aB1 (bI_ok _) aB0)
theorem k_isSheet (h : MH) (v : Int32) : SK l X 2 120 [vI v] h (some (vI (bI (uT v 3)))) h := by
  refine SK.of (by decide) (by decide) rfl ?_
  obtain ⟨ii, jj, rr, n⟩ := h
  refine GB.go 9999 rfl aB0 ?_
  refine GB.cal rfl rfl (by decide) (k_upto _ v 3) ?_
  exact GB.ret rfl rfl (aB1 (bI_ok _) aB0)
theorem k_isHat (v : Int32) : SK l X 1 123 [vR 5 0, vI v] (ii, jj, mj_rk kd, 108) (some (vI (bI (decide (¬ v < 0 ∧ ¬ ii 17 0 2 ≤ v))))) (ii, jj, mj_rk kd, 108) := by
  refine SK.of (by decide) (by decide) rfl ?_
  refine GB.go 9999 rfl aB0 ?_
  refine GB.br rfl rfl (fun c => ?_) (fun c => ?_)
  · rw [bI_0 (fun h => h.1 c)]
    refine GB.go 9999 rfl aB0 ?_
    exact GB.ret rfl rfl (aB1 (by decide) aB0)
  · refine GB.go 9999 rfl aB0 ?_
    refine GB.br rfl rfl (fun c2 => ?_) (fun c2 => ?_)
    · rw [bI_0 (fun h => h.2 c2)]
      refine GB.go 9999 rfl aB0 ?_
      exact GB.ret rfl rfl (aB1 (by decide) aB0)
    · rw [bI_1 ⟨c, c2⟩]
      refine GB.go 9999 rfl aB0 ?_
      refine GB.go 9999 rfl aB0 ?_
      exact GB.ret rfl rfl (aB1 (by decide) aB0)
theorem k_isHead (v : Int32) : SK l X 1 124 [vR 5 0, vI v] (ii, jj, mj_rk kd, 108) (some (vI (bI (decide (¬ v < 0 ∧ ¬ ii 17 0 3 ≤ v))))) (ii, jj, mj_rk kd, 108) := by
  refine SK.of (by decide) (by decide) rfl ?_
  refine GB.go 9999 rfl aB0 ?_
  refine GB.br rfl rfl (fun c => ?_) (fun c => ?_)
  · rw [bI_0 (fun h => h.1 c)]
    refine GB.go 9999 rfl aB0 ?_
    exact GB.ret rfl rfl (aB1 (by decide) aB0)
  · refine GB.go 9999 rfl aB0 ?_
    refine GB.br rfl rfl (fun c2 => ?_) (fun c2 => ?_)
    · rw [bI_0 (fun h => h.2 c2)]
      refine GB.go 9999 rfl aB0 ?_
      exact GB.ret rfl rfl (aB1 (by decide) aB0)
    · rw [bI_1 ⟨c, c2⟩]
      refine GB.go 9999 rfl aB0 ?_
      refine GB.go 9999 rfl aB0 ?_
      exact GB.ret rfl rfl (aB1 (by decide) aB0)
theorem k_areBits (h : MH) (v : Int32) : SK l X 1 121 [vI v] h (some (vI (bI (decide (v = 0 ∨ v = 8 ∨ v = 16 ∨ v = 64))))) h := by
  refine SK.of (by decide) (by decide) rfl ?_
  obtain ⟨ii, jj, rr, n⟩ := h
  refine GB.go 9999 rfl aB0 ?_
  refine GB.br rfl rfl (fun c => ?_) (fun c => ?_)
  · rw [bI_1 (Or.inl c)]
    refine GB.go 9999 rfl aB0 ?_
    exact GB.ret rfl rfl (aB1 (by decide) aB0)
  · refine GB.go 9999 rfl aB0 ?_
    refine GB.br rfl rfl (fun c2 => ?_) (fun c2 => ?_)
    · rw [bI_1 (Or.inr (Or.inl c2))]
      refine GB.go 9999 rfl aB0 ?_
      exact GB.ret rfl rfl (aB1 (by decide) aB0)
    · refine GB.go 9999 rfl aB0 ?_
      refine GB.br rfl rfl (fun c3 => ?_) (fun c3 => ?_)
      · rw [bI_1 (Or.inr (Or.inr (Or.inl c3)))]
        refine GB.go 9999 rfl aB0 ?_
        exact GB.ret rfl rfl (aB1 (by decide) aB0)
      · refine GB.go 9999 rfl aB0 ?_
        refine GB.br rfl rfl (fun c4 => ?_) (fun c4 => ?_)
        · rw [bI_1 (Or.inr (Or.inr (Or.inr c4)))]
          refine GB.go 9999 rfl aB0 ?_
          exact GB.ret rfl rfl (aB1 (by decide) aB0)
        · rw [bI_0 (by rintro (h | h | h | h) <;> contradiction)]
          refine GB.go 9999 rfl aB0 ?_
          refine GB.go 9999 rfl aB0 ?_
          exact GB.ret rfl rfl (aB1 (by decide) aB0)
/-- what isHat and isHead say -/
def iN (v n : Int32) : Prop := ¬ v < 0 ∧ ¬ n ≤ v
/-- two hats -/
theorem k_areTwo (v w : Int32) : SK l X 2 125 [vR 5 0, vI v, vI w] (ii, jj, mj_rk kd, 108) (some (vI (bI (decide ((¬ v < 0 ∧ ¬ ii 17 0 2 ≤ v) ∧ (¬ w < 0 ∧ ¬ ii 17 0 2 ≤ w) ∧ v ≠ w))))) (ii, jj, mj_rk kd, 108) := by
  refine SK.of (by decide) (by decide) rfl ?_
  refine GB.go 9999 rfl aB0 ?_
  refine GB.cal rfl rfl (by decide) (k_isHat v) ?_
  refine GB.br rfl rfl (fun c => ?_) (fun c => ?_)
  · rw [bI_0 (fun h => bd_f c h.1)]
    refine GB.go 9999 rfl aB0 ?_
    exact GB.ret rfl rfl (aB1 (by decide) aB0)
  · refine GB.go 9999 rfl aB0 ?_
    refine GB.cal rfl rfl (by decide) (k_isHat w) ?_
    refine GB.br rfl rfl (fun c2 => ?_) (fun c2 => ?_)
    · rw [bI_0 (fun h => bd_f c2 h.2.1)]
      refine GB.go 9999 rfl aB0 ?_
      exact GB.ret rfl rfl (aB1 (by decide) aB0)
    · refine GB.go 9999 rfl aB0 ?_
      refine GB.br rfl rfl (fun c3 => ?_) (fun c3 => ?_)
      · rw [bI_0 (fun h => h.2.2 c3)]
        refine GB.go 9999 rfl aB0 ?_
        exact GB.ret rfl rfl (aB1 (by decide) aB0)
      · rw [bI_1 ⟨bd_t c, bd_t c2, c3⟩]
        refine GB.go 9999 rfl aB0 ?_
        refine GB.go 9999 rfl aB0 ?_
        exact GB.ret rfl rfl (aB1 (by decide) aB0)
theorem k_mindful (h : MH) (w v : Int32) : SK l X 3 122 [vI w, vI v] h (some (vI (bI (decide ((w = 0 ∧ uT v 4095 = true) ∨ (w = 1 ∧ uT v 1 = true) ∨ (w = 2 ∧ uT v 9999 = true)))))) h := by
  refine SK.of (by decide) (by decide) rfl ?_
  obtain ⟨ii, jj, rr, n⟩ := h
  refine GB.go 9999 rfl aB0 ?_
  refine GB.sw rfl rfl ?_
  by_cases w0 : w = 0
  · subst w0
    refine GB.go 9999 rfl aB0 ?_
    refine GB.cal rfl rfl (by decide) (k_isSet _ v) ?_
    rw [show decide (((0 : Int32) = 0 ∧ uT v 4095 = true) ∨ ((0 : Int32) = 1 ∧ uT v 1 = true) ∨ ((0 : Int32) = 2 ∧ uT v 9999 = true)) = uT v 4095 by cases uT v 4095 <;> simp]
    exact GB.ret rfl rfl (aB1 (bI_ok _) aB0)
  · by_cases w1 : w = 1
    · subst w1
      refine GB.go 9999 rfl aB0 ?_
      refine GB.cal rfl rfl (by decide) (k_upto _ v 1) ?_
      rw [show decide (((1 : Int32) = 0 ∧ uT v 4095 = true) ∨ ((1 : Int32) = 1 ∧ uT v 1 = true) ∨ ((1 : Int32) = 2 ∧ uT v 9999 = true)) = uT v 1 by cases uT v 1 <;> simp]
      exact GB.ret rfl rfl (aB1 (bI_ok _) aB0)
    · by_cases w2 : w = 2
      · subst w2
        refine GB.go 9999 rfl aB0 ?_
        refine GB.cal rfl rfl (by decide) (k_upto _ v 9999) ?_
        rw [show decide (((2 : Int32) = 0 ∧ uT v 4095 = true) ∨ ((2 : Int32) = 1 ∧ uT v 1 = true) ∨ ((2 : Int32) = 2 ∧ uT v 9999 = true)) = uT v 9999 by cases uT v 9999 <;> simp]
        exact GB.ret rfl rfl (aB1 (bI_ok _) aB0)
      · rw [show mj_swt [(0, 28), (1, 33), (2, 39)] 47 w = 47 by simp [mj_swt, w0, w1, w2], bI_0 (by simp [w0, w1, w2])]
        refine GB.go 9999 rfl aB0 ?_
        exact GB.ret rfl rfl (aB1 (by decide) aB0)
theorem k_finding (k : Nat) (hk : k < 7) : SK l X 1 116 [vR 5 0, vI (nI k)] (ii, jj, mj_rk kd, 108) (some (vI (-1000000001 - nI k))) (up3 ii 10 0 k (ii 10 0 k + 1), jj, mj_rk kd, 108) := by
  refine SK.of (by decide) (by decide) rfl ?_
  refine GB.go 9999 rfl (aB1 (mn_vin hk (by decide)) (aB1 (mn_vin hk (by decide)) aB0)) ?_
  rw [nI_clamp (show k < 2 ^ 31 by omega)]
  exact GB.ret rfl rfl aB0
end MK
