/-! THE KINDS' METHODS -/
theorem mn_pred (n : Nat) : nI (n + 1) + -1 = nI n := by rw [← Int32.sub_eq_add_neg, nI_pred]
/-- the bit of a thought -/
def bT (n : Nat) : Int32 := 1 <<< (nI n &&& 31)
def topB : Nat → Int32 → Int32
  | 0, _ => 0
  | n + 1, s => if s &&& bT n = 0 then topB n s else bT n
/-- the remainder -/
def iR (a b : Int32) : Int32 := a - a / b * b
def sR (x k : Int32) : Int32 := (x.toUInt32 >>> (Int32.toUInt32 k &&& Int32.toUInt32 31)).toInt32
def bC1 (x : Int32) : Int32 := x - (sR x 1 &&& 1431655765)
def bC2 (x : Int32) : Int32 := (x &&& 858993459) + (sR x 2 &&& 858993459)
def bC3 (x : Int32) : Int32 := (x + sR x 4) &&& 252645135
def bC4 (x : Int32) : Int32 := x + sR x 8
def bC5 (x : Int32) : Int32 := x + sR x 16
/-- the count of bits, as the JDK has it -/
def bC (x : Int32) : Int32 := bC5 (bC4 (bC3 (bC2 (bC1 x)))) &&& 63
section MK
variable {l : Launch} {X : FX}
theorem k_also0 (h : MH) (t : Nat) (v : Int32) : SK l X 1 28 [vR t 0, vI v] h (some (vI (bI (decide (v = 0))))) h := by
  refine SK.of (by decide) (by decide) rfl ?_
  obtain ⟨ii, jj, rr, n⟩ := h
  refine GB.go 9999 rfl aB0 ?_
  refine GB.br rfl rfl (fun c => ?_) (fun c => ?_)
  · rw [bI_1 c]
    refine GB.go 9999 rfl aB0 ?_
    exact GB.ret rfl rfl (aB1 (by decide) aB0)
  · rw [bI_0 c]
    refine GB.go 9999 rfl aB0 ?_
    exact GB.ret rfl rfl (aB1 (by decide) aB0)
theorem k_tak0 (h : MH) (t : Nat) (a b c : Int32) : SK l X 1 29 [vR t 0, vI a, vI b, vI c] h (some (vI a)) h := by
  refine SK.of (by decide) (by decide) rfl ?_
  obtain ⟨ii, jj, rr, n⟩ := h
  refine GB.go 9999 rfl aB0 ?_
  exact GB.ret rfl rfl aB0
theorem k_kep0 (h : MH) (t : Nat) (a : Int32) : SK l X 1 30 [vR t 0, vI a] h (some (vI 9)) h := by
  refine SK.of (by decide) (by decide) rfl ?_
  obtain ⟨ii, jj, rr, n⟩ := h
  refine GB.go 9999 rfl aB0 ?_
  exact GB.ret rfl rfl aB0
theorem k_fad0 (h : MH) (t : Nat) (a : Int32) : SK l X 1 31 [vR t 0, vI a] h (some (vI 1)) h := by
  refine SK.of (by decide) (by decide) rfl ?_
  obtain ⟨ii, jj, rr, n⟩ := h
  refine GB.go 9999 rfl aB0 ?_
  exact GB.ret rfl rfl aB0
theorem k_also1 (h : MH) (t : Nat) (ht : t = 12 ∨ t = 15) (v : Int32) : SK l X 2 11 [vR t 0, vI v] h (some (vI (bI (decide (v = 1 ∨ v = 0))))) h := by
  refine SK.of (by decide) (by decide) rfl ?_
  obtain ⟨ii, jj, rr, n⟩ := h
  rcases ht with rfl | rfl
  all_goals
    refine GB.go 9999 rfl aB0 ?_
    refine GB.br rfl rfl (fun c => ?_) (fun c => ?_)
    · rw [bI_1 (Or.inl c)]
      refine GB.go 9999 rfl aB0 ?_
      exact GB.ret rfl rfl (aB1 (by decide) aB0)
    · refine GB.go 9999 rfl aB0 ?_
      refine GB.cal rfl rfl (by decide) (k_also0 _ _ v) ?_
      refine GB.br rfl rfl (fun c2 => ?_) (fun c2 => ?_)
      · rw [bI_0 (by rintro (h | h); exact c h; exact bd_f c2 h)]
        refine GB.go 9999 rfl aB0 ?_
        exact GB.ret rfl rfl (aB1 (by decide) aB0)
      · rw [bI_1 (Or.inr (bd_t c2))]
        refine GB.go 9999 rfl aB0 ?_
        exact GB.ret rfl rfl (aB1 (by decide) aB0)
theorem k_tak1 (h : MH) (t : Nat) (ht : t = 12 ∨ t = 15) (a b c : Int32) : SK l X 2 12 [vR t 0, vI a, vI b, vI c] h (some (vI (a &&& b))) h := by
  refine SK.of (by decide) (by decide) rfl ?_
  obtain ⟨ii, jj, rr, n⟩ := h
  rcases ht with rfl | rfl
  all_goals
    refine GB.go 9999 rfl aB0 ?_
    refine GB.cal rfl rfl (by decide) (k_tak0 _ _ a b c) ?_
    refine GB.go 9999 rfl aB0 ?_
    exact GB.ret rfl rfl aB0
theorem k_fad1 (h : MH) (t : Nat) (a : Int32) : SK l X 1 13 [vR t 0, vI a] h (some (vI (iR a 2))) h := by
  refine SK.of (by decide) (by decide) rfl ?_
  obtain ⟨ii, jj, rr, n⟩ := h
  refine GB.go 9999 rfl (aB1 (by decide) aB0) ?_
  exact GB.ret rfl rfl aB0
theorem k_also2 (h : MH) (t : Nat) (ht : t = 13 ∨ t = 16) (v : Int32) : SK l X 2 56 [vR t 0, vI v] h (some (vI (bI (decide (v = 2 ∨ v = 0))))) h := by
  refine SK.of (by decide) (by decide) rfl ?_
  obtain ⟨ii, jj, rr, n⟩ := h
  rcases ht with rfl | rfl
  all_goals
    refine GB.go 9999 rfl aB0 ?_
    refine GB.br rfl rfl (fun c => ?_) (fun c => ?_)
    · rw [bI_1 (Or.inl c)]
      refine GB.go 9999 rfl aB0 ?_
      exact GB.ret rfl rfl (aB1 (by decide) aB0)
    · refine GB.go 9999 rfl aB0 ?_
      refine GB.cal rfl rfl (by decide) (k_also0 _ _ v) ?_
      refine GB.br rfl rfl (fun c2 => ?_) (fun c2 => ?_)
      · rw [bI_0 (by rintro (h | h); exact c h; exact bd_f c2 h)]
        refine GB.go 9999 rfl aB0 ?_
        exact GB.ret rfl rfl (aB1 (by decide) aB0)
      · rw [bI_1 (Or.inr (bd_t c2))]
        refine GB.go 9999 rfl aB0 ?_
        exact GB.ret rfl rfl (aB1 (by decide) aB0)
theorem k_cho2 (h : MH) (t : Nat) (a : Int32) : SK l X 1 58 [vR t 0, vI a] h (some (vI (a &&& -a))) h := by
  refine SK.of (by decide) (by decide) rfl ?_
  obtain ⟨ii, jj, rr, n⟩ := h
  refine GB.go 9999 rfl aB0 ?_
  exact GB.ret rfl rfl aB0
theorem k_cho5l {ii : Nat → Nat → Nat → Int32} {jj : Nat → Nat → Nat → Int64} {rr : Nat → Nat → Nat → Nat × Nat} {m : Nat} (a : Int32) : ∀ n, n ≤ 12 → GB l X 1 0 0 3 (3, [some (vR 16 0), some (vI a), some (vI (nI n + -1))], [], (ii, jj, rr, m)) (some (vI (topB n a))) (ii, jj, rr, m)
  | 0, _ => by
    refine GB.go 9999 rfl aB0 ?_
    refine GB.br rfl rfl (fun c => ?_) (fun c => ?_)
    · refine GB.go 9999 rfl aB0 ?_
      exact GB.ret rfl rfl aB0
    · exact absurd (by decide) c
  | n + 1, hn => by
    rw [mn_pred]
    refine GB.go 9999 rfl aB0 ?_
    refine GB.br rfl rfl (fun c => ?_) (fun c => ?_)
    · exact absurd c (nI_pos (by omega))
    · refine GB.go 9999 rfl aB0 ?_
      refine GB.br rfl rfl (fun c2 => ?_) (fun c2 => ?_)
      · rw [show topB (n + 1) a = topB n a from if_pos c2]
        refine GB.go 3 rfl aB0 ?_
        exact k_cho5l a n (by omega)
      · rw [show topB (n + 1) a = bT n from if_neg c2]
        refine GB.go 9999 rfl aB0 ?_
        exact GB.ret rfl rfl aB0
theorem k_cho5 (h : MH) (a : Int32) : SK l X 1 3 [vR 16 0, vI a] h (some (vI (topB 12 a))) h := by
  refine SK.of (by decide) (by decide) rfl ?_
  obtain ⟨ii, jj, rr, n⟩ := h
  refine GB.go 3 rfl aB0 ?_
  exact k_cho5l a 12 (by decide)
theorem k_tak2 (h : MH) (a b c : Int32) : SK l X 2 57 [vR 13 0, vI a, vI b, vI c] h (some (vI ((a &&& (c ^^^ -1)) &&& -(a &&& (c ^^^ -1))))) h := by
  refine SK.of (by decide) (by decide) rfl ?_
  obtain ⟨ii, jj, rr, n⟩ := h
  refine GB.go 9999 rfl aB0 ?_
  refine GB.cal rfl rfl (by decide) (k_tak0 _ 13 a b c) ?_
  refine GB.go 9999 rfl aB0 ?_
  refine GB.cal rfl rfl (by decide) (k_cho2 _ 13 (a &&& (c ^^^ -1))) ?_
  exact GB.ret rfl rfl aB0
theorem k_kep2 (h : MH) (t : Nat) (ht : t = 13 ∨ t = 16) (a : Int32) : SK l X 2 59 [vR t 0, vI a] h (some (vI 4)) h := by
  refine SK.of (by decide) (by decide) rfl ?_
  obtain ⟨ii, jj, rr, n⟩ := h
  rcases ht with rfl | rfl
  all_goals
    refine GB.go 9999 rfl aB0 ?_
    refine GB.cal rfl rfl (by decide) (k_kep0 _ _ a) ?_
    refine GB.go 9999 rfl (aB1 (by decide) aB0) ?_
    exact GB.ret rfl rfl aB0
theorem k_fad2 (h : MH) (t : Nat) (ht : t = 13 ∨ t = 16) (a : Int32) : SK l X 2 60 [vR t 0, vI a] h (some (vI 2)) h := by
  refine SK.of (by decide) (by decide) rfl ?_
  obtain ⟨ii, jj, rr, n⟩ := h
  rcases ht with rfl | rfl
  all_goals
    refine GB.go 9999 rfl aB0 ?_
    refine GB.cal rfl rfl (by decide) (k_fad0 _ _ a) ?_
    refine GB.go 9999 rfl aB0 ?_
    exact GB.ret rfl rfl aB0
theorem k_also3 (h : MH) (v : Int32) : SK l X 2 7 [vR 14 0, vI v] h (some (vI (bI (decide (v = 3 ∨ v = 0))))) h := by
  refine SK.of (by decide) (by decide) rfl ?_
  obtain ⟨ii, jj, rr, n⟩ := h
  refine GB.go 9999 rfl aB0 ?_
  refine GB.br rfl rfl (fun c => ?_) (fun c => ?_)
  · rw [bI_1 (Or.inl c)]
    refine GB.go 9999 rfl aB0 ?_
    exact GB.ret rfl rfl (aB1 (by decide) aB0)
  · refine GB.go 9999 rfl aB0 ?_
    refine GB.cal rfl rfl (by decide) (k_also0 _ _ v) ?_
    refine GB.br rfl rfl (fun c2 => ?_) (fun c2 => ?_)
    · rw [bI_0 (by rintro (h | h); exact c h; exact bd_f c2 h)]
      refine GB.go 9999 rfl aB0 ?_
      exact GB.ret rfl rfl (aB1 (by decide) aB0)
    · rw [bI_1 (Or.inr (bd_t c2))]
      refine GB.go 9999 rfl aB0 ?_
      exact GB.ret rfl rfl (aB1 (by decide) aB0)
theorem k_tak3 (h : MH) (a b c : Int32) : SK l X 2 8 [vR 14 0, vI a, vI b, vI c] h (some (vI (a &&& (c ^^^ -1)))) h := by
  refine SK.of (by decide) (by decide) rfl ?_
  obtain ⟨ii, jj, rr, n⟩ := h
  refine GB.go 9999 rfl aB0 ?_
  refine GB.cal rfl rfl (by decide) (k_tak0 _ 14 a b c) ?_
  refine GB.go 9999 rfl aB0 ?_
  exact GB.ret rfl rfl aB0
theorem k_bitc (h : MH) (a : Int32) : SK l X 1 221 [vI a] h (some (vI (bC a))) h := by
  refine SK.of (by decide) (by decide) rfl ?_
  obtain ⟨ii, jj, rr, n⟩ := h
  refine GB.go 9999 rfl aB0 ?_
  exact GB.ret rfl rfl aB0
theorem k_kep3 (h : MH) (a : Int32) : SK l X 2 9 [vR 14 0, vI a] h (some (vI (if (1 : Int32) < 9 - bC a then 9 - bC a else 1))) h := by
  refine SK.of (by decide) (by decide) rfl ?_
  obtain ⟨ii, jj, rr, n⟩ := h
  refine GB.go 9999 rfl aB0 ?_
  refine GB.cal rfl rfl (by decide) (k_kep0 _ 14 a) ?_
  refine GB.go 9999 rfl aB0 ?_
  refine GB.cal rfl rfl (by decide) (k_bitc _ a) ?_
  refine GB.go 9999 rfl aB0 ?_
  exact GB.ret rfl rfl aB0
theorem k_also4 (h : MH) (v : Int32) : SK l X 3 37 [vR 15 0, vI v] h (some (vI (bI (decide (v = 4 ∨ v = 1 ∨ v = 0))))) h := by
  refine SK.of (by decide) (by decide) rfl ?_
  obtain ⟨ii, jj, rr, n⟩ := h
  refine GB.go 9999 rfl aB0 ?_
  refine GB.br rfl rfl (fun c => ?_) (fun c => ?_)
  · rw [bI_1 (Or.inl c)]
    refine GB.go 9999 rfl aB0 ?_
    exact GB.ret rfl rfl (aB1 (by decide) aB0)
  · refine GB.go 9999 rfl aB0 ?_
    refine GB.cal rfl rfl (by decide) (k_also1 _ _ (Or.inr rfl) v) ?_
    refine GB.br rfl rfl (fun c2 => ?_) (fun c2 => ?_)
    · rw [bI_0 (by rintro (h | h); exact c h; exact bd_f c2 h)]
      refine GB.go 9999 rfl aB0 ?_
      exact GB.ret rfl rfl (aB1 (by decide) aB0)
    · rw [bI_1 (Or.inr (bd_t c2))]
      refine GB.go 9999 rfl aB0 ?_
      exact GB.ret rfl rfl (aB1 (by decide) aB0)
theorem k_tak4 (h : MH) (a b c : Int32) : SK l X 3 38 [vR 15 0, vI a, vI b, vI c] h (some (vI (if a &&& b = 0 then 0 else a &&& b ||| 1))) h := by
  refine SK.of (by decide) (by decide) rfl ?_
  obtain ⟨ii, jj, rr, n⟩ := h
  refine GB.go 9999 rfl aB0 ?_
  refine GB.cal rfl rfl (by decide) (k_tak1 _ 15 (Or.inr rfl) a b c) ?_
  refine GB.go 9999 rfl aB0 ?_
  refine GB.br rfl rfl (fun e => ?_) (fun e => ?_)
  · rw [if_pos e]
    refine GB.go 9999 rfl aB0 ?_
    exact GB.ret rfl rfl aB0
  · rw [if_neg e]
    refine GB.go 9999 rfl aB0 ?_
    exact GB.ret rfl rfl aB0
theorem k_fad4 (h : MH) (a : Int32) : SK l X 2 39 [vR 15 0, vI a] h (some (vI (iR a 2 + (if iR a 3 = 0 then 1 else 0)))) h := by
  refine SK.of (by decide) (by decide) rfl ?_
  obtain ⟨ii, jj, rr, n⟩ := h
  refine GB.go 9999 rfl aB0 ?_
  refine GB.cal rfl rfl (by decide) (k_fad1 _ 15 a) ?_
  refine GB.go 9999 rfl (aB1 (by decide) aB0) ?_
  refine GB.br rfl rfl (fun e => ?_) (fun e => ?_)
  · rw [if_pos (show iR a 3 = 0 from e)]
    refine GB.go 9999 rfl aB0 ?_
    exact GB.ret rfl rfl aB0
  · rw [if_neg (show ¬ iR a 3 = 0 from e)]
    refine GB.go 9999 rfl aB0 ?_
    exact GB.ret rfl rfl aB0
theorem k_also5 (h : MH) (v : Int32) : SK l X 3 2 [vR 16 0, vI v] h (some (vI (bI (decide (v = 5 ∨ v = 2 ∨ v = 0))))) h := by
  refine SK.of (by decide) (by decide) rfl ?_
  obtain ⟨ii, jj, rr, n⟩ := h
  refine GB.go 9999 rfl aB0 ?_
  refine GB.br rfl rfl (fun c => ?_) (fun c => ?_)
  · rw [bI_1 (Or.inl c)]
    refine GB.go 9999 rfl aB0 ?_
    exact GB.ret rfl rfl (aB1 (by decide) aB0)
  · refine GB.go 9999 rfl aB0 ?_
    refine GB.cal rfl rfl (by decide) (k_also2 _ _ (Or.inr rfl) v) ?_
    refine GB.br rfl rfl (fun c2 => ?_) (fun c2 => ?_)
    · rw [bI_0 (by rintro (h | h); exact c h; exact bd_f c2 h)]
      refine GB.go 9999 rfl aB0 ?_
      exact GB.ret rfl rfl (aB1 (by decide) aB0)
    · rw [bI_1 (Or.inr (bd_t c2))]
      refine GB.go 9999 rfl aB0 ?_
      exact GB.ret rfl rfl (aB1 (by decide) aB0)
theorem k_tak5 (h : MH) (a b c : Int32) : SK l X 2 57 [vR 16 0, vI a, vI b, vI c] h (some (vI (topB 12 (a &&& (c ^^^ -1))))) h := by
  refine SK.of (by decide) (by decide) rfl ?_
  obtain ⟨ii, jj, rr, n⟩ := h
  refine GB.go 9999 rfl aB0 ?_
  refine GB.cal rfl rfl (by decide) (k_tak0 _ 16 a b c) ?_
  refine GB.go 9999 rfl aB0 ?_
  refine GB.cal rfl rfl (by decide) (k_cho5 _ (a &&& (c ^^^ -1))) ?_
  exact GB.ret rfl rfl aB0
theorem k_kep5 (h : MH) (a : Int32) : SK l X 3 4 [vR 16 0, vI a] h (some (vI 5)) h := by
  refine SK.of (by decide) (by decide) rfl ?_
  obtain ⟨ii, jj, rr, n⟩ := h
  refine GB.go 9999 rfl aB0 ?_
  refine GB.cal rfl rfl (by decide) (k_kep2 _ _ (Or.inr rfl) a) ?_
  refine GB.go 9999 rfl aB0 ?_
  exact GB.ret rfl rfl aB0
theorem k_fad5 (h : MH) (a : Int32) : SK l X 3 5 [vR 16 0, vI a] h (some (vI 1)) h := by
  refine SK.of (by decide) (by decide) rfl ?_
  obtain ⟨ii, jj, rr, n⟩ := h
  refine GB.go 9999 rfl aB0 ?_
  refine GB.cal rfl rfl (by decide) (k_fad2 _ _ (Or.inr rfl) a) ?_
  refine GB.go 9999 rfl aB0 ?_
  exact GB.ret rfl rfl aB0
end MK
