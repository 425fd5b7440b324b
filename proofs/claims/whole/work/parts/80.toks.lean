/-! THE TEXT: tokens, told once for both -/
section TK
variable (z : Nat) (β : Nat → Nat)
def isL (b : Nat) : Bool := decide (97 ≤ b ∧ b ≤ 122)
def isD (b : Nat) : Bool := decide (48 ≤ b ∧ b ≤ 57)
/-- the sort of token to which a place belongs: 4 end, 1 word, 2 number, 3 sign, 0 other -/
def tkc (p : Nat) : Nat := if z ≤ p then 4 else cond (isL (β p)) 1 (cond (isD (β p)) 2 (if β p = 59 then 3 else 0))
def skF : Nat → Nat → Nat
  | 0, p => p
  | f + 1, p => if p < z ∧ β p = 32 then skF f (p + 1) else p
def rnF (c : Nat) : Nat → Nat → Nat
  | 0, p => p
  | f + 1, p => if tkc z β p = c then rnF c f (p + 1) else p
/-- where a token begins, from a place on; where it ends -/
def skp (p : Nat) : Nat := skF z β z p
def tke (s : Nat) : Nat := if tkc z β s = 4 then s else if tkc z β s = 1 ∨ tkc z β s = 2 then rnF z β (tkc z β s) z (s + 1) else s + 1
/-- the bytes from s on are a word's, n of them from j on -/
def alE (k s : Nat) : Nat → Nat → Bool
  | 0, _ => true
  | n + 1, j => if nI (β (s + j)) = mj_sbyt k j then alE k s n (j + 1) else false
def nmE (s e k : Nat) : Bool := decide (e - s = mj_slen k) && alE β k s (mj_slen k) 0
def wdX (s e : Nat) : Nat := match fstK (nmE β s e) 13 0 with
  | some k => k
  | none => 23
def vlM (s : Nat) : Nat → Nat
  | 0 => 0
  | j + 1 => if 9999 < vlM s j then vlM s j else 10 * vlM s j + β (s + j) - 48
/-- the token at its beginning: words 0 to 12, 20 number, 21 sign, 22 end, 23 another; its value -/
def mtk (s : Nat) : Nat := match tkc z β s with
  | 4 => 22
  | 1 => wdX β s (tke z β s)
  | 2 => 20
  | 3 => 21
  | _ => 23
def mvl (s : Nat) : Nat := if tkc z β s = 2 then vlM β s (tke z β s - s) else 0
end TK
section TK
variable {z : Nat} {β : Nat → Nat}
theorem skF_ge : ∀ f p, p ≤ skF z β f p
  | 0, _ => Nat.le_refl _
  | f + 1, p => by
    unfold skF
    split
    · have := skF_ge f (p + 1)
      omega
    · exact Nat.le_refl _
theorem skF_le : ∀ f p, p ≤ z → skF z β f p ≤ z
  | 0, _, h => h
  | f + 1, p, h => by
    unfold skF
    split
    · exact skF_le f (p + 1) (by omega)
    · exact h
theorem rnF_le {c : Nat} (hc : c ≠ 4) : ∀ f p, p ≤ z → rnF z β c f p ≤ z
  | 0, _, h => h
  | f + 1, p, h => by
    unfold rnF
    split
    · next e =>
      refine rnF_le hc f (p + 1) (Nat.lt_of_not_le (fun q => hc ?_))
      rw [← e]
      exact (if_pos q)
    · exact h
theorem rnF_ge {c : Nat} : ∀ f p, p ≤ rnF z β c f p
  | 0, _ => Nat.le_refl _
  | f + 1, p => by
    unfold rnF
    split
    · have := rnF_ge (c := c) f (p + 1)
      omega
    · exact Nat.le_refl _
theorem rnF_all {c : Nat} : ∀ f p j, p ≤ j → j < rnF z β c f p → tkc z β j = c
  | 0, p, j, h1, h2 => absurd h2 (by unfold rnF; omega)
  | f + 1, p, j, h1, h2 => by
    unfold rnF at h2
    split at h2
    · next e =>
      by_cases q : j = p
      · rw [q]
        exact e
      · exact rnF_all f (p + 1) j (by omega) h2
    · omega
theorem tkc_lt {p : Nat} (h : tkc z β p ≠ 4) : p < z := Nat.lt_of_not_le (fun q => h (if_pos q))
theorem tke_le {s : Nat} (h : s ≤ z) : tke z β s ≤ z := by
  unfold tke
  split
  · exact h
  · next e =>
    have := tkc_lt e
    split
    · exact rnF_le e _ _ (by omega)
    · omega
theorem tke_gt {s : Nat} (h : tkc z β s ≠ 4) : s < tke z β s := by
  unfold tke
  rw [if_neg h]
  split
  · have := rnF_ge (z := z) (β := β) (c := tkc z β s) z (s + 1)
    omega
  · omega
theorem tke_all {s j : Nat} (h : tkc z β s = 1 ∨ tkc z β s = 2) (h1 : s ≤ j) (h2 : j < tke z β s) : tkc z β j = tkc z β s := by
  unfold tke at h2
  rw [if_neg (by omega), if_pos h] at h2
  by_cases e : j = s
  · rw [e]
  · exact rnF_all z (s + 1) j (by omega) h2
theorem tkc_1 {p : Nat} (h : tkc z β p = 1) : p < z ∧ 97 ≤ β p ∧ β p ≤ 122 := by
  have hp := tkc_lt (z := z) (β := β) (p := p) (by rw [h]; decide)
  unfold tkc at h
  rw [if_neg (by omega)] at h
  refine ⟨hp, ?_⟩
  cases e : isL (β p) with
  | true => exact of_decide_eq_true e
  | false =>
    rw [e, cond_false] at h
    cases e2 : isD (β p) with
    | true => rw [e2] at h; cases h
    | false =>
      rw [e2, cond_false] at h
      split at h <;> cases h
theorem tkc_2 {p : Nat} (h : tkc z β p = 2) : p < z ∧ 48 ≤ β p ∧ β p ≤ 57 := by
  have hp := tkc_lt (z := z) (β := β) (p := p) (by rw [h]; decide)
  unfold tkc at h
  rw [if_neg (by omega)] at h
  refine ⟨hp, ?_⟩
  cases e : isL (β p) with
  | true => rw [e] at h; cases h
  | false =>
    rw [e, cond_false] at h
    cases e2 : isD (β p) with
    | true => exact of_decide_eq_true e2
    | false =>
      rw [e2, cond_false] at h
      split at h <;> cases h
theorem vl_b {s : Nat} : ∀ j, (∀ i, i < j → β (s + i) ≤ 57) → vlM β s j ≤ 99999
  | 0, _ => Nat.zero_le _
  | j + 1, h => by
    have ih := vl_b j (fun i hi => h i (by omega))
    have := h j (by omega)
    unfold vlM
    split <;> omega
/-- the class's number: cut at 10000 -/
def vlC (β : Nat → Nat) (s : Nat) : Nat → Nat
  | 0 => 0
  | j + 1 => min 10000 (10 * vlC β s j + β (s + j) - 48)
theorem vl_cm {s : Nat} : ∀ j, (∀ i, i < j → 48 ≤ β (s + i) ∧ β (s + i) ≤ 57) → vlC β s j = min 10000 (vlM β s j)
  | 0, _ => rfl
  | j + 1, h => by
    have ih := vl_cm j (fun i hi => h i (by omega))
    have := h j (by omega)
    unfold vlC vlM
    rw [ih]
    split <;> omega
theorem nm_a : ∀ k, k < 13 → ∀ q, q < 13 → mj_slen k = mj_slen q → (∀ j, j < 7 → j < mj_slen k → mj_sbyt k j = mj_sbyt q j) → k = q := by decide +kernel
theorem nm_7 : ∀ k, k < 13 → 0 < mj_slen k ∧ mj_slen k ≤ 7 := by decide +kernel
theorem alE_all {k s : Nat} : ∀ n j, alE β k s n j = true → ∀ i, j ≤ i → i < j + n → nI (β (s + i)) = mj_sbyt k i
  | 0, j, _, i, h1, h2 => absurd h2 (by omega)
  | n + 1, j, h, i, h1, h2 => by
    unfold alE at h
    split at h
    · next e =>
      by_cases q : i = j
      · rw [q]
        exact e
      · exact alE_all n (j + 1) h i (by omega) (by omega)
    · cases h
theorem nm_one {s e k q : Nat} (hk : k < 13) (hq : q < 13) (h1 : nmE β s e k = true) (h2 : nmE β s e q = true) : k = q := by
  unfold nmE at h1 h2
  rw [Bool.and_eq_true] at h1 h2
  have l1 := of_decide_eq_true h1.1
  have l2 := of_decide_eq_true h2.1
  refine nm_a k hk q hq (by omega) (fun j _ hj => ?_)
  rw [← alE_all _ _ h1.2 j (by omega) (by omega), alE_all _ _ h2.2 j (by omega) (by omega)]
theorem fstK_some {P : Nat → Bool} : ∀ N k x, fstK P N k = some x → P x = true ∧ k ≤ x ∧ x < k + N
  | 0, _, _, h => by cases h
  | N + 1, k, x, h => by
    unfold fstK at h
    cases e : P k with
    | true =>
      rw [e] at h
      cases h
      exact ⟨e, Nat.le_refl _, by omega⟩
    | false =>
      rw [e] at h
      have := fstK_some N (k + 1) x h
      exact ⟨this.1, by omega, by omega⟩
theorem fstK_none {P : Nat → Bool} : ∀ N k, fstK P N k = none → ∀ j, k ≤ j → j < k + N → P j = false
  | 0, _, _, j, h1, h2 => absurd h2 (by omega)
  | N + 1, k, h, j, h1, h2 => by
    unfold fstK at h
    cases e : P k with
    | true => rw [e] at h; cases h
    | false =>
      rw [e] at h
      by_cases q : j = k
      · rw [q]
        exact e
      · exact fstK_none N (k + 1) h j (by omega) (by omega)
/-- asking for a word, both ways -/
theorem wd_iff {s e k : Nat} (hk : k < 13) : wdX β s e = k ↔ nmE β s e k = true := by
  unfold wdX
  cases h : fstK (nmE β s e) 13 0 with
  | some x =>
    obtain ⟨p, _, hx⟩ := fstK_some 13 0 x h
    exact ⟨fun q => by rw [← q]; exact p, fun q => nm_one (by omega) hk p q⟩
  | none =>
    constructor
    · intro q
      exact absurd (show (23 : Nat) = k from q) (by omega)
    · intro q
      rw [fstK_none 13 0 h k (by omega) (by omega)] at q
      cases q
theorem mt_wd {s k : Nat} (hk : k < 13) : mtk z β s = k ↔ tkc z β s = 1 ∧ nmE β s (tke z β s) k = true := by
  unfold mtk
  split
  · next e => exact ⟨fun h => by omega, fun h => absurd (e.symm.trans h.1) (by decide)⟩
  · next e => rw [wd_iff hk]; exact ⟨fun h => ⟨e, h⟩, fun h => h.2⟩
  · next e => exact ⟨fun h => by omega, fun h => absurd (e.symm.trans h.1) (by decide)⟩
  · next e => exact ⟨fun h => by omega, fun h => absurd (e.symm.trans h.1) (by decide)⟩
  · next e1 e2 e3 e4 => exact ⟨fun h => by omega, fun h => absurd h.1 e2⟩
theorem wdX_ne {s e x : Nat} (h13 : 13 ≤ x) (h23 : x ≠ 23) : wdX β s e ≠ x := by
  unfold wdX
  cases h : fstK (nmE β s e) 13 0 with
  | some y =>
    obtain ⟨_, _, hx⟩ := fstK_some 13 0 y h
    show y ≠ x
    omega
  | none => exact fun q => h23 q.symm
theorem tkc_lt5 {s : Nat} : tkc z β s < 5 := by
  unfold tkc
  split
  · decide
  · cases isL (β s) <;> cases isD (β s) <;> simp only [cond_true, cond_false] <;> try decide
    split <;> decide
theorem mt_c {s x c : Nat} (h : (x = 20 ∧ c = 2) ∨ (x = 21 ∧ c = 3) ∨ (x = 22 ∧ c = 4)) : mtk z β s = x ↔ tkc z β s = c := by
  have h5 := tkc_lt5 (z := z) (β := β) (s := s)
  have hw : wdX β s (tke z β s) ≠ x := wdX_ne (by omega) (by omega)
  unfold mtk
  split
  · next e => omega
  · next e => exact ⟨fun q => absurd q hw, fun q => by omega⟩
  · next e => omega
  · next e => omega
  · next e1 e2 e3 e4 =>
    refine ⟨fun q => by omega, fun q => ?_⟩
    rcases h with h | h | h
    · exact absurd (q.trans h.2) e3
    · exact absurd (q.trans h.2) e4
    · exact absurd (q.trans h.2) e1
end TK
