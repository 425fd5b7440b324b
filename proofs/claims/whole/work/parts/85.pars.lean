/-! THE TEXT: what is read, told once for both -/
section PA
variable (z : Nat) (β : Nat → Nat)
/-- the next token -/
def nxt (s : Nat) : Nat := skp z β (tke z β s)
/-- perhaps a word and a number -/
def prh (w m so s : Nat) : Bool × Nat × Nat := if mtk z β s = w then (if mtk z β (nxt z β s) = 20 ∧ mvl z β (nxt z β s) ≤ m then (true, nxt z β (nxt z β s), mvl z β (nxt z β s)) else (false, nxt z β s, mvl z β (nxt z β s))) else (true, s, so)
def rowH (m : Nat → Int32) (n : Nat) (k p a : Int32) : Nat → Int32 := nHm (fun _ _ c => m c) n k p a 26 0
def rowD (m : Nat → Int32) (n : Nat) (a b : Int32) : Nat → Int32 := nDm (fun _ _ c => m c) n a b 26 0
def rowM (m : Nat → Int32) (v : Int32) : Nat → Int32 := up3 (fun _ _ c => m c) 26 0 1 v 26 0
abbrev PS : Type := Bool × Nat × (Nat → Int32) × Nat × Nat
def hatI (s : Nat) (m : Nat → Int32) (n d : Nat) : PS := if n = 8 then (false, s, m, n, d) else
  cond (prh z β 6 4095 0 (nxt z β s)).1
    (cond (prh z β 7 99 5 (prh z β 6 4095 0 (nxt z β s)).2.1).1
      (true, (prh z β 7 99 5 (prh z β 6 4095 0 (nxt z β s)).2.1).2.1, rowH m n (nI (mtk z β s)) (nI (prh z β 7 99 5 (prh z β 6 4095 0 (nxt z β s)).2.1).2.2) (nI (prh z β 6 4095 0 (nxt z β s)).2.2), n + 1, d)
      (false, (prh z β 7 99 5 (prh z β 6 4095 0 (nxt z β s)).2.1).2.1, m, n, d))
    (false, (prh z β 6 4095 0 (nxt z β s)).2.1, m, n, d)
def headI (s : Nat) (m : Nat → Int32) (n d : Nat) : PS := if d = 6 then (false, s, m, n, d) else
  cond (prh z β 9 4095 0 (nxt z β s)).1
    (if mtk z β (prh z β 9 4095 0 (nxt z β s)).2.1 = 10 then (true, nxt z β (prh z β 9 4095 0 (nxt z β s)).2.1, rowD m d (nI (prh z β 9 4095 0 (nxt z β s)).2.2) 1, n, d + 1) else (true, (prh z β 9 4095 0 (nxt z β s)).2.1, rowD m d (nI (prh z β 9 4095 0 (nxt z β s)).2.2) 0, n, d + 1))
    (false, (prh z β 9 4095 0 (nxt z β s)).2.1, m, n, d)
def itm (s : Nat) (m : Nat → Int32) (n d : Nat) : PS := if mtk z β s ≤ 5 then hatI z β s m n d else if mtk z β s = 8 then headI z β s m n d else if mtk z β s = 11 then (true, nxt z β s, rowM m 1, n, d) else if mtk z β s = 12 then (true, nxt z β s, rowM m 0, n, d) else (false, s, m, n, d)
/-- items one behind another: the answer, as class and model give it; what there is then -/
def its : Nat → Nat → (Nat → Int32) → Nat → Nat → Nat → Bool × Nat × (Nat → Int32) × Nat × Nat × Nat
  | 0, s, m, n, d, i => (false, s, m, n, d, i)
  | f + 1, s, m, n, d, i => cond (itm z β s m n d).1
    (if mtk z β (itm z β s m n d).2.1 = 21 then its f (nxt z β (itm z β s m n d).2.1) (itm z β s m n d).2.2.1 (itm z β s m n d).2.2.2.1 (itm z β s m n d).2.2.2.2 (i + 1)
      else if mtk z β (itm z β s m n d).2.1 = 22 then (true, (itm z β s m n d).2.1, (itm z β s m n d).2.2.1, (itm z β s m n d).2.2.2.1, (itm z β s m n d).2.2.2.2, i + 1)
      else (false, (itm z β s m n d).2.1, (itm z β s m n d).2.2.1, (itm z β s m n d).2.2.2.1, (itm z β s m n d).2.2.2.2, i + 1))
    (false, (itm z β s m n d).2.1, (itm z β s m n d).2.2.1, (itm z β s m n d).2.2.2.1, (itm z β s m n d).2.2.2.2, i + 1)
end PA
section PA
variable {z : Nat} {β : Nat → Nat}
theorem nxt_le {s : Nat} (h : s ≤ z) : nxt z β s ≤ z := skF_le z _ (tke_le h)
theorem nxt_ge {s : Nat} : tke z β s ≤ nxt z β s := skF_ge z _
theorem tke_ge {s : Nat} : s ≤ tke z β s := by
  by_cases h : tkc z β s = 4
  · rw [show tke z β s = s from if_pos h]
    exact Nat.le_refl _
  · exact Nat.le_of_lt (tke_gt h)
theorem nxt_gt {s : Nat} (h : mtk z β s ≠ 22) : s < nxt z β s := Nat.lt_of_lt_of_le (tke_gt (fun q => h ((mt_c (by omega)).mpr q))) nxt_ge
theorem nxt_ge2 {s : Nat} : s ≤ nxt z β s := Nat.le_trans tke_ge nxt_ge
theorem prh_le {w m so s : Nat} (h : s ≤ z) : (prh z β w m so s).2.1 ≤ z ∧ s ≤ (prh z β w m so s).2.1 := by
  unfold prh
  split
  · split
    · exact ⟨nxt_le (nxt_le h), Nat.le_trans nxt_ge2 nxt_ge2⟩
    · exact ⟨nxt_le h, nxt_ge2⟩
  · exact ⟨h, Nat.le_refl _⟩
theorem prh_v {w m so s : Nat} (hso : so ≤ m) (h : (prh z β w m so s).1 = true) : (prh z β w m so s).2.2 ≤ m := by
  unfold prh at *
  split at h
  · split at h
    · next e1 e2 =>
      rw [if_pos e1, if_pos e2]
      exact e2.2
    · cases h
  · next e =>
    rw [if_neg e]
    exact hso
theorem itm_le {s n d : Nat} {m : Nat → Int32} (h : s ≤ z) : (itm z β s m n d).2.1 ≤ z ∧ s ≤ (itm z β s m n d).2.1 := by
  have n1 := nxt_le (β := β) h
  have n2 := nxt_ge2 (z := z) (β := β) (s := s)
  unfold itm
  split
  · unfold hatI
    have p1 := prh_le (β := β) (w := 6) (m := 4095) (so := 0) n1
    have p2 := prh_le (β := β) (w := 7) (m := 99) (so := 5) p1.1
    split
    · exact ⟨h, Nat.le_refl _⟩
    · cases (prh z β 6 4095 0 (nxt z β s)).1
      · exact ⟨p1.1, by rw [cond_false]; show s ≤ (prh z β 6 4095 0 (nxt z β s)).2.1; omega⟩
      · cases (prh z β 7 99 5 (prh z β 6 4095 0 (nxt z β s)).2.1).1
        · exact ⟨p2.1, by rw [cond_true, cond_false]; show s ≤ (prh z β 7 99 5 (prh z β 6 4095 0 (nxt z β s)).2.1).2.1; omega⟩
        · exact ⟨p2.1, by rw [cond_true, cond_true]; show s ≤ (prh z β 7 99 5 (prh z β 6 4095 0 (nxt z β s)).2.1).2.1; omega⟩
  · split
    · unfold headI
      have p1 := prh_le (β := β) (w := 9) (m := 4095) (so := 0) n1
      have p2 := nxt_le (β := β) p1.1
      have p3 := nxt_ge2 (z := z) (β := β) (s := (prh z β 9 4095 0 (nxt z β s)).2.1)
      split
      · exact ⟨h, Nat.le_refl _⟩
      · cases (prh z β 9 4095 0 (nxt z β s)).1
        · exact ⟨p1.1, by rw [cond_false]; show s ≤ (prh z β 9 4095 0 (nxt z β s)).2.1; omega⟩
        · rw [cond_true]
          split
          · exact ⟨p2, by show s ≤ nxt z β (prh z β 9 4095 0 (nxt z β s)).2.1; omega⟩
          · exact ⟨p1.1, by show s ≤ (prh z β 9 4095 0 (nxt z β s)).2.1; omega⟩
    · split
      · exact ⟨n1, n2⟩
      · split
        · exact ⟨n1, n2⟩
        · exact ⟨h, Nat.le_refl _⟩
theorem itm_gt {s n d : Nat} {m : Nat → Int32} (h : s ≤ z) (ok : (itm z β s m n d).1 = true) : s < (itm z β s m n d).2.1 := by
  have n1 := nxt_le (β := β) h
  unfold itm at *
  split at ok
  · next e =>
    rw [if_pos e]
    have n2 := nxt_gt (z := z) (β := β) (s := s) (by omega)
    unfold hatI at *
    have p1 := prh_le (β := β) (w := 6) (m := 4095) (so := 0) n1
    have p2 := prh_le (β := β) (w := 7) (m := 99) (so := 5) p1.1
    split at ok
    · cases ok
    · next e8 =>
      rw [if_neg e8]
      cases q1 : (prh z β 6 4095 0 (nxt z β s)).1
      · rw [q1] at ok; cases ok
      · rw [q1, cond_true] at ok
        cases q2 : (prh z β 7 99 5 (prh z β 6 4095 0 (nxt z β s)).2.1).1
        · rw [q2] at ok; cases ok
        · rw [cond_true, cond_true]
          show s < (prh z β 7 99 5 (prh z β 6 4095 0 (nxt z β s)).2.1).2.1
          omega
  · next e =>
    rw [if_neg e]
    split at ok
    · next e8 =>
      rw [if_pos e8]
      have n2 := nxt_gt (z := z) (β := β) (s := s) (by omega)
      unfold headI at *
      have p1 := prh_le (β := β) (w := 9) (m := 4095) (so := 0) n1
      have p3 := nxt_ge2 (z := z) (β := β) (s := (prh z β 9 4095 0 (nxt z β s)).2.1)
      split at ok
      · cases ok
      · next e6 =>
        rw [if_neg e6]
        cases q1 : (prh z β 9 4095 0 (nxt z β s)).1
        · rw [q1] at ok; cases ok
        · rw [cond_true]
          split
          · show s < nxt z β (prh z β 9 4095 0 (nxt z β s)).2.1
            omega
          · show s < (prh z β 9 4095 0 (nxt z β s)).2.1
            omega
    · next e8 =>
      rw [if_neg e8]
      split at ok
      · next e11 =>
        rw [if_pos e11]
        exact nxt_gt (by omega)
      · next e11 =>
        rw [if_neg e11]
        split at ok
        · next e12 =>
          rw [if_pos e12]
          exact nxt_gt (by omega)
        · cases ok
end PA
