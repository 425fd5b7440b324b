/-! HATS: what is written -/
/-- the first n of a row written -/
def wA {α : Type} (f : Nat → Nat → Nat → α) (T i n : Nat) (F : Nat → α) : Nat → Nat → Nat → α := fun a b c => if a = T ∧ b = i ∧ c < n then F c else f a b c
section WA
variable {α : Type} {f : Nat → Nat → Nat → α} {T i n : Nat} {F : Nat → α}
theorem wA_0 : wA f T i 0 F = f := by
  funext a b c
  unfold wA
  rw [if_neg (fun h => Nat.not_lt_zero _ h.2.2)]
theorem wA_s : up3 (wA f T i n F) T i n (F n) = wA f T i (n + 1) F := by
  funext a b c
  unfold up3 wA
  by_cases h1 : a = T ∧ b = i ∧ c = n
  · rw [if_pos h1, if_pos ⟨h1.1, h1.2.1, by omega⟩, h1.2.2]
  · rw [if_neg h1]
    by_cases h2 : a = T ∧ b = i ∧ c < n
    · rw [if_pos h2, if_pos ⟨h2.1, h2.2.1, by omega⟩]
    · rw [if_neg h2, if_neg (fun h => by
        rcases Nat.lt_or_ge c n with h3 | h3
        · exact h2 ⟨h.1, h.2.1, h3⟩
        · exact h1 ⟨h.1, h.2.1, by omega⟩)]
theorem wA_same (h : F n = f T i n) : wA f T i (n + 1) F = wA f T i n F := by
  rw [← wA_s]
  funext a b c
  unfold up3
  by_cases h1 : a = T ∧ b = i ∧ c = n
  · rw [if_pos h1, h1.1, h1.2.1, h1.2.2, h]
    unfold wA
    rw [if_neg (fun h => Nat.lt_irrefl _ h.2.2)]
  · rw [if_neg h1]
theorem wA_rd : wA f T i n F T i n = f T i n := by
  unfold wA
  rw [if_neg (fun h => Nat.lt_irrefl _ h.2.2)]
theorem wA_ne {a b c : Nat} (h : ¬ (a = T ∧ b = i)) : wA f T i n F a b c = f a b c := by
  unfold wA
  rw [if_neg (fun h2 => h ⟨h2.1, h2.2.1⟩)]
theorem wA_lt {c : Nat} (h : c < n) : wA f T i n F T i c = F c := by
  unfold wA
  rw [if_pos ⟨rfl, rfl, h⟩]
end WA
theorem up3_tag {α : Type} {f : Nat → Nat → Nat → α} {t i k a : Nat} {v : α} (h : a ≠ t) : up3 f t i k v a = f a := by
  funext b c
  unfold up3
  rw [if_neg (fun h2 => h h2.1)]
theorem cp_wA {α : Type} {f : Nat → Nat → Nat → α} {T i : Nat} {F G : Nat → α} (h : G = F) : upA f T i (va_cpy G (f T i) (Int32.toNatClampNeg 0) (Int32.toNatClampNeg 0) (Int32.toNatClampNeg 12)) = wA f T i 12 F := by
  subst h
  funext a b c
  unfold upA va_cpy wA
  rw [show Int32.toNatClampNeg 0 = 0 by decide, show Int32.toNatClampNeg 12 = 12 by decide]
  by_cases h1 : a = T ∧ b = i
  · obtain ⟨rfl, rfl⟩ := h1
    rw [if_pos ⟨rfl, rfl⟩]
    by_cases h2 : c < 12
    · rw [if_pos ⟨Nat.zero_le _, by omega⟩, if_pos ⟨rfl, rfl, h2⟩]
      congr 1
      omega
    · rw [if_neg (fun h => h2 (by omega)), if_neg (fun h => h2 h.2.2)]
  · rw [if_neg h1, if_neg (fun h => h1 ⟨h.1, h.2.1⟩)]
/-- a hat's kind changed -/
def kU (kd : Nat → Nat) (i c : Nat) : Nat → Nat := fun x => if x = i then c else kd x
theorem rk_up (kd : Nat → Nat) (i c : Nat) : up3 (mj_rk kd) 20 i 1 (c + 11, 0) = mj_rk (kU kd i c) := by
  funext a b k
  unfold up3
  by_cases h : a = 20 ∧ b = i ∧ k = 1
  · obtain ⟨rfl, rfl, rfl⟩ := h
    rw [if_pos ⟨rfl, rfl, rfl⟩]
    show (c + 11, 0) = ((if b = b then c else kd b) + 11, 0)
    rw [if_pos rfl]
  · rw [if_neg h]
    by_cases h2 : a = 20
    · subst h2
      match k, h with
      | 0, _ => rfl
      | 1, h =>
        show (kd b + 11, 0) = ((if b = i then c else kd b) + 11, 0)
        rw [if_neg (fun e => h ⟨rfl, e, rfl⟩)]
      | k + 2, _ => rfl
    · unfold mj_rk
      split <;> first | rfl | exact absurd rfl h2
section MH
variable {l : Launch} {X : FX} {ii : Nat → Nat → Nat → Int32} {jj : Nat → Nat → Nat → Int64} {kd : Nat → Nat}
theorem k_fill (i : Nat) (a : Int32) : SK l X 1 229 [vR 21 i, vI a] (ii, jj, mj_rk kd, 108) none (wA ii 21 i 12 (fun _ => a), jj, mj_rk kd, 108) := by
  refine SK.of (by decide) (by decide) rfl ?_
  refine GB.go 5 rfl aB0 ?_
  refine GB.eqv (s1 := (5, [some (vR 21 i), some (vI a), some (vI (nI 0)), some (vI (nI 12))], [], (wA ii 21 i 0 (fun _ => a), jj, mj_rk kd, 108))) (by rw [wA_0]; rfl) ?_
  refine GB.upto 12 (fun k => (5, [some (vR 21 i), some (vI a), some (vI (nI k)), some (vI (nI 12))], [], (wA ii 21 i k (fun _ => a), jj, mj_rk kd, 108))) (fun k hk ih => ?_) ?_ 12 0 rfl
  · refine GB.go 9999 rfl aB0 ?_
    refine GB.br rfl rfl (fun c => ?_) (fun c => ?_)
    · exact absurd c (nI_ge hk (by decide))
    · refine GB.go 5 rfl (aB1 (mn_vin hk (by decide)) aB0) ?_
      rw [nI_clamp (show k < 2 ^ 31 by omega), wA_s (F := fun _ => a)]
      rw [nI_succ] at ih
      exact ih
  · refine GB.go 9999 rfl aB0 ?_
    refine GB.br rfl rfl (fun c => ?_) (fun c => ?_)
    · refine GB.go 9999 rfl aB0 ?_
      exact GB.ret rfl rfl aB0
    · exact absurd (Int32.le_refl _) c
theorem k_begin (i c : Nat) (hc : c < 6) : SK l X 2 15 [vR 20 i, vR (c + 11) 0] (ii, jj, mj_rk kd, 108) none (wA (up3 ii 20 i 2 5) 21 i 12 (fun _ => 0), jj, mj_rk (kU kd i c), 108) := by
  refine SK.of (by decide) (by decide) rfl ?_
  refine GB.go 5 rfl aB0 ?_
  rw [rk_up]
  refine GB.go 9999 rfl aB0 ?_
  refine GB.cal rfl rfl (by decide) (k_fill i 0) ?_
  exact GB.ret rfl rfl aB0
theorem k_become (i j : Nat) (hj : kd j < 6) : SK l X 2 16 [vR 20 i, vR 20 j] (ii, jj, mj_rk kd, 108) none (wA (up3 ii 20 i 2 (ii 20 j 2)) 21 i 12 (ii 21 j), jj, mj_rk (kU kd i (kd j)), 108) := by
  refine SK.of (by decide) (by decide) rfl ?_
  refine GB.go 8 rfl aB0 ?_
  rw [rk_up]
  refine GB.go 28 rfl aB0 ?_
  refine GB.go 31 rfl (aB1 (by decide) (aB1 (by decide) (aB1 (by decide) (aB1 (by decide) (aB1 (by decide) aB0))))) ?_
  rw [cp_wA (by rw [up3_tag (by decide)])]
  exact GB.ret rfl rfl aB0
theorem k_hold (i : Nat) (a : Int32) : SK l X 1 17 [vR 20 i, vI a] (ii, jj, mj_rk kd, 108) none (wA ii 21 i 12 (fun t => if a &&& bT t = 0 then 0 else 9), jj, mj_rk kd, 108) := by
  refine SK.of (by decide) (by decide) rfl ?_
  refine GB.go 2 rfl aB0 ?_
  refine GB.eqv (s1 := (2, [some (vR 20 i), some (vI a), some (vI (nI 0))], [], (wA ii 21 i 0 (fun t => if a &&& bT t = 0 then 0 else 9), jj, mj_rk kd, 108))) (by rw [wA_0]; rfl) ?_
  refine GB.upto 12 (fun k => (2, [some (vR 20 i), some (vI a), some (vI (nI k))], [], (wA ii 21 i k (fun t => if a &&& bT t = 0 then 0 else 9), jj, mj_rk kd, 108))) (fun k hk ih => ?_) ?_ 12 0 rfl
  · rw [← wA_s, nI_succ] at ih
    refine GB.go 9999 rfl aB0 ?_
    refine GB.br rfl rfl (fun c => ?_) (fun c => ?_)
    · exact absurd c (nI_ge hk (by decide))
    · refine GB.go 9999 rfl aB0 ?_
      refine GB.br rfl rfl (fun c2 => ?_) (fun c2 => ?_)
      · rw [if_pos (show a &&& bT k = 0 from c2)] at ih
        refine GB.go 2 rfl (aB1 (mn_vin hk (by decide)) aB0) ?_
        rw [nI_clamp (show k < 2 ^ 31 by omega)]
        exact ih
      · rw [if_neg (show ¬ a &&& bT k = 0 from c2)] at ih
        refine GB.go 2 rfl (aB1 (mn_vin hk (by decide)) aB0) ?_
        rw [nI_clamp (show k < 2 ^ 31 by omega)]
        exact ih
  · refine GB.go 9999 rfl aB0 ?_
    refine GB.br rfl rfl (fun c => ?_) (fun c => ?_)
    · refine GB.go 9999 rfl aB0 ?_
      exact GB.ret rfl rfl aB0
    · exact absurd (Int32.le_refl _) c
theorem k_mix (i j : Nat) (hij : i ≠ j) : SK l X 1 24 [vR 20 i, vR 20 j] (ii, jj, mj_rk kd, 108) none (wA ii 21 i 12 (fun t => (ii 21 i t + ii 21 j t) / 2), jj, mj_rk kd, 108) := by
  refine SK.of (by decide) (by decide) rfl ?_
  refine GB.go 2 rfl aB0 ?_
  refine GB.eqv (s1 := (2, [some (vR 20 i), some (vR 20 j), some (vI (nI 0))], [], (wA ii 21 i 0 (fun t => (ii 21 i t + ii 21 j t) / 2), jj, mj_rk kd, 108))) (by rw [wA_0]; rfl) ?_
  refine GB.upto 12 (fun k => (2, [some (vR 20 i), some (vR 20 j), some (vI (nI k))], [], (wA ii 21 i k (fun t => (ii 21 i t + ii 21 j t) / 2), jj, mj_rk kd, 108))) (fun k hk ih => ?_) ?_ 12 0 rfl
  · rw [← wA_s, nI_succ] at ih
    refine GB.go 9999 rfl aB0 ?_
    refine GB.br rfl rfl (fun c => ?_) (fun c => ?_)
    · exact absurd c (nI_ge hk (by decide))
    · refine GB.go 19 rfl (aB1 (mn_vin hk (by decide)) aB0) ?_
      rw [nI_clamp (show k < 2 ^ 31 by omega), wA_rd]
      refine GB.go 25 rfl (aB1 (mn_vin hk (by decide)) aB0) ?_
      rw [nI_clamp (show k < 2 ^ 31 by omega), wA_ne (fun h => hij h.2.symm)]
      refine GB.go 28 rfl (aB1 (by decide) aB0) ?_
      refine GB.go 2 rfl (aB1 (mn_vin hk (by decide)) aB0) ?_
      rw [nI_clamp (show k < 2 ^ 31 by omega)]
      exact ih
  · refine GB.go 9999 rfl aB0 ?_
    refine GB.br rfl rfl (fun c => ?_) (fun c => ?_)
    · refine GB.go 9999 rfl aB0 ?_
      exact GB.ret rfl rfl aB0
    · exact absurd (Int32.le_refl _) c
/-- what a hat remembers -/
def rmF (f : Nat → Int32) (left had : Int32) (t : Nat) : Int32 := if had &&& bT t = 0 then f t else if left ≤ f t then f t else left
theorem k_remember (i : Nat) (hi : kd i < 6) (a : Int32) : SK l X 4 22 [vR 20 i, vI a] (ii, jj, mj_rk kd, 108) none (wA ii 21 i 12 (rmF (ii 21 i) (kpO (kd i) a) a), jj, mj_rk kd, 108) := by
  refine SK.of (by decide) (by decide) rfl ?_
  refine GB.go 9999 rfl aB0 ?_
  refine GB.kep hi rfl (by decide) rfl ?_
  generalize kpO (kd i) a = z
  refine GB.go 11 rfl aB0 ?_
  refine GB.eqv (s1 := (11, [some (vR 20 i), some (vI a), some (vI z), some (vI (nI 0))], [], (wA ii 21 i 0 (rmF (ii 21 i) z a), jj, mj_rk kd, 108))) (by rw [wA_0]; rfl) ?_
  refine GB.upto 12 (fun k => (11, [some (vR 20 i), some (vI a), some (vI z), some (vI (nI k))], [], (wA ii 21 i k (rmF (ii 21 i) z a), jj, mj_rk kd, 108))) (fun k hk ih => ?_) ?_ 12 0 rfl
  · rw [nI_succ] at ih
    refine GB.go 9999 rfl aB0 ?_
    refine GB.br rfl rfl (fun c => ?_) (fun c => ?_)
    · exact absurd c (nI_ge hk (by decide))
    · refine GB.go 9999 rfl aB0 ?_
      refine GB.br rfl rfl (fun c2 => ?_) (fun c2 => ?_)
      · rw [wA_same (show rmF (ii 21 i) z a k = ii 21 i k from if_pos c2)] at ih
        refine GB.go 11 rfl aB0 ?_
        exact ih
      · refine GB.go 9999 rfl (aB1 (mn_vin hk (by decide)) aB0) ?_
        rw [nI_clamp (show k < 2 ^ 31 by omega), wA_rd]
        refine GB.br rfl rfl (fun c3 => ?_) (fun c3 => ?_)
        · rw [wA_same (show rmF (ii 21 i) z a k = ii 21 i k from (if_neg c2).trans (if_pos c3))] at ih
          refine GB.go 11 rfl aB0 ?_
          exact ih
        · rw [← wA_s, show rmF (ii 21 i) z a k = z from (if_neg c2).trans (if_neg c3)] at ih
          refine GB.go 11 rfl (aB1 (mn_vin hk (by decide)) aB0) ?_
          rw [nI_clamp (show k < 2 ^ 31 by omega)]
          exact ih
  · refine GB.go 9999 rfl aB0 ?_
    refine GB.br rfl rfl (fun c => ?_) (fun c => ?_)
    · refine GB.go 9999 rfl aB0 ?_
      exact GB.ret rfl rfl aB0
    · exact absurd (Int32.le_refl _) c
/-- the place that the moths take, from place k on, with n left -/
def lmP (f : Nat → Int32) : Nat → Nat → Int32 → Option Nat
  | 0, _, _ => none
  | n + 1, k, a => if f k ≤ 0 then lmP f n (k + 1) a else if a = 0 then some k else lmP f n (k + 1) (a + -1)
def lmW (ii : Nat → Nat → Nat → Int32) (i : Nat) (o : Option Nat) : Nat → Nat → Nat → Int32 := match o with
  | none => ii
  | some k => up3 ii 21 i k 0
def lM (ii : Nat → Nat → Nat → Int32) (i : Nat) : Nat → Nat → Nat → Int32 := if 3 ≤ bC (hF (ii 21 i) 1 12) then lmW ii i (lmP (ii 21 i) 12 0 ((bC (hF (ii 21 i) 1 12) - 1) / 2)) else ii
theorem k_loseL (i : Nat) (m : Int32) : ∀ n k a, k + n = 12 → GB l X 3 0 0 26 (22, [some (vR 20 i), some (vI m), some (vI a), some (vI (nI k))], [], (ii, jj, mj_rk kd, 108)) none (lmW ii i (lmP (ii 21 i) n k a), jj, mj_rk kd, 108)
  | 0, k, a, h => by
    cases (show k = 12 by omega)
    refine GB.go 9999 rfl aB0 ?_
    refine GB.br rfl rfl (fun c => ?_) (fun c => ?_)
    · refine GB.go 9999 rfl aB0 ?_
      exact GB.ret rfl rfl aB0
    · exact absurd (Int32.le_refl _) c
  | n + 1, k, a, h => by
    have hk : k < 12 := by omega
    refine GB.go 9999 rfl aB0 ?_
    refine GB.br rfl rfl (fun c => ?_) (fun c => ?_)
    · exact absurd c (nI_ge hk (by decide))
    · refine GB.go 9999 rfl (aB1 (mn_vin hk (by decide)) aB0) ?_
      rw [nI_clamp (show k < 2 ^ 31 by omega)]
      refine GB.br rfl rfl (fun c2 => ?_) (fun c2 => ?_)
      · rw [show lmP (ii 21 i) (n + 1) k a = lmP (ii 21 i) n (k + 1) a from if_pos c2]
        have ih := k_loseL i m n (k + 1) a (by omega)
        rw [nI_succ] at ih
        refine GB.go 22 rfl aB0 ?_
        exact ih
      · refine GB.go 9999 rfl aB0 ?_
        refine GB.br rfl rfl (fun c3 => ?_) (fun c3 => ?_)
        · rw [show lmP (ii 21 i) (n + 1) k a = some k from (if_neg c2).trans (if_pos c3)]
          refine GB.go 9999 rfl (aB1 (mn_vin hk (by decide)) aB0) ?_
          rw [nI_clamp (show k < 2 ^ 31 by omega)]
          exact GB.ret rfl rfl aB0
        · rw [show lmP (ii 21 i) (n + 1) k a = lmP (ii 21 i) n (k + 1) (a + -1) from (if_neg c2).trans (if_neg c3)]
          have ih := k_loseL i m n (k + 1) (a + -1) (by omega)
          rw [nI_succ] at ih
          refine GB.go 22 rfl aB0 ?_
          exact ih
theorem k_lose (i : Nat) : SK l X 3 26 [vR 20 i] (ii, jj, mj_rk kd, 108) none (lM ii i, jj, mj_rk kd, 108) := by
  refine SK.of (by decide) (by decide) rfl ?_
  refine GB.go 9999 rfl aB0 ?_
  refine GB.cal rfl rfl (by decide) (k_held i) ?_
  refine GB.cal rfl rfl (by decide) (k_bitc _ _) ?_
  refine GB.go 9999 rfl aB0 ?_
  refine GB.br rfl rfl (fun c => ?_) (fun c => ?_)
  · rw [show lM ii i = lmW ii i (lmP (ii 21 i) 12 0 ((bC (hF (ii 21 i) 1 12) - 1) / 2)) from if_pos c]
    refine GB.go 22 rfl (aB1 (by decide) aB0) ?_
    exact k_loseL i _ 12 0 _ rfl
  · rw [show lM ii i = ii from if_neg c]
    refine GB.go 9999 rfl aB0 ?_
    exact GB.ret rfl rfl aB0
/-- a hat's week, but for the moths -/
def wkF (f : Nat → Int32) (less : Int32) (t : Nat) : Int32 := if 0 < f t - less then f t - less else 0
def pW (ii : Nat → Nat → Nat → Int32) (i c : Nat) (week moths : Int32) : Nat → Nat → Nat → Int32 := if moths = 1 then lM (wA ii 21 i 12 (wkF (ii 21 i) (fdO c week))) i else wA ii 21 i 12 (wkF (ii 21 i) (fdO c week))
theorem k_passWeek (i : Nat) (hi : kd i < 6) (w m : Int32) : SK l X 4 25 [vR 20 i, vI w, vI m] (ii, jj, mj_rk kd, 108) none (pW ii i (kd i) w m, jj, mj_rk kd, 108) := by
  refine SK.of (by decide) (by decide) rfl ?_
  refine GB.go 9999 rfl aB0 ?_
  refine GB.fad hi rfl (by decide) rfl ?_
  unfold pW
  generalize fdO (kd i) w = z
  refine GB.go 12 rfl aB0 ?_
  refine GB.eqv (s1 := (12, [some (vR 20 i), some (vI w), some (vI m), some (vI z), some (vI (nI 0))], [], (wA ii 21 i 0 (wkF (ii 21 i) z), jj, mj_rk kd, 108))) (by rw [wA_0]; rfl) ?_
  refine GB.upto 12 (fun k => (12, [some (vR 20 i), some (vI w), some (vI m), some (vI z), some (vI (nI k))], [], (wA ii 21 i k (wkF (ii 21 i) z), jj, mj_rk kd, 108))) (fun k hk ih => ?_) ?_ 12 0 rfl
  · rw [nI_succ, ← wA_s] at ih
    refine GB.go 9999 rfl aB0 ?_
    refine GB.br rfl rfl (fun c => ?_) (fun c => ?_)
    · exact absurd c (nI_ge hk (by decide))
    · refine GB.go 33 rfl (aB1 (mn_vin hk (by decide)) aB0) ?_
      rw [nI_clamp (show k < 2 ^ 31 by omega), wA_rd]
      refine GB.go 12 rfl (aB1 (mn_vin hk (by decide)) aB0) ?_
      rw [nI_clamp (show k < 2 ^ 31 by omega)]
      exact ih
  · refine GB.go 9999 rfl aB0 ?_
    refine GB.br rfl rfl (fun c => ?_) (fun c => ?_)
    · refine GB.go 9999 rfl aB0 ?_
      refine GB.br rfl rfl (fun c2 => ?_) (fun c2 => ?_)
      · rw [if_pos c2]
        refine GB.go 9999 rfl aB0 ?_
        refine GB.cal rfl rfl (by decide) (k_lose i) ?_
        exact GB.ret rfl rfl aB0
      · rw [if_neg c2]
        refine GB.go 9999 rfl aB0 ?_
        exact GB.ret rfl rfl aB0
    · exact absurd (Int32.le_refl _) c
end MH
