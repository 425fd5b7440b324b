/-! THE CLASS'S CALLS: on, gone, alike, now, count, status -/
section MP
variable {l : Launch} {X : FX} {ii : Nat → Nat → Nat → Int32} {jj : Nat → Nat → Nat → Int64} {kd : Nat → Nat}
/-- weeks of the trial hat i: k of them, from the shop's week on -/
def trW (i c : Nat) (ii : Nat → Nat → Nat → Int32) : Nat → Nat → Nat → Nat → Int32
  | 0 => ii
  | k + 1 => pW (trW i c ii k) i c (ii 17 0 4 + nI k) (ii 17 0 5)
theorem trW_tag {i c a : Nat} (h : a ≠ 21) : ∀ k, trW i c ii k a = ii a
  | 0 => rfl
  | k + 1 => (pW_tag h).trans (trW_tag h k)
theorem k_trialWeeks (w : Nat) (hw : w < 2 ^ 31) (hk : kd 24 < 6) : SK l X 5 126 [vR 5 0, vI (nI w)] (ii, jj, mj_rk kd, 108) none (trW 24 (kd 24) ii w, jj, mj_rk kd, 108) := by
  refine SK.of (by decide) (by decide) rfl ?_
  refine GB.go 2 rfl aB0 ?_
  refine GB.upto w (fun k => (2, [some (vR 5 0), some (vI (nI w)), some (vI (nI k))], [], (trW 24 (kd 24) ii k, jj, mj_rk kd, 108))) (fun k hk2 ih => ?_) ?_ w 0 (by omega)
  · rw [nI_succ] at ih
    refine GB.go 9999 rfl aB0 ?_
    refine GB.br rfl rfl (fun c => ?_) (fun c => ?_)
    · exact absurd c (nI_ge hk2 (by omega))
    · refine GB.go 9999 rfl aB0 ?_
      rw [trW_tag (by decide)]
      refine GB.cal rfl rfl (by decide) (k_passWeek 24 hk _ _) ?_
      refine GB.go 2 rfl aB0 ?_
      exact ih
  · refine GB.go 9999 rfl aB0 ?_
    refine GB.br rfl rfl (fun c => ?_) (fun c => ?_)
    · refine GB.go 9999 rfl aB0 ?_
      exact GB.ret rfl rfl aB0
    · exact absurd (Int32.le_refl _) c
/-- hat j becomes as hat i -/
def tI (ii : Nat → Nat → Nat → Int32) (j i : Nat) : Nat → Nat → Nat → Int32 := wA (up3 ii 20 j 2 (ii 20 i 2)) 21 j 12 (ii 21 i)
theorem kU_at {i c : Nat} : kU kd i c i = c := if_pos rfl
theorem c_on0 (v w x : Int32) (h : ¬ ((¬ v < 0 ∧ ¬ ii 17 0 2 ≤ v) ∧ uT w 60 = true ∧ uT x 1 = true)) : SK l X 8 92 [vR 5 0, vI v, vI w, vI x] (ii, jj, mj_rk kd, 108) (some (vI (fA 0))) (fnd ii 0, jj, mj_rk kd, 108) := by
  refine SK.of (by decide) (by decide) rfl ?_
  have tail : GB l X 8 0 0 92 (25, [some (vR 5 0), some (vI v), some (vI w), some (vI x)], [], (ii, jj, mj_rk kd, 108)) (some (vI (fA 0))) (fnd ii 0, jj, mj_rk kd, 108) := by
    refine GB.go 9999 rfl aB0 ?_
    refine GB.cal rfl rfl (by decide) (k_finding 0 (by decide)) ?_
    exact GB.ret rfl rfl aB0
  refine GB.go 9999 rfl aB0 ?_
  refine GB.cal rfl rfl (by decide) (k_isHat v) ?_
  refine GB.br rfl rfl (fun c => ?_) (fun c => ?_)
  · exact tail
  · refine GB.go 9999 rfl aB0 ?_
    refine GB.cal rfl rfl (by decide) (k_upto _ w 60) ?_
    refine GB.br rfl rfl (fun c2 => ?_) (fun c2 => ?_)
    · exact tail
    · refine GB.go 9999 rfl aB0 ?_
      refine GB.cal rfl rfl (by decide) (k_upto _ x 1) ?_
      refine GB.br rfl rfl (fun c3 => ?_) (fun c3 => ?_)
      · exact tail
      · exact absurd ⟨bd_t c, bI_t c2, bI_t c3⟩ h
theorem c_on (i n w : Nat) (x : Int32) (hi : i < n) (hn : n ≤ 8) (h0 : ii 17 0 2 = nI n) (hw : w ≤ 60) (hx : uT x 1 = true) (hk : kd i < 6) : SK l X 8 92 [vR 5 0, vI (nI i), vI (nI w), vI x] (ii, jj, mj_rk kd, 108) (some (vI (if x = 0 then hF (trW 24 (kd i) (tI ii 24 i) w 21 24) 1 12 else aF (trW 24 (kd i) (tI ii 24 i) w 21 24) 12))) (trW 24 (kd i) (tI ii 24 i) w, jj, mj_rk (kU kd 24 (kd i)), 108) := by
  refine SK.of (by decide) (by decide) rfl ?_
  refine GB.go 9999 rfl aB0 ?_
  refine GB.cal rfl rfl (by decide) (k_isHat _) ?_
  refine GB.br rfl rfl (fun c => ?_) (fun c => ?_)
  · exact absurd (in_ok hi (by omega) h0) (bd_f c)
  · refine GB.go 9999 rfl aB0 ?_
    refine GB.cal rfl rfl (by decide) (k_upto _ _ 60) ?_
    refine GB.br rfl rfl (fun c2 => ?_) (fun c2 => ?_)
    · exact absurd (uT_ok hw (by decide)) (by rw [show uT (nI w) (nI 60) = false from bI_f c2]; decide)
    · refine GB.go 9999 rfl aB0 ?_
      refine GB.cal rfl rfl (by decide) (k_upto _ x 1) ?_
      refine GB.br rfl rfl (fun c3 => ?_) (fun c3 => ?_)
      · exact absurd hx (by rw [bI_f c3]; decide)
      · refine GB.go 44 rfl (aB1 (mn_vin (show i < 8 by omega) (by decide)) aB0) ?_
        rw [nI_clamp (show i < 2 ^ 31 by omega)]
        refine GB.cal rfl rfl (by decide) (k_become 24 i hk) ?_
        refine GB.go 9999 rfl aB0 ?_
        have hs := k_trialWeeks (l := l) (X := X) (ii := tI ii 24 i) (jj := jj) (kd := kU kd 24 (kd i)) w (by omega) (by rw [kU_at]; exact hk)
        rw [kU_at] at hs
        refine GB.cal rfl rfl (by decide) (hs) ?_
        refine GB.go 9999 rfl aB0 ?_
        refine GB.br rfl rfl (fun c4 => ?_) (fun c4 => ?_)
        · rw [if_pos c4]
          refine GB.go 9999 rfl aB0 ?_
          refine GB.cal rfl rfl (by decide) (k_held 24) ?_
          refine GB.go 9999 rfl aB0 ?_
          exact GB.ret rfl rfl aB0
        · rw [if_neg c4]
          refine GB.go 9999 rfl aB0 ?_
          refine GB.cal rfl rfl (by decide) (k_hatFresh 24) ?_
          exact GB.ret rfl rfl aB0
/-- the first k, of n from k on, for which it holds -/
def fstK (P : Nat → Bool) : Nat → Nat → Option Nat
  | 0, _ => none
  | n + 1, k => cond (P k) (some k) (fstK P n (k + 1))
def anK (o : Option Nat) : Int32 := match o with
  | some k => nI k
  | none => fA 3
def piK (f : Nat → Nat → Nat → Nat → Int32) (o : Option Nat) : Nat → Nat → Nat → Int32 := match o with
  | some k => f k
  | none => fnd (f 61) 3
theorem c_gone0 (v t : Int32) (h : ¬ ((¬ v < 0 ∧ ¬ ii 17 0 2 ≤ v) ∧ uT t 11 = true)) : SK l X 8 93 [vR 5 0, vI v, vI t] (ii, jj, mj_rk kd, 108) (some (vI (fA 0))) (fnd ii 0, jj, mj_rk kd, 108) := by
  refine SK.of (by decide) (by decide) rfl ?_
  have tail : GB l X 8 0 0 93 (15, [some (vR 5 0), some (vI v), some (vI t), none], [], (ii, jj, mj_rk kd, 108)) (some (vI (fA 0))) (fnd ii 0, jj, mj_rk kd, 108) := by
    refine GB.go 9999 rfl aB0 ?_
    refine GB.cal rfl rfl (by decide) (k_finding 0 (by decide)) ?_
    exact GB.ret rfl rfl aB0
  refine GB.go 9999 rfl aB0 ?_
  refine GB.cal rfl rfl (by decide) (k_isHat v) ?_
  refine GB.br rfl rfl (fun c => ?_) (fun c => ?_)
  · exact tail
  · refine GB.go 9999 rfl aB0 ?_
    refine GB.cal rfl rfl (by decide) (k_isThought _ t) ?_
    refine GB.br rfl rfl (fun c2 => ?_) (fun c2 => ?_)
    · exact tail
    · exact absurd ⟨bd_t c, bI_t c2⟩ h
theorem c_goneL (v : Int32) (t c0 : Nat) (ht : t < 12) (hc : c0 < 6) (hkd : kd 24 = c0) : ∀ n k, k + n = 61 → GB l X 8 0 0 93 (39, [some (vR 5 0), some (vI v), some (vI (nI t)), some (vI (nI k))], [], (trW 24 c0 ii k, jj, mj_rk kd, 108)) (some (vI (anK (fstK (fun j => decide (trW 24 c0 ii j 21 24 t = 0)) n k)))) (piK (trW 24 c0 ii) (fstK (fun j => decide (trW 24 c0 ii j 21 24 t = 0)) n k), jj, mj_rk kd, 108)
  | 0, k, h => by
    cases (show k = 61 by omega)
    refine GB.go 9999 rfl aB0 ?_
    refine GB.br rfl rfl (fun c => ?_) (fun c => ?_)
    · refine GB.go 9999 rfl aB0 ?_
      refine GB.cal rfl rfl (by decide) (k_finding 3 (by decide)) ?_
      exact GB.ret rfl rfl aB0
    · exact absurd (by decide) c
  | n + 1, k, h => by
    refine GB.go 9999 rfl aB0 ?_
    refine GB.br rfl rfl (fun c => ?_) (fun c => ?_)
    · exact absurd c (nI_nlt (show k ≤ 60 by omega) (by decide))
    · refine GB.go 9999 rfl (aB1 (mn_vin ht (by decide)) aB0) ?_
      rw [nI_clamp (show t < 2 ^ 31 by omega)]
      refine GB.br rfl rfl (fun c2 => ?_) (fun c2 => ?_)
      · rw [show fstK (fun j => decide (trW 24 c0 ii j 21 24 t = 0)) (n + 1) k = some k by unfold fstK; rw [decide_eq_true c2]; rfl]
        refine GB.go 9999 rfl aB0 ?_
        exact GB.ret rfl rfl aB0
      · rw [show fstK (fun j => decide (trW 24 c0 ii j 21 24 t = 0)) (n + 1) k = fstK (fun j => decide (trW 24 c0 ii j 21 24 t = 0)) n (k + 1) by rw [fstK]; rw [decide_eq_false c2]; rfl]
        have ih := c_goneL v t c0 ht hc hkd n (k + 1) (by omega)
        rw [nI_succ] at ih
        refine GB.go 9999 rfl aB0 ?_
        rw [trW_tag (by decide)]
        have hs := k_passWeek (l := l) (X := X) (ii := trW 24 c0 ii k) (jj := jj) (kd := kd) 24 (by rw [hkd]; exact hc) (ii 17 0 4 + nI k) (ii 17 0 5)
        rw [hkd] at hs
        refine GB.cal rfl rfl (by decide) (hs) ?_
        refine GB.go 39 rfl aB0 ?_
        exact ih
theorem c_gone (i n t : Nat) (hi : i < n) (hn : n ≤ 8) (h0 : ii 17 0 2 = nI n) (ht : t < 12) (hk : kd i < 6) : SK l X 8 93 [vR 5 0, vI (nI i), vI (nI t)] (ii, jj, mj_rk kd, 108) (some (vI (anK (fstK (fun j => decide (trW 24 (kd i) (tI ii 24 i) j 21 24 t = 0)) 61 0)))) (piK (trW 24 (kd i) (tI ii 24 i)) (fstK (fun j => decide (trW 24 (kd i) (tI ii 24 i) j 21 24 t = 0)) 61 0), jj, mj_rk (kU kd 24 (kd i)), 108) := by
  refine SK.of (by decide) (by decide) rfl ?_
  refine GB.go 9999 rfl aB0 ?_
  refine GB.cal rfl rfl (by decide) (k_isHat _) ?_
  refine GB.br rfl rfl (fun c => ?_) (fun c => ?_)
  · exact absurd (in_ok hi (by omega) h0) (bd_f c)
  · refine GB.go 9999 rfl aB0 ?_
    refine GB.cal rfl rfl (by decide) (k_isThought _ _) ?_
    refine GB.br rfl rfl (fun c2 => ?_) (fun c2 => ?_)
    · exact absurd (uT_ok (show t ≤ 11 by omega) (by decide)) (by rw [show uT (nI t) (nI 11) = false from bI_f c2]; decide)
    · refine GB.go 34 rfl (aB1 (mn_vin (show i < 8 by omega) (by decide)) aB0) ?_
      rw [nI_clamp (show i < 2 ^ 31 by omega)]
      refine GB.cal rfl rfl (by decide) (k_become 24 i hk) ?_
      refine GB.go 39 rfl aB0 ?_
      exact c_goneL (ii := tI ii 24 i) _ t (kd i) ht hk kU_at 61 0 rfl
end MP
