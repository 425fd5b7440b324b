/-! HEADS AND SHOPS -/
def oF (f : Nat → Int32) : Nat → Int32
  | 0 => 0
  | n + 1 => oF f n ||| f n
theorem up3_num {α : Type} {f : Nat → Nat → Nat → α} {t i j k c : Nat} {v : α} (h : j ≠ i) : up3 f t i k v t j c = f t j c := by
  unfold up3
  rw [if_neg (fun h2 => h h2.2.1)]
/-- what a head earns -/
def eN (bald p : Int32) : Int32 := if p + (if bald = 1 then 1 else 2) < 9999 then p + (if bald = 1 then 1 else 2) else 9999
section MS
variable {l : Launch} {X : FX} {ii : Nat → Nat → Nat → Int32} {jj : Nat → Nat → Nat → Int64} {kd : Nat → Nat}
theorem k_allFresh {n : Nat} (hn : n ≤ 8) (h0 : ii 17 0 2 = nI n) : SK l X 2 50 [vR 17 0] (ii, jj, mj_rk kd, 108) (some (vI (aF (fun k => aF (ii 21 k) 12) n))) (ii, jj, mj_rk kd, 108) := by
  refine SK.of (by decide) (by decide) rfl ?_
  refine GB.go 4 rfl aB0 ?_
  refine GB.upto n (fun k => (4, [some (vR 17 0), some (vI (aF (fun k => aF (ii 21 k) 12) k)), some (vI (nI k))], [], (ii, jj, mj_rk kd, 108))) (fun k hk ih => ?_) ?_ n 0 (by omega)
  · rw [nI_succ, show aF (fun k => aF (ii 21 k) 12) (k + 1) = aF (fun k => aF (ii 21 k) 12) k + aF (ii 21 k) 12 from rfl] at ih
    refine GB.go 9999 rfl aB0 ?_
    rw [h0]
    refine GB.br rfl rfl (fun c => ?_) (fun c => ?_)
    · exact absurd c (nI_ge hk (by omega))
    · refine GB.go 19 rfl (aB1 (mn_vin (show k < 8 by omega) (by decide)) aB0) ?_
      rw [nI_clamp (show k < 2 ^ 31 by omega)]
      refine GB.cal rfl rfl (by decide) (k_hatFresh k) ?_
      refine GB.go 4 rfl aB0 ?_
      exact ih
  · refine GB.go 9999 rfl aB0 ?_
    rw [h0]
    refine GB.br rfl rfl (fun c => ?_) (fun c => ?_)
    · refine GB.go 9999 rfl aB0 ?_
      exact GB.ret rfl rfl aB0
    · exact absurd (Int32.le_refl _) c
theorem k_allPledges {n : Nat} (hn : n ≤ 8) (h0 : ii 17 0 2 = nI n) : SK l X 1 51 [vR 17 0] (ii, jj, mj_rk kd, 108) (some (vI (aF (fun k => ii 20 k 2) n))) (ii, jj, mj_rk kd, 108) := by
  refine SK.of (by decide) (by decide) rfl ?_
  refine GB.go 4 rfl aB0 ?_
  refine GB.upto n (fun k => (4, [some (vR 17 0), some (vI (aF (fun k => ii 20 k 2) k)), some (vI (nI k))], [], (ii, jj, mj_rk kd, 108))) (fun k hk ih => ?_) ?_ n 0 (by omega)
  · rw [nI_succ, show aF (fun k => ii 20 k 2) (k + 1) = aF (fun k => ii 20 k 2) k + ii 20 k 2 from rfl] at ih
    refine GB.go 9999 rfl aB0 ?_
    rw [h0]
    refine GB.br rfl rfl (fun c => ?_) (fun c => ?_)
    · exact absurd c (nI_ge hk (by omega))
    · refine GB.go 19 rfl (aB1 (mn_vin (show k < 8 by omega) (by decide)) aB0) ?_
      rw [nI_clamp (show k < 2 ^ 31 by omega)]
      refine GB.go 4 rfl aB0 ?_
      exact ih
  · refine GB.go 9999 rfl aB0 ?_
    rw [h0]
    refine GB.br rfl rfl (fun c => ?_) (fun c => ?_)
    · refine GB.go 9999 rfl aB0 ?_
      exact GB.ret rfl rfl aB0
    · exact absurd (Int32.le_refl _) c
theorem k_allPennies {n : Nat} (hn : n ≤ 6) (h0 : ii 17 0 3 = nI n) : SK l X 1 52 [vR 17 0] (ii, jj, mj_rk kd, 108) (some (vI (aF (fun k => ii 22 k 2) n))) (ii, jj, mj_rk kd, 108) := by
  refine SK.of (by decide) (by decide) rfl ?_
  refine GB.go 4 rfl aB0 ?_
  refine GB.upto n (fun k => (4, [some (vR 17 0), some (vI (aF (fun k => ii 22 k 2) k)), some (vI (nI k))], [], (ii, jj, mj_rk kd, 108))) (fun k hk ih => ?_) ?_ n 0 (by omega)
  · rw [nI_succ, show aF (fun k => ii 22 k 2) (k + 1) = aF (fun k => ii 22 k 2) k + ii 22 k 2 from rfl] at ih
    refine GB.go 9999 rfl aB0 ?_
    rw [h0]
    refine GB.br rfl rfl (fun c => ?_) (fun c => ?_)
    · exact absurd c (nI_ge hk (by omega))
    · refine GB.go 19 rfl (aB1 (mn_vin (show k < 6 by omega) (by decide)) aB0) ?_
      rw [nI_clamp (show k < 2 ^ 31 by omega)]
      refine GB.go 4 rfl aB0 ?_
      exact ih
  · refine GB.go 9999 rfl aB0 ?_
    rw [h0]
    refine GB.br rfl rfl (fun c => ?_) (fun c => ?_)
    · refine GB.go 9999 rfl aB0 ?_
      exact GB.ret rfl rfl aB0
    · exact absurd (Int32.le_refl _) c
theorem k_heldByAny {n : Nat} (hn : n ≤ 8) (h0 : ii 17 0 2 = nI n) : SK l X 3 53 [vR 17 0] (ii, jj, mj_rk kd, 108) (some (vI (oF (fun k => hF (ii 21 k) 1 12) n))) (ii, jj, mj_rk kd, 108) := by
  refine SK.of (by decide) (by decide) rfl ?_
  refine GB.go 4 rfl aB0 ?_
  refine GB.upto n (fun k => (4, [some (vR 17 0), some (vI (oF (fun k => hF (ii 21 k) 1 12) k)), some (vI (nI k))], [], (ii, jj, mj_rk kd, 108))) (fun k hk ih => ?_) ?_ n 0 (by omega)
  · rw [nI_succ, show oF (fun k => hF (ii 21 k) 1 12) (k + 1) = oF (fun k => hF (ii 21 k) 1 12) k ||| hF (ii 21 k) 1 12 from rfl] at ih
    refine GB.go 9999 rfl aB0 ?_
    rw [h0]
    refine GB.br rfl rfl (fun c => ?_) (fun c => ?_)
    · exact absurd c (nI_ge hk (by omega))
    · refine GB.go 19 rfl (aB1 (mn_vin (show k < 8 by omega) (by decide)) aB0) ?_
      rw [nI_clamp (show k < 2 ^ 31 by omega)]
      refine GB.cal rfl rfl (by decide) (k_held k) ?_
      refine GB.go 4 rfl aB0 ?_
      exact ih
  · refine GB.go 9999 rfl aB0 ?_
    rw [h0]
    refine GB.br rfl rfl (fun c => ?_) (fun c => ?_)
    · refine GB.go 9999 rfl aB0 ?_
      exact GB.ret rfl rfl aB0
    · exact absurd (Int32.le_refl _) c
theorem k_hadByAny {n : Nat} (hn : n ≤ 6) (h0 : ii 17 0 3 = nI n) : SK l X 1 54 [vR 17 0] (ii, jj, mj_rk kd, 108) (some (vI (oF (fun k => ii 22 k 0) n))) (ii, jj, mj_rk kd, 108) := by
  refine SK.of (by decide) (by decide) rfl ?_
  refine GB.go 4 rfl aB0 ?_
  refine GB.upto n (fun k => (4, [some (vR 17 0), some (vI (oF (fun k => ii 22 k 0) k)), some (vI (nI k))], [], (ii, jj, mj_rk kd, 108))) (fun k hk ih => ?_) ?_ n 0 (by omega)
  · rw [nI_succ, show oF (fun k => ii 22 k 0) (k + 1) = oF (fun k => ii 22 k 0) k ||| ii 22 k 0 from rfl] at ih
    refine GB.go 9999 rfl aB0 ?_
    rw [h0]
    refine GB.br rfl rfl (fun c => ?_) (fun c => ?_)
    · exact absurd c (nI_ge hk (by omega))
    · refine GB.go 19 rfl (aB1 (mn_vin (show k < 6 by omega) (by decide)) aB0) ?_
      rw [nI_clamp (show k < 2 ^ 31 by omega)]
      refine GB.go 4 rfl aB0 ?_
      exact ih
  · refine GB.go 9999 rfl aB0 ?_
    rw [h0]
    refine GB.br rfl rfl (fun c => ?_) (fun c => ?_)
    · refine GB.go 9999 rfl aB0 ?_
      exact GB.ret rfl rfl aB0
    · exact absurd (Int32.le_refl _) c
theorem k_headBegin (d : Nat) (a : Int32) : SK l X 1 33 [vR 22 d, vI a] (ii, jj, mj_rk kd, 108) none (up3 (up3 (up3 ii 22 d 0 a) 22 d 1 0) 22 d 2 0, jj, mj_rk kd, 108) := by
  refine SK.of (by decide) (by decide) rfl ?_
  refine GB.go 9999 rfl aB0 ?_
  exact GB.ret rfl rfl aB0
theorem k_headBecome (d e : Nat) (h : d ≠ e) : SK l X 1 34 [vR 22 d, vR 22 e] (ii, jj, mj_rk kd, 108) none (up3 (up3 (up3 ii 22 d 0 (ii 22 e 0)) 22 d 1 (ii 22 e 1)) 22 d 2 (ii 22 e 2), jj, mj_rk kd, 108) := by
  refine SK.of (by decide) (by decide) rfl ?_
  refine GB.go 9999 rfl aB0 ?_
  rw [up3_num h.symm, up3_num h.symm, up3_num h.symm]
  exact GB.ret rfl rfl aB0
theorem k_earn (d : Nat) : SK l X 1 35 [vR 22 d] (ii, jj, mj_rk kd, 108) none (up3 ii 22 d 2 (eN (ii 22 d 1) (ii 22 d 2)), jj, mj_rk kd, 108) := by
  refine SK.of (by decide) (by decide) rfl ?_
  refine GB.go 9999 rfl aB0 ?_
  refine GB.br rfl rfl (fun c => ?_) (fun c => ?_)
  · rw [show eN (ii 22 d 1) (ii 22 d 2) = if ii 22 d 2 + 1 < 9999 then ii 22 d 2 + 1 else 9999 by unfold eN; rw [if_pos c]]
    refine GB.go 9999 rfl aB0 ?_
    exact GB.ret rfl rfl aB0
  · rw [show eN (ii 22 d 1) (ii 22 d 2) = if ii 22 d 2 + 2 < 9999 then ii 22 d 2 + 2 else 9999 by unfold eN; rw [if_neg c]]
    refine GB.go 9999 rfl aB0 ?_
    exact GB.ret rfl rfl aB0
/-- a week of the first n hats -/
def pWs (ii : Nat → Nat → Nat → Int32) (kd : Nat → Nat) (w m : Int32) : Nat → Nat → Nat → Nat → Int32
  | 0 => ii
  | n + 1 => pW (pWs ii kd w m n) n (kd n) w m
theorem lmW_tag {i a : Nat} {o : Option Nat} (h : a ≠ 21) : lmW ii i o a = ii a := by
  cases o with
  | none => rfl
  | some k => exact up3_tag h
theorem lM_tag {i a : Nat} (h : a ≠ 21) : lM ii i a = ii a := by
  unfold lM
  split
  · exact lmW_tag h
  · rfl
theorem wA_tag {T i n a : Nat} {F : Nat → Int32} (h : a ≠ T) : wA ii T i n F a = ii a := by
  funext b c
  exact wA_ne (fun h2 => h h2.1)
theorem pW_tag {i c a : Nat} {w m : Int32} (h : a ≠ 21) : pW ii i c w m a = ii a := by
  unfold pW
  split
  · rw [lM_tag h, wA_tag h]
  · rw [wA_tag h]
theorem pWs_tag {a : Nat} {w m : Int32} (h : a ≠ 21) : ∀ n, pWs ii kd w m n a = ii a
  | 0 => rfl
  | n + 1 => (pW_tag h).trans (pWs_tag h n)
theorem k_shopWeek {n : Nat} (hn : n ≤ 8) (h0 : ii 17 0 2 = nI n) (hk6 : ∀ k, k < n → kd k < 6) : SK l X 5 49 [vR 17 0] (ii, jj, mj_rk kd, 108) none (up3 (pWs ii kd (ii 17 0 4) (ii 17 0 5) n) 17 0 4 (ii 17 0 4 + 1), jj, mj_rk kd, 108) := by
  refine SK.of (by decide) (by decide) rfl ?_
  refine GB.go 2 rfl aB0 ?_
  refine GB.upto n (fun k => (2, [some (vR 17 0), some (vI (nI k))], [], (pWs ii kd (ii 17 0 4) (ii 17 0 5) k, jj, mj_rk kd, 108))) (fun k hk ih => ?_) ?_ n 0 (by omega)
  · rw [nI_succ] at ih
    refine GB.go 9999 rfl aB0 ?_
    rw [pWs_tag (by decide), h0]
    refine GB.br rfl rfl (fun c => ?_) (fun c => ?_)
    · exact absurd c (nI_ge hk (by omega))
    · refine GB.go 16 rfl (aB1 (mn_vin (show k < 8 by omega) (by decide)) aB0) ?_
      rw [nI_clamp (show k < 2 ^ 31 by omega)]
      refine GB.go 24 rfl aB0 ?_
      rw [pWs_tag (by decide)]
      refine GB.cal rfl rfl (by decide) (k_passWeek k (hk6 k hk) _ _) ?_
      refine GB.go 2 rfl aB0 ?_
      exact ih
  · refine GB.go 9999 rfl aB0 ?_
    rw [pWs_tag (by decide), h0]
    refine GB.br rfl rfl (fun c => ?_) (fun c => ?_)
    · refine GB.go 38 rfl aB0 ?_
      rw [pWs_tag (by decide)]
      refine GB.go 9999 rfl aB0 ?_
      exact GB.ret rfl rfl aB0
    · exact absurd (Int32.le_refl _) c
theorem k_addHat {n c : Nat} (hn : n < 8) (hc : c < 6) (h0 : ii 17 0 2 = nI n) : SK l X 3 47 [vR 17 0, vR (c + 11) 0] (ii, jj, mj_rk kd, 108) none (up3 (wA (up3 ii 20 n 2 5) 21 n 12 (fun _ => 0)) 17 0 2 (nI (n + 1)), jj, mj_rk (kU kd n c), 108) := by
  refine SK.of (by decide) (by decide) rfl ?_
  refine GB.go 9999 rfl aB0 ?_
  rw [h0]
  refine GB.br rfl rfl (fun c2 => ?_) (fun c2 => ?_)
  · exact absurd c2 (nI_ge hn (by decide))
  · refine GB.go 17 rfl aB0 ?_
    rw [h0]
    refine GB.go 18 rfl (aB1 (mn_vin hn (by decide)) aB0) ?_
    rw [nI_clamp (show n < 2 ^ 31 by omega)]
    refine GB.go 19 rfl aB0 ?_
    refine GB.cal rfl rfl (by decide) (k_begin n c hc) ?_
    refine GB.go 27 rfl aB0 ?_
    rw [wA_tag (by decide), up3_tag (by decide), h0, nI_succ]
    refine GB.go 9999 rfl aB0 ?_
    exact GB.ret rfl rfl aB0
theorem k_addHead {n : Nat} (hn : n < 6) (a : Int32) (h0 : ii 17 0 3 = nI n) : SK l X 2 48 [vR 17 0, vI a] (ii, jj, mj_rk kd, 108) none (up3 (up3 (up3 (up3 ii 22 n 0 a) 22 n 1 0) 22 n 2 0) 17 0 3 (nI (n + 1)), jj, mj_rk kd, 108) := by
  refine SK.of (by decide) (by decide) rfl ?_
  refine GB.go 9999 rfl aB0 ?_
  rw [h0]
  refine GB.br rfl rfl (fun c2 => ?_) (fun c2 => ?_)
  · exact absurd c2 (nI_ge hn (by decide))
  · refine GB.go 17 rfl aB0 ?_
    rw [h0]
    refine GB.go 18 rfl (aB1 (mn_vin hn (by decide)) aB0) ?_
    rw [nI_clamp (show n < 2 ^ 31 by omega)]
    refine GB.go 19 rfl aB0 ?_
    refine GB.cal rfl rfl (by decide) (k_headBegin n a) ?_
    refine GB.go 27 rfl aB0 ?_
    rw [up3_tag (by decide), up3_tag (by decide), up3_tag (by decide), h0, nI_succ]
    refine GB.go 9999 rfl aB0 ?_
    exact GB.ret rfl rfl aB0
end MS
