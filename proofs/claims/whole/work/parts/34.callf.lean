/-! THE CLASS'S CALLS: on, gone, alike, now, count, status -/
section MP
variable {l : Launch} {X : FX} {ii : Nat → Nat → Nat → Int32} {jj : Nat → Nat → Nat → Int64} {kd : Nat → Nat}
/-- weeks of the trial hat i: k of them, from the shop's week on -/
def trW (i c : Nat) (ii : Nat → Nat → Nat → Int32) : Nat → Nat → Nat → Nat → Int32
  | 0 => ii
  | k + 1 => pW (trW i c ii k) i c (ii 17 0 4 + nI k) (ii 17 0 5)
theorem trW_tag {i c a : Nat} (h : a ≠ 21) : ∀ k, trW i c ii k a = ii a
  | 0 => rfl
  | k + 1 => (pW_tag h).trans (trW_tag h k)
theorem k_trialWeeks (w : Nat) (hw : w < 2 ^ 31) (hk : kd 24 < 6) : SK l X 5 126 [vR 5 0, vI (nI w)] (ii, jj, mj_rk kd, 108) none (trW 24 (kd 24) ii w, jj, mj_rk kd, 108) := by
  refine SK.of (by decide) (by decide) rfl ?_
  refine GB.go 2 rfl aB0 ?_
  refine GB.upto w (fun k => (2, [some (vR 5 0), some (vI (nI w)), some (vI (nI k))], [], (trW 24 (kd 24) ii k, jj, mj_rk kd, 108))) (fun k hk2 ih => ?_) ?_ w 0 (by omega)
  · rw [nI_succ] at ih
    refine GB.go 9999 rfl aB0 ?_
    refine GB.br rfl rfl (fun c => ?_) (fun c => ?_)
    · exact absurd c (nI_ge hk2 (by omega))
    · refine GB.go 9999 rfl aB0 ?_
      rw [trW_tag (by decide)]
      refine GB.cal rfl rfl (by decide) (k_passWeek 24 hk _ _) ?_
      refine GB.go 2 rfl aB0 ?_
      exact ih
  · refine GB.go 9999 rfl aB0 ?_
    refine GB.br rfl rfl (fun c => ?_) (fun c => ?_)
    · refine GB.go 9999 rfl aB0 ?_
      exact GB.ret rfl rfl aB0
    · exact absurd (Int32.le_refl _) c
end MP
