/-! THE CLASS'S CALLS: of, as, heads -/
section MP
variable {l : Launch} {X : FX} {ii : Nat → Nat → Nat → Int32} {jj : Nat → Nat → Nat → Int64} {kd : Nat → Nat}
theorem c_of0 (v w : Int32) (h : ¬ (¬ v < 0 ∧ ¬ ii 17 0 2 ≤ v)) : SK l X 6 75 [vR 5 0, vI v, vI w] (ii, jj, mj_rk kd, 108) (some (vI (fA 0))) (fnd ii 0, jj, mj_rk kd, 108) := by
  refine SK.of (by decide) (by decide) rfl ?_
  refine GB.go 9999 rfl aB0 ?_
  refine GB.cal rfl rfl (by decide) (k_isHat v) ?_
  refine GB.br rfl rfl (fun c => ?_) (fun c => ?_)
  · refine GB.go 9999 rfl aB0 ?_
    refine GB.cal rfl rfl (by decide) (k_finding 0 (by decide)) ?_
    exact GB.ret rfl rfl aB0
  · exact absurd (bd_t c) h
theorem c_ofW (i n : Nat) (w : Int32) (hi : i < n) (hn : n ≤ 8) (h0 : ii 17 0 2 = nI n) {r : Option MV} {h' : MH} (k : GB l X 6 0 0 75 (mj_swt [(0, 60), (1, 68), (2, 73), (3, 78), (4, 83)] 98 w, [some (vR 5 0), some (vI (nI i)), some (vI w), some (vR 20 i)], [], (ii, jj, mj_rk kd, 108)) r h') : SK l X 6 75 [vR 5 0, vI (nI i), vI w] (ii, jj, mj_rk kd, 108) r h' := by
  refine SK.of (by decide) (by decide) rfl ?_
  refine GB.go 9999 rfl aB0 ?_
  refine GB.cal rfl rfl (by decide) (k_isHat _) ?_
  refine GB.br rfl rfl (fun c => ?_) (fun c => ?_)
  · exact absurd (in_ok hi (by omega) h0) (bd_f c)
  · refine GB.go 24 rfl (aB1 (mn_vin (show i < 8 by omega) (by decide)) aB0) ?_
    rw [nI_clamp (show i < 2 ^ 31 by omega)]
    refine GB.go 9999 rfl aB0 ?_
    refine GB.sw rfl rfl ?_
    exact k
theorem c_of_bad (i n : Nat) (w : Int32) (hi : i < n) (hn : n ≤ 8) (h0 : ii 17 0 2 = nI n) (hw : uT w 4 = false) : SK l X 6 75 [vR 5 0, vI (nI i), vI w] (ii, jj, mj_rk kd, 108) (some (vI (fA 0))) (fnd ii 0, jj, mj_rk kd, 108) := by
  have q : ∀ b, b ≤ 4 → w ≠ nI b := fun b hb e => by
    rw [e, show (4 : Int32) = nI 4 from rfl, uT_ok hb (by decide)] at hw
    cases hw
  refine c_ofW i n w hi hn h0 ?_
  rw [show mj_swt [(0, 60), (1, 68), (2, 73), (3, 78), (4, 83)] 98 w = 98 by
    simp only [mj_swt]
    rw [if_neg (show w ≠ 0 from q 0 (by decide)), if_neg (show w ≠ 1 from q 1 (by decide)), if_neg (show w ≠ 2 from q 2 (by decide)), if_neg (show w ≠ 3 from q 3 (by decide)), if_neg (show w ≠ 4 from q 4 (by decide))]]
  refine GB.go 9999 rfl aB0 ?_
  refine GB.cal rfl rfl (by decide) (k_finding 0 (by decide)) ?_
  exact GB.ret rfl rfl aB0
/-- what a hat is asked -/
theorem c_of (i n w : Nat) (hi : i < n) (hn : n ≤ 8) (h0 : ii 17 0 2 = nI n) (hk : kd i < 6) (hno : ∀ c, c < 6 → ii (c + 11) 0 0 = nI c) (hw : w ≤ 4) : SK l X 6 75 [vR 5 0, vI (nI i), vI (nI w)] (ii, jj, mj_rk kd, 108) (some (vI (match w with
    | 0 => nI (kd i)
    | 1 => hF (ii 21 i) 1 12
    | 2 => ii 20 i 2
    | 3 => aF (ii 21 i) 12
    | _ => fdO (kd i) (ii 17 0 4)))) (ii, jj, mj_rk kd, 108) := by
  refine c_ofW i n (nI w) hi hn h0 ?_
  match w, hw with
  | 0, _ =>
    refine GB.go 64 rfl aB0 ?_
    refine GB.num hk rfl ?_
    rw [hno _ hk]
    exact GB.ret rfl rfl aB0
  | 1, _ =>
    refine GB.go 9999 rfl aB0 ?_
    refine GB.cal rfl rfl (by decide) (k_held i) ?_
    exact GB.ret rfl rfl aB0
  | 2, _ =>
    refine GB.go 9999 rfl aB0 ?_
    exact GB.ret rfl rfl aB0
  | 3, _ =>
    refine GB.go 9999 rfl aB0 ?_
    refine GB.cal rfl rfl (by decide) (k_hatFresh i) ?_
    exact GB.ret rfl rfl aB0
  | 4, _ =>
    refine GB.go 9999 rfl aB0 ?_
    refine GB.fad hk rfl (by decide) rfl ?_
    exact GB.ret rfl rfl aB0
  | w + 5, hw => exact absurd hw (by omega)
theorem c_as0 (v x : Int32) (h : ¬ ((¬ v < 0 ∧ ¬ ii 17 0 2 ≤ v) ∧ uT x 5 = true)) : SK l X 6 79 [vR 5 0, vI v, vI x] (ii, jj, mj_rk kd, 108) (some (vI (fA 0))) (fnd ii 0, jj, mj_rk kd, 108) := by
  refine SK.of (by decide) (by decide) rfl ?_
  have tail : GB l X 6 0 0 79 (16, [some (vR 5 0), some (vI v), some (vI x)], [], (ii, jj, mj_rk kd, 108)) (some (vI (fA 0))) (fnd ii 0, jj, mj_rk kd, 108) := by
    refine GB.go 9999 rfl aB0 ?_
    refine GB.cal rfl rfl (by decide) (k_finding 0 (by decide)) ?_
    exact GB.ret rfl rfl aB0
  refine GB.go 9999 rfl aB0 ?_
  refine GB.cal rfl rfl (by decide) (k_isHat v) ?_
  refine GB.br rfl rfl (fun c => ?_) (fun c => ?_)
  · exact tail
  · refine GB.go 9999 rfl aB0 ?_
    refine GB.cal rfl rfl (by decide) (k_upto _ x 5) ?_
    refine GB.br rfl rfl (fun c2 => ?_) (fun c2 => ?_)
    · exact tail
    · exact absurd ⟨bd_t c, bI_t c2⟩ h
theorem c_as (i n : Nat) (x : Int32) (hi : i < n) (hn : n ≤ 8) (h0 : ii 17 0 2 = nI n) (hx : uT x 5 = true) (hk : kd i < 6) : SK l X 6 79 [vR 5 0, vI (nI i), vI x] (ii, jj, mj_rk kd, 108) (some (vI (cond (alO (kd i) x) (ii 20 i 2) (fA 2)))) (cond (alO (kd i) x) ii (fnd ii 2), jj, mj_rk kd, 108) := by
  refine SK.of (by decide) (by decide) rfl ?_
  refine GB.go 9999 rfl aB0 ?_
  refine GB.cal rfl rfl (by decide) (k_isHat _) ?_
  refine GB.br rfl rfl (fun c => ?_) (fun c => ?_)
  · exact absurd (in_ok hi (by omega) h0) (bd_f c)
  · refine GB.go 9999 rfl aB0 ?_
    refine GB.cal rfl rfl (by decide) (k_upto _ _ 5) ?_
    refine GB.br rfl rfl (fun c2 => ?_) (fun c2 => ?_)
    · exact absurd hx (by rw [bI_f c2]; decide)
    · refine GB.go 31 rfl (aB1 (mn_vin (show i < 8 by omega) (by decide)) aB0) ?_
      rw [nI_clamp (show i < 2 ^ 31 by omega)]
      refine GB.go 9999 rfl aB0 ?_
      refine GB.also hk rfl (by decide) rfl ?_
      refine GB.br rfl rfl (fun c3 => ?_) (fun c3 => ?_)
      · rw [bI_f c3]
        refine GB.go 9999 rfl aB0 ?_
        refine GB.cal rfl rfl (by decide) (k_finding 2 (by decide)) ?_
        exact GB.ret rfl rfl aB0
      · rw [bI_t c3]
        refine GB.go 56 rfl (aB1 (mn_vin (show i < 8 by omega) (by decide)) aB0) ?_
        rw [nI_clamp (show i < 2 ^ 31 by omega)]
        refine GB.go 9999 rfl aB0 ?_
        exact GB.ret rfl rfl aB0
theorem c_head0 (k : Int32) (h : ¬ uT k 4095 = true) : SK l X 4 80 [vR 5 0, vI k] (ii, jj, mj_rk kd, 108) (some (vI (fA 0))) (fnd ii 0, jj, mj_rk kd, 108) := by
  refine SK.of (by decide) (by decide) rfl ?_
  refine GB.go 9999 rfl aB0 ?_
  refine GB.cal rfl rfl (by decide) (k_isSet _ k) ?_
  refine GB.br rfl rfl (fun c => ?_) (fun c => ?_)
  · refine GB.go 9999 rfl aB0 ?_
    refine GB.cal rfl rfl (by decide) (k_finding 0 (by decide)) ?_
    exact GB.ret rfl rfl aB0
  · exact absurd (bI_t c) h
theorem c_head1 (k : Int32) (h : uT k 4095 = true) (h0 : ii 17 0 3 = nI 6) : SK l X 4 80 [vR 5 0, vI k] (ii, jj, mj_rk kd, 108) (some (vI (fA 1))) (fnd ii 1, jj, mj_rk kd, 108) := by
  refine SK.of (by decide) (by decide) rfl ?_
  refine GB.go 9999 rfl aB0 ?_
  refine GB.cal rfl rfl (by decide) (k_isSet _ k) ?_
  refine GB.br rfl rfl (fun c => ?_) (fun c => ?_)
  · exact absurd h (by rw [bI_f c]; decide)
  · refine GB.go 9999 rfl aB0 ?_
    rw [h0]
    refine GB.br rfl rfl (fun c2 => ?_) (fun c2 => ?_)
    · exact absurd c2 (by decide)
    · refine GB.go 9999 rfl aB0 ?_
      refine GB.cal rfl rfl (by decide) (k_finding 1 (by decide)) ?_
      exact GB.ret rfl rfl aB0
theorem c_head (k : Int32) (n : Nat) (h : uT k 4095 = true) (hn : n < 6) (h0 : ii 17 0 3 = nI n) : SK l X 4 80 [vR 5 0, vI k] (ii, jj, mj_rk kd, 108) (some (vI (nI n))) (up3 (up3 (up3 (up3 ii 22 n 0 k) 22 n 1 0) 22 n 2 0) 17 0 3 (nI (n + 1)), jj, mj_rk kd, 108) := by
  refine SK.of (by decide) (by decide) rfl ?_
  refine GB.go 9999 rfl aB0 ?_
  refine GB.cal rfl rfl (by decide) (k_isSet _ k) ?_
  refine GB.br rfl rfl (fun c2 => ?_) (fun c2 => ?_)
  · exact absurd h (by rw [bI_f c2]; decide)
  · refine GB.go 9999 rfl aB0 ?_
    rw [h0]
    refine GB.br rfl rfl (fun c3 => ?_) (fun c3 => ?_)
    · refine GB.go 9999 rfl aB0 ?_
      refine GB.cal rfl rfl (by decide) (k_addHead hn k h0) ?_
      refine GB.go 46 rfl aB0 ?_
      rw [up3_rd]
      refine GB.go 9999 rfl aB0 ?_
      rw [nI_pred]
      exact GB.ret rfl rfl aB0
    · exact absurd (nI_lt hn (by decide)) c3
theorem c_moths0 (k : Int32) (h : ¬ uT k 1 = true) : SK l X 4 83 [vR 5 0, vI k] (ii, jj, mj_rk kd, 108) (some (vI (fA 0))) (fnd ii 0, jj, mj_rk kd, 108) := by
  refine SK.of (by decide) (by decide) rfl ?_
  refine GB.go 9999 rfl aB0 ?_
  refine GB.cal rfl rfl (by decide) (k_upto _ k 1) ?_
  refine GB.br rfl rfl (fun c => ?_) (fun c => ?_)
  · refine GB.go 9999 rfl aB0 ?_
    refine GB.cal rfl rfl (by decide) (k_finding 0 (by decide)) ?_
    exact GB.ret rfl rfl aB0
  · exact absurd (bI_t c) h
theorem c_moths (k : Int32) (h : uT k 1 = true) : SK l X 4 83 [vR 5 0, vI k] (ii, jj, mj_rk kd, 108) (some (vI (ii 17 0 5))) (up3 ii 17 0 5 k, jj, mj_rk kd, 108) := by
  refine SK.of (by decide) (by decide) rfl ?_
  refine GB.go 9999 rfl aB0 ?_
  refine GB.cal rfl rfl (by decide) (k_upto _ k 1) ?_
  refine GB.br rfl rfl (fun c => ?_) (fun c => ?_)
  · exact absurd h (by rw [bI_f c]; decide)
  · refine GB.go 9999 rfl aB0 ?_
    exact GB.ret rfl rfl aB0
theorem c_about0 (v w : Int32) (h : ¬ (¬ v < 0 ∧ ¬ ii 17 0 3 ≤ v)) : SK l X 6 81 [vR 5 0, vI v, vI w] (ii, jj, mj_rk kd, 108) (some (vI (fA 0))) (fnd ii 0, jj, mj_rk kd, 108) := by
  refine SK.of (by decide) (by decide) rfl ?_
  refine GB.go 9999 rfl aB0 ?_
  refine GB.cal rfl rfl (by decide) (k_isHead v) ?_
  refine GB.br rfl rfl (fun c => ?_) (fun c => ?_)
  · refine GB.go 9999 rfl aB0 ?_
    refine GB.cal rfl rfl (by decide) (k_finding 0 (by decide)) ?_
    exact GB.ret rfl rfl aB0
  · exact absurd (bd_t c) h
theorem c_aboutW (i n : Nat) (w : Int32) (hi : i < n) (hn : n ≤ 6) (h0 : ii 17 0 3 = nI n) {r : Option MV} {h' : MH} (k : GB l X 6 0 0 81 (mj_swt [(0, 40), (1, 53), (2, 66)] 79 w, [some (vR 5 0), some (vI (nI i)), some (vI w)], [], (ii, jj, mj_rk kd, 108)) r h') : SK l X 6 81 [vR 5 0, vI (nI i), vI w] (ii, jj, mj_rk kd, 108) r h' := by
  refine SK.of (by decide) (by decide) rfl ?_
  refine GB.go 9999 rfl aB0 ?_
  refine GB.cal rfl rfl (by decide) (k_isHead _) ?_
  refine GB.br rfl rfl (fun c => ?_) (fun c => ?_)
  · exact absurd (in_ok hi (by omega) h0) (bd_f c)
  · refine GB.go 9999 rfl aB0 ?_
    refine GB.sw rfl rfl ?_
    exact k
theorem c_about_bad (i n : Nat) (w : Int32) (hi : i < n) (hn : n ≤ 6) (h0 : ii 17 0 3 = nI n) (hw : uT w 2 = false) : SK l X 6 81 [vR 5 0, vI (nI i), vI w] (ii, jj, mj_rk kd, 108) (some (vI (fA 0))) (fnd ii 0, jj, mj_rk kd, 108) := by
  have q : ∀ b, b ≤ 2 → w ≠ nI b := fun b hb e => by
    rw [e, show (2 : Int32) = nI 2 from rfl, uT_ok hb (by decide)] at hw
    cases hw
  refine c_aboutW i n w hi hn h0 ?_
  rw [show mj_swt [(0, 40), (1, 53), (2, 66)] 79 w = 79 by
    simp only [mj_swt]
    rw [if_neg (show w ≠ 0 from q 0 (by decide)), if_neg (show w ≠ 1 from q 1 (by decide)), if_neg (show w ≠ 2 from q 2 (by decide))]]
  refine GB.go 9999 rfl aB0 ?_
  refine GB.cal rfl rfl (by decide) (k_finding 0 (by decide)) ?_
  exact GB.ret rfl rfl aB0
theorem c_about (i n w : Nat) (hi : i < n) (hn : n ≤ 6) (h0 : ii 17 0 3 = nI n) (hw : w ≤ 2) : SK l X 6 81 [vR 5 0, vI (nI i), vI (nI w)] (ii, jj, mj_rk kd, 108) (some (vI (ii 22 i w))) (ii, jj, mj_rk kd, 108) := by
  refine c_aboutW i n (nI w) hi hn h0 ?_
  match w, hw with
  | 0, _ =>
    refine GB.go 49 rfl (aB1 (mn_vin (show i < 6 by omega) (by decide)) aB0) ?_
    rw [nI_clamp (show i < 2 ^ 31 by omega)]
    refine GB.go 9999 rfl aB0 ?_
    exact GB.ret rfl rfl aB0
  | 1, _ =>
    refine GB.go 62 rfl (aB1 (mn_vin (show i < 6 by omega) (by decide)) aB0) ?_
    rw [nI_clamp (show i < 2 ^ 31 by omega)]
    refine GB.go 9999 rfl aB0 ?_
    exact GB.ret rfl rfl aB0
  | 2, _ =>
    refine GB.go 75 rfl (aB1 (mn_vin (show i < 6 by omega) (by decide)) aB0) ?_
    rw [nI_clamp (show i < 2 ^ 31 by omega)]
    refine GB.go 9999 rfl aB0 ?_
    exact GB.ret rfl rfl aB0
  | w + 3, hw => exact absurd hw (by omega)
end MP
