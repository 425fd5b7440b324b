/-! ROWS OF HATS: the class -/
def oI (o : Option Nat) : Int32 := match o with
  | some k => nI k
  | none => -1
def fstO (f : Nat → Option Nat) : Nat → Nat → Option Nat
  | 0, _ => none
  | N + 1, k => match f k with
    | some x => some x
    | none => fstO f N (k + 1)
/-- the first row of so many hats more -/
def fRo (T : Nat → Int32 → Int32) (n : Nat) (set : Int32) : Nat → Int32 → Int32 → Nat → Option Nat
  | 0, has, _, _ => if has &&& set = set then some 0 else none
  | left + 1, has, used, u => fstO (fun h => if used &&& bT h = 0 then (fRo T n set left (has ||| T h has) (used ||| bT h) (u / 10)).map (fun x => u * (h + 1) + x) else none) n 0
def cRo (T : Nat → Int32 → Int32) (n : Nat) (set : Int32) : Nat → Int32 → Int32 → Int32
  | 0, has, _ => if has = set then 1 else 0
  | left + 1, has, used => aF (fun h => if used &&& bT h = 0 then cRo T n set left (has ||| T h has) (used ||| bT h) else 0) n
theorem fstO_some {f : Nat → Option Nat} : ∀ N k x, fstO f N k = some x → ∃ j, k ≤ j ∧ j < k + N ∧ f j = some x
  | 0, _, _, h => by cases h
  | N + 1, k, x, h => by
    unfold fstO at h
    cases hf : f k with
    | some y =>
      rw [hf] at h
      cases h
      exact ⟨k, Nat.le_refl _, by omega, hf⟩
    | none =>
      rw [hf] at h
      obtain ⟨j, h1, h2, h3⟩ := fstO_some N (k + 1) x h
      exact ⟨j, by omega, by omega, h3⟩
theorem fRo_le {T : Nat → Int32 → Int32} {n : Nat} (hn : n ≤ 8) {set : Int32} : ∀ left has used u x, u ≤ 100 → fRo T n set left has used u = some x → x ≤ 800 * left
  | 0, has, used, u, x, hu, h => by
    unfold fRo at h
    split at h
    · cases h
      exact Nat.zero_le _
    · cases h
  | left + 1, has, used, u, x, hu, h => by
    unfold fRo at h
    obtain ⟨j, h1, h2, h3⟩ := fstO_some _ _ _ h
    split at h3
    · cases hf : fRo T n set left (has ||| T j has) (used ||| bT j) (u / 10) with
      | none => rw [hf] at h3; cases h3
      | some y =>
        rw [hf] at h3
        cases h3
        have := fRo_le hn left _ _ (u / 10) y (by omega) hf
        have h5 : u * (j + 1) ≤ 100 * 8 := Nat.mul_le_mul hu (by omega)
        show u * (j + 1) + y ≤ 800 * (left + 1)
        omega
    · cases h3
/-- what a hat of the class gives -/
def cT (ii : Nat → Nat → Nat → Int32) (kd : Nat → Nat) (h : Nat) (x : Int32) : Int32 := tkO (kd h) (hF (ii 21 h) 1 12) (hF (ii 21 h) 3 12) x
section MP
variable {l : Launch} {X : FX} {ii : Nat → Nat → Nat → Int32} {jj : Nat → Nat → Nat → Int64} {kd : Nat → Nat}
theorem sh_lt : ∀ k, k < 8 → (1 : Int32) <<< (nI k &&& 31) = bT k := by decide +kernel
theorem k_first {n : Nat} (hn : n ≤ 8) (h0 : ii 17 0 2 = nI n) (hk6 : ∀ k, k < n → kd k < 6) (set : Int32) : ∀ (left : Nat) (has used : Int32) (u : Nat), left ≤ 3 → u ≤ 100 → SK l X (7 + left) 128 [vR 17 0, vI has, vI set, vI used, vI (nI left), vI (nI u)] (ii, jj, mj_rk kd, 108) (some (vI (oI (fRo (cT ii kd) n set left has used u)))) (ii, jj, mj_rk kd, 108)
  | 0, has, used, u, _, _ => by
    refine SK.of (by decide) (by decide) rfl ?_
    refine GB.go 9999 rfl aB0 ?_
    refine GB.br rfl rfl (fun c => ?_) (fun c => ?_)
    · exact absurd c (by decide)
    · refine GB.go 9999 rfl aB0 ?_
      unfold fRo
      refine GB.br rfl rfl (fun c2 => ?_) (fun c2 => ?_)
      · rw [if_pos c2]
        refine GB.go 9999 rfl aB0 ?_
        exact GB.ret rfl rfl aB0
      · rw [if_neg c2]
        refine GB.go 9999 rfl aB0 ?_
        exact GB.ret rfl rfl aB0
  | left + 1, has, used, u, hl, hu => by
    have rc := k_first hn h0 hk6 set left
    unfold fRo
    generalize hf : (fun h => if used &&& bT h = 0 then (fRo (cT ii kd) n set left (has ||| cT ii kd h has) (used ||| bT h) (u / 10)).map (fun x => u * (h + 1) + x) else none) = f
    have L : ∀ N h v7 v8, h + N = n → GB l X (7 + (left + 1)) 0 0 128 (21, [some (vR 17 0), some (vI has), some (vI set), some (vI used), some (vI (nI (left + 1))), some (vI (nI u)), some (vI (nI h)), v7, v8], [], (ii, jj, mj_rk kd, 108)) (some (vI (oI (fstO f N h)))) (ii, jj, mj_rk kd, 108) := by
      intro N
      induction N with
      | zero =>
        intro h v7 v8 e
        rw [show h = n by omega]
        refine GB.go 9999 rfl aB0 ?_
        rw [h0]
        refine GB.br rfl rfl (fun c => ?_) (fun c => ?_)
        · refine GB.go 9999 rfl aB0 ?_
          exact GB.ret rfl rfl aB0
        · exact absurd (Int32.le_refl _) c
      | succ N ih =>
        intro h v7 v8 e
        have ih := ih (h + 1)
        rw [nI_succ h] at ih
        refine GB.go 9999 rfl aB0 ?_
        rw [h0]
        refine GB.br rfl rfl (fun c => ?_) (fun c => ?_)
        · exact absurd c (nI_ge (show h < n by omega) (by omega))
        · refine GB.go 9999 rfl aB0 ?_
          refine GB.br rfl rfl (fun c2 => ?_) (fun c2 => ?_)
          · have fe : f h = (fRo (cT ii kd) n set left (has ||| cT ii kd h has) (used ||| bT h) (u / 10)).map (fun x => u * (h + 1) + x) := by
              rw [← hf]
              exact if_pos c2
            refine GB.go 47 rfl (aB1 (mn_vin (show h < 8 by omega) (by decide)) aB0) ?_
            rw [nI_clamp (show h < 2 ^ 31 by omega)]
            refine GB.go 9999 rfl aB0 ?_
            refine GB.cal rfl rfl (by omega) (k_takenBy h (hk6 h (by omega)) has) ?_
            refine GB.go 68 rfl aB0 ?_
            rw [nI_pred]
            refine GB.go 73 rfl (aB1 (by decide) aB0) ?_
            rw [show nI u / 10 = nI (u / 10) from pk_div (by omega) (by decide) (by decide)]
            refine GB.cal rfl rfl (by omega) (rc (has ||| cT ii kd h has) (used ||| bT h) (u / 10) (by omega) (by omega)) ?_
            refine GB.go 9999 rfl aB0 ?_
            cases hr : fRo (cT ii kd) n set left (has ||| cT ii kd h has) (used ||| bT h) (u / 10) with
            | none =>
              rw [hr] at fe
              rw [show fstO f (N + 1) h = fstO f N (h + 1) by rw [fstO, fe]; rfl]
              refine GB.br rfl rfl (fun c3 => ?_) (fun c3 => ?_)
              · refine GB.go 21 rfl aB0 ?_
                exact ih _ _ (by omega)
              · exact absurd (by decide) c3
            | some x =>
              rw [hr] at fe
              have hx := fRo_le hn left _ _ _ x (by omega) hr
              rw [show fstO f (N + 1) h = some (u * (h + 1) + x) by rw [fstO, fe]; rfl]
              refine GB.br rfl rfl (fun c3 => ?_) (fun c3 => ?_)
              · exact absurd c3 (nI_pos (by omega))
              · refine GB.go 93 rfl aB0 ?_
                rw [nI_1, nI_mul]
                show GB l X (7 + (left + 1)) 0 0 128 (93, _, [vI (nI (u * (h + 1)) + nI x)], _) _ _
                rw [nI_add]
                exact GB.ret rfl rfl aB0
          · have fe : f h = none := by
              rw [← hf]
              exact if_neg c2
            rw [show fstO f (N + 1) h = fstO f N (h + 1) by rw [fstO, fe]]
            refine GB.go 21 rfl aB0 ?_
            exact ih _ _ (by omega)
    refine SK.of (by decide) (by decide) rfl ?_
    refine GB.go 9999 rfl aB0 ?_
    refine GB.br rfl rfl (fun c => ?_) (fun c => ?_)
    · refine GB.go 21 rfl aB0 ?_
      exact L n 0 _ _ (by omega)
    · exact absurd (nI_lt (show 0 < left + 1 by omega) (by omega)) c
theorem k_countR {n : Nat} (hn : n ≤ 8) (h0 : ii 17 0 2 = nI n) (hk6 : ∀ k, k < n → kd k < 6) (set : Int32) : ∀ (left : Nat) (has used : Int32), left ≤ 3 → SK l X (7 + left) 129 [vR 17 0, vI has, vI set, vI used, vI (nI left)] (ii, jj, mj_rk kd, 108) (some (vI (cRo (cT ii kd) n set left has used))) (ii, jj, mj_rk kd, 108)
  | 0, has, used, _ => by
    refine SK.of (by decide) (by decide) rfl ?_
    refine GB.go 9999 rfl aB0 ?_
    refine GB.br rfl rfl (fun c => ?_) (fun c => ?_)
    · exact absurd c (by decide)
    · refine GB.go 9999 rfl aB0 ?_
      unfold cRo
      refine GB.br rfl rfl (fun c2 => ?_) (fun c2 => ?_)
      · rw [if_pos c2]
        refine GB.go 9999 rfl aB0 ?_
        exact GB.ret rfl rfl aB0
      · rw [if_neg c2]
        refine GB.go 9999 rfl aB0 ?_
        exact GB.ret rfl rfl aB0
  | left + 1, has, used, hl => by
    have rc := k_countR hn h0 hk6 set left
    unfold cRo
    generalize hf : (fun h => if used &&& bT h = 0 then cRo (cT ii kd) n set left (has ||| cT ii kd h has) (used ||| bT h) else 0) = f
    have L : ∀ N h v7, h + N = n → GB l X (7 + (left + 1)) 0 0 129 (22, [some (vR 17 0), some (vI has), some (vI set), some (vI used), some (vI (nI (left + 1))), some (vI (aF f h)), some (vI (nI h)), v7], [], (ii, jj, mj_rk kd, 108)) (some (vI (aF f n))) (ii, jj, mj_rk kd, 108) := by
      intro N
      induction N with
      | zero =>
        intro h v7 e
        rw [show h = n by omega]
        refine GB.go 9999 rfl aB0 ?_
        rw [h0]
        refine GB.br rfl rfl (fun c => ?_) (fun c => ?_)
        · refine GB.go 9999 rfl aB0 ?_
          exact GB.ret rfl rfl aB0
        · exact absurd (Int32.le_refl _) c
      | succ N ih =>
        intro h v7 e
        have ih := ih (h + 1)
        rw [nI_succ h, show aF f (h + 1) = aF f h + f h from rfl] at ih
        refine GB.go 9999 rfl aB0 ?_
        rw [h0]
        refine GB.br rfl rfl (fun c => ?_) (fun c => ?_)
        · exact absurd c (nI_ge (show h < n by omega) (by omega))
        · refine GB.go 9999 rfl aB0 ?_
          refine GB.br rfl rfl (fun c2 => ?_) (fun c2 => ?_)
          · have fe : f h = cRo (cT ii kd) n set left (has ||| cT ii kd h has) (used ||| bT h) := by
              rw [← hf]
              exact if_pos c2
            rw [fe] at ih
            refine GB.go 48 rfl (aB1 (mn_vin (show h < 8 by omega) (by decide)) aB0) ?_
            rw [nI_clamp (show h < 2 ^ 31 by omega)]
            refine GB.go 9999 rfl aB0 ?_
            refine GB.cal rfl rfl (by omega) (k_takenBy h (hk6 h (by omega)) has) ?_
            refine GB.go 71 rfl aB0 ?_
            rw [nI_pred]
            refine GB.cal rfl rfl (by omega) (rc (has ||| cT ii kd h has) (used ||| bT h) (by omega)) ?_
            refine GB.go 22 rfl aB0 ?_
            exact ih _ (by omega)
          · have fe : f h = 0 := by
              rw [← hf]
              exact if_neg c2
            rw [fe, Int32.add_zero] at ih
            refine GB.go 22 rfl aB0 ?_
            exact ih _ (by omega)
    refine SK.of (by decide) (by decide) rfl ?_
    refine GB.go 9999 rfl aB0 ?_
    refine GB.br rfl rfl (fun c => ?_) (fun c => ?_)
    · refine GB.go 22 rfl aB0 ?_
      exact L n 0 _ (by omega)
    · exact absurd (nI_lt (show 0 < left + 1 by omega) (by omega)) c
theorem c_row0 (v t : Int32) (h : ¬ ((¬ v < 0 ∧ ¬ ii 17 0 3 ≤ v) ∧ uT t 4095 = true)) : SK l X 12 96 [vR 5 0, vI v, vI t] (ii, jj, mj_rk kd, 108) (some (vI (fA 0))) (fnd ii 0, jj, mj_rk kd, 108) := by
  refine SK.of (by decide) (by decide) rfl ?_
  have tail : GB l X 12 0 0 96 (15, [some (vR 5 0), some (vI v), some (vI t), none, none], [], (ii, jj, mj_rk kd, 108)) (some (vI (fA 0))) (fnd ii 0, jj, mj_rk kd, 108) := by
    refine GB.go 9999 rfl aB0 ?_
    refine GB.cal rfl rfl (by decide) (k_finding 0 (by decide)) ?_
    exact GB.ret rfl rfl aB0
  refine GB.go 9999 rfl aB0 ?_
  refine GB.cal rfl rfl (by decide) (k_isHead v) ?_
  refine GB.br rfl rfl (fun c => ?_) (fun c => ?_)
  · exact tail
  · refine GB.go 9999 rfl aB0 ?_
    refine GB.cal rfl rfl (by decide) (k_isSet _ t) ?_
    refine GB.br rfl rfl (fun c2 => ?_) (fun c2 => ?_)
    · exact tail
    · exact absurd ⟨bd_t c, bI_t c2⟩ h
def anO (o : Option Nat) : Int32 := match o with
  | some k => nI k
  | none => fA 3
theorem c_rowL (d n : Nat) (set : Int32) (hd : d < 6) (hn : n ≤ 8) (h0 : ii 17 0 2 = nI n) (hk6 : ∀ k, k < n → kd k < 6) : ∀ N k v4, k + N = 4 → GB l X 12 0 0 96 (23, [some (vR 5 0), some (vI (nI d)), some (vI set), some (vI (nI k)), v4], [], (ii, jj, mj_rk kd, 108)) (some (vI (anO (fstO (fun k => fRo (cT ii kd) n set k (ii 22 d 0) 0 100) N k)))) (pi3 ii (fstO (fun k => fRo (cT ii kd) n set k (ii 22 d 0) 0 100) N k), jj, mj_rk kd, 108)
  | 0, k, v4, e => by
    rw [show k = 4 by omega]
    refine GB.go 9999 rfl aB0 ?_
    refine GB.br rfl rfl (fun c => ?_) (fun c => ?_)
    · refine GB.go 9999 rfl aB0 ?_
      refine GB.cal rfl rfl (by decide) (k_finding 3 (by decide)) ?_
      exact GB.ret rfl rfl aB0
    · exact absurd (by decide) c
  | N + 1, k, v4, e => by
    have ih := c_rowL d n set hd hn h0 hk6 N (k + 1)
    rw [nI_succ k] at ih
    refine GB.go 9999 rfl aB0 ?_
    refine GB.br rfl rfl (fun c => ?_) (fun c => ?_)
    · exact absurd c (nI_nlt (show k ≤ 3 by omega) (by decide))
    · refine GB.go 41 rfl (aB1 (mn_vin (show d < 6 by omega) (by decide)) aB0) ?_
      rw [nI_clamp (show d < 2 ^ 31 by omega)]
      refine GB.go 9999 rfl aB0 ?_
      refine GB.cal rfl rfl (by omega) (k_first (u := 100) hn h0 hk6 set k (ii 22 d 0) 0 (by omega) (by decide)) ?_
      refine GB.go 9999 rfl aB0 ?_
      cases hr : fRo (cT ii kd) n set k (ii 22 d 0) 0 100 with
      | none =>
        rw [show fstO (fun k => fRo (cT ii kd) n set k (ii 22 d 0) 0 100) (N + 1) k = fstO (fun k => fRo (cT ii kd) n set k (ii 22 d 0) 0 100) N (k + 1) by rw [fstO, hr]]
        refine GB.br rfl rfl (fun c3 => ?_) (fun c3 => ?_)
        · refine GB.go 23 rfl aB0 ?_
          exact ih _ (by omega)
        · exact absurd (by decide) c3
      | some x =>
        have hx := fRo_le hn k _ _ _ x (by decide) hr
        rw [show fstO (fun k => fRo (cT ii kd) n set k (ii 22 d 0) 0 100) (N + 1) k = some x by rw [fstO, hr]]
        refine GB.br rfl rfl (fun c3 => ?_) (fun c3 => ?_)
        · exact absurd c3 (nI_pos (by omega))
        · refine GB.go 9999 rfl aB0 ?_
          exact GB.ret rfl rfl aB0
theorem c_row (d m n : Nat) (set : Int32) (hd : d < m) (hm : m ≤ 6) (h1 : ii 17 0 3 = nI m) (hn : n ≤ 8) (h0 : ii 17 0 2 = nI n) (hk6 : ∀ k, k < n → kd k < 6) (hs : uT set 4095 = true) : SK l X 12 96 [vR 5 0, vI (nI d), vI set] (ii, jj, mj_rk kd, 108) (some (vI (anO (fstO (fun k => fRo (cT ii kd) n set k (ii 22 d 0) 0 100) 4 0)))) (pi3 ii (fstO (fun k => fRo (cT ii kd) n set k (ii 22 d 0) 0 100) 4 0), jj, mj_rk kd, 108) := by
  refine SK.of (by decide) (by decide) rfl ?_
  refine GB.go 9999 rfl aB0 ?_
  refine GB.cal rfl rfl (by decide) (k_isHead _) ?_
  refine GB.br rfl rfl (fun c => ?_) (fun c => ?_)
  · exact absurd (in_ok hd (by omega) h1) (bd_f c)
  · refine GB.go 9999 rfl aB0 ?_
    refine GB.cal rfl rfl (by decide) (k_isSet _ set) ?_
    refine GB.br rfl rfl (fun c2 => ?_) (fun c2 => ?_)
    · exact absurd c2 (b0_of hs)
    · refine GB.go 23 rfl aB0 ?_
      exact c_rowL d n set (by omega) hn h0 hk6 4 0 _ rfl
theorem c_rows0 (v t x : Int32) (h : ¬ ((¬ v < 0 ∧ ¬ ii 17 0 3 ≤ v) ∧ uT t 4095 = true ∧ uT x 3 = true)) : SK l X 12 97 [vR 5 0, vI v, vI t, vI x] (ii, jj, mj_rk kd, 108) (some (vI (fA 0))) (fnd ii 0, jj, mj_rk kd, 108) := by
  refine SK.of (by decide) (by decide) rfl ?_
  have tail : GB l X 12 0 0 97 (23, [some (vR 5 0), some (vI v), some (vI t), some (vI x)], [], (ii, jj, mj_rk kd, 108)) (some (vI (fA 0))) (fnd ii 0, jj, mj_rk kd, 108) := by
    refine GB.go 9999 rfl aB0 ?_
    refine GB.cal rfl rfl (by decide) (k_finding 0 (by decide)) ?_
    exact GB.ret rfl rfl aB0
  refine GB.go 9999 rfl aB0 ?_
  refine GB.cal rfl rfl (by decide) (k_isHead v) ?_
  refine GB.br rfl rfl (fun c => ?_) (fun c => ?_)
  · exact tail
  · refine GB.go 9999 rfl aB0 ?_
    refine GB.cal rfl rfl (by decide) (k_isSet _ t) ?_
    refine GB.br rfl rfl (fun c2 => ?_) (fun c2 => ?_)
    · exact tail
    · refine GB.go 9999 rfl aB0 ?_
      refine GB.cal rfl rfl (by decide) (k_upto _ x 3) ?_
      refine GB.br rfl rfl (fun c3 => ?_) (fun c3 => ?_)
      · exact tail
      · exact absurd ⟨bd_t c, bI_t c2, bI_t c3⟩ h
theorem c_rows (d m n k : Nat) (set : Int32) (hd : d < m) (hm : m ≤ 6) (h1 : ii 17 0 3 = nI m) (hn : n ≤ 8) (h0 : ii 17 0 2 = nI n) (hk6 : ∀ k, k < n → kd k < 6) (hs : uT set 4095 = true) (hk : k ≤ 3) : SK l X 12 97 [vR 5 0, vI (nI d), vI set, vI (nI k)] (ii, jj, mj_rk kd, 108) (some (vI (cRo (cT ii kd) n set k (ii 22 d 0) 0))) (ii, jj, mj_rk kd, 108) := by
  refine SK.of (by decide) (by decide) rfl ?_
  refine GB.go 9999 rfl aB0 ?_
  refine GB.cal rfl rfl (by decide) (k_isHead _) ?_
  refine GB.br rfl rfl (fun c => ?_) (fun c => ?_)
  · exact absurd (in_ok hd (by omega) h1) (bd_f c)
  · refine GB.go 9999 rfl aB0 ?_
    refine GB.cal rfl rfl (by decide) (k_isSet _ set) ?_
    refine GB.br rfl rfl (fun c2 => ?_) (fun c2 => ?_)
    · exact absurd c2 (b0_of hs)
    · refine GB.go 9999 rfl aB0 ?_
      refine GB.cal rfl rfl (by decide) (k_upto _ _ 3) ?_
      refine GB.br rfl rfl (fun c3 => ?_) (fun c3 => ?_)
      · exact absurd c3 (b0_of (uT_ok hk (by decide)))
      · refine GB.go 42 rfl (aB1 (mn_vin (show d < 6 by omega) (by decide)) aB0) ?_
        rw [nI_clamp (show d < 2 ^ 31 by omega)]
        refine GB.go 9999 rfl aB0 ?_
        refine GB.cal rfl rfl (by omega) (k_countR hn h0 hk6 set k (ii 22 d 0) 0 hk) ?_
        exact GB.ret rfl rfl aB0
end MP
