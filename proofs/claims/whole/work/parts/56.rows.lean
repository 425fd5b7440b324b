/-! ROWS: a hat's week as a function of its row -/
def eqR (f g : Nat → Int32) : Prop := ∀ t, t < 12 → f t = g t
theorem eqR.rf {f : Nat → Int32} : eqR f f := fun _ _ => rfl
theorem eqR.tr {f g e : Nat → Int32} (h1 : eqR f g) (h2 : eqR g e) : eqR f e := fun t ht => (h1 t ht).trans (h2 t ht)
theorem eqR.sy {f g : Nat → Int32} (h1 : eqR f g) : eqR g f := fun t ht => (h1 t ht).symm
theorem hF_c {f g : Nat → Int32} {a : Int32} (h : eqR f g) : ∀ n, n ≤ 12 → hF f a n = hF g a n
  | 0, _ => rfl
  | n + 1, hn => by
    unfold hF
    rw [h n (by omega), hF_c h n (by omega)]
theorem aF_c {f g : Nat → Int32} : ∀ n, (∀ t, t < n → f t = g t) → aF f n = aF g n
  | 0, _ => rfl
  | n + 1, h => by
    unfold aF
    rw [h n (by omega), aF_c n (fun t ht => h t (by omega))]
theorem oF_c {f g : Nat → Int32} : ∀ n, (∀ t, t < n → f t = g t) → oF f n = oF g n
  | 0, _ => rfl
  | n + 1, h => by
    unfold oF
    rw [h n (by omega), oF_c n (fun t ht => h t (by omega))]
theorem lmP_c {f g : Nat → Int32} (h : eqR f g) : ∀ n k a, k + n ≤ 12 → lmP f n k a = lmP g n k a
  | 0, _, _, _ => rfl
  | n + 1, k, a, hk => by
    unfold lmP
    rw [h k (by omega), lmP_c h n (k + 1) a (by omega), lmP_c h n (k + 1) (a + -1) (by omega)]
def loO (f : Nat → Int32) (o : Option Nat) : Nat → Int32 := match o with
  | none => f
  | some p => fun t => if t = p then 0 else f t
def loF (f : Nat → Int32) : Nat → Int32 := if 3 ≤ bC (hF f 1 12) then loO f (lmP f 12 0 ((bC (hF f 1 12) - 1) / 2)) else f
def wkR (c : Nat) (w mo : Int32) (f : Nat → Int32) : Nat → Int32 := if mo = 1 then loF (wkF f (fdO c w)) else wkF f (fdO c w)
theorem loO_c {f g : Nat → Int32} {o : Option Nat} (h : eqR f g) : eqR (loO f o) (loO g o) := by
  cases o with
  | none => exact h
  | some p =>
    intro t ht
    show (if t = p then 0 else f t) = (if t = p then 0 else g t)
    rw [h t ht]
theorem loF_c {f g : Nat → Int32} (h : eqR f g) : eqR (loF f) (loF g) := by
  unfold loF
  rw [hF_c h 12 (by decide), lmP_c h 12 0 _ (by decide)]
  split
  · exact loO_c h
  · exact h
theorem wkF_c {f g : Nat → Int32} {z : Int32} (h : eqR f g) : eqR (wkF f z) (wkF g z) := fun t ht => by
  unfold wkF
  rw [h t ht]
theorem wkR_c {c : Nat} {w mo : Int32} {f g : Nat → Int32} (h : eqR f g) : eqR (wkR c w mo f) (wkR c w mo g) := by
  unfold wkR
  split
  · exact loF_c (wkF_c h)
  · exact wkF_c h
theorem rN_c {f g : Nat → Int32} (h : eqR f g) (hr : rN f) : rN g := fun t ht => by
  rw [← h t ht]
  exact hr t ht
theorem rN_loF {f : Nat → Int32} (hr : rN f) : rN (loF f) := by
  unfold loF
  split
  · cases lmP f 12 0 ((bC (hF f 1 12) - 1) / 2) with
    | none => exact hr
    | some p =>
      intro t ht
      show ∃ x, x ≤ 9 ∧ (if t = p then 0 else f t) = nI x
      split
      · exact ⟨0, by decide, rfl⟩
      · exact hr t ht
  · exact hr
theorem rN_wkF {f : Nat → Int32} {z : Int32} (hz : ∃ y, y ≤ 2 ∧ z = nI y) (hr : rN f) : rN (wkF f z) := fun t ht => by
  obtain ⟨x, hx, e⟩ := hr t ht
  obtain ⟨y, hy, e2⟩ := hz
  refine ⟨x - y, by omega, ?_⟩
  unfold wkF
  rw [e, e2, wk_n hx hy]
theorem rN_wkR {c w : Nat} {mo : Int32} {f : Nat → Int32} (hw : w < 2 ^ 31) (hr : rN f) : rN (wkR c (nI w) mo f) := by
  unfold wkR
  split
  · exact rN_loF (rN_wkF (fdO_n hw) hr)
  · exact rN_wkF (fdO_n hw) hr
/-- weeks one behind another, from week w on -/
def wkRs (c w : Nat) (mo : Int32) (f : Nat → Int32) : Nat → Nat → Int32
  | 0 => f
  | k + 1 => wkR c (nI (w + k)) mo (wkRs c w mo f k)
theorem wkRs_c {c w : Nat} {mo : Int32} {f g : Nat → Int32} (h : eqR f g) : ∀ k, eqR (wkRs c w mo f k) (wkRs c w mo g k)
  | 0 => h
  | k + 1 => wkR_c (wkRs_c h k)
theorem rN_wkRs {c w : Nat} {mo : Int32} {f : Nat → Int32} (hr : rN f) : ∀ k, w + k < 2 ^ 31 → rN (wkRs c w mo f k)
  | 0, _ => hr
  | k + 1, h => rN_wkR (by omega) (rN_wkRs hr k (by omega))
section RW
variable {ii : Nat → Nat → Nat → Int32} {kd : Nat → Nat}
theorem mR_eaM {i : Nat} : mR (eaM ii i) i = loF (mR ii i) := by
  unfold eaM loF
  split
  · cases lmP (mR ii i) 12 0 ((bC (hF (mR ii i) 1 12) - 1) / 2) with
    | none => rfl
    | some p =>
      funext t
      show up3 ii 26 0 (6 + 14 * i + p) 0 26 0 (6 + 14 * i + t) = if t = p then 0 else mR ii i t
      unfold up3
      by_cases e : t = p
      · rw [if_pos e, if_pos ⟨rfl, rfl, by omega⟩]
      · rw [if_neg e, if_neg (fun q => e (by omega))]
        rfl
  · rfl
theorem mR_wR {i : Nat} {F : Nat → Int32} : eqR (mR (wR ii i 12 F) i) F := fun t ht => wR_lt ht
theorem mR_mW {i c : Nat} {w mo : Int32} : eqR (mR (mW ii i c w mo) i) (wkR c w mo (mR ii i)) := by
  unfold mW wkR
  split
  · rw [mR_eaM]
    exact loF_c mR_wR
  · exact mR_wR
theorem mR_mWn {i j c : Nat} {w mo : Int32} (h : j ≠ i) : eqR (mR (mW ii i c w mo) j) (mR ii j) := fun t ht => mW_out (by omega)
theorem mR_mWs {K : Nat → Nat} {w mo : Int32} {i : Nat} : ∀ n, i < n → eqR (mR (mWs ii K w mo n) i) (wkR (K i) w mo (mR ii i))
  | 0, h => absurd h (Nat.not_lt_zero _)
  | n + 1, h => by
    by_cases e : i = n
    · rw [e]
      exact mR_mW.tr (wkR_c (fun t ht => mWs_mR (Nat.le_refl _) ht))
    · exact (mR_mWn e).tr (mR_mWs n (by omega))
theorem lM_at {i : Nat} : lM ii i 21 i = loF (ii 21 i) := by
  unfold lM loF
  split
  · cases lmP (ii 21 i) 12 0 ((bC (hF (ii 21 i) 1 12) - 1) / 2) with
    | none => rfl
    | some p =>
      funext t
      show up3 ii 21 i p 0 21 i t = if t = p then 0 else ii 21 i t
      unfold up3
      by_cases e : t = p
      · rw [if_pos e, if_pos ⟨rfl, rfl, e⟩]
      · rw [if_neg e, if_neg (fun q => e q.2.2)]
  · rfl
theorem wA_at {i : Nat} {F : Nat → Int32} : eqR (wA ii 21 i 12 F 21 i) F := fun t ht => wA_lt ht
theorem pW_at {i c : Nat} {w mo : Int32} : eqR (pW ii i c w mo 21 i) (wkR c w mo (ii 21 i)) := by
  unfold pW wkR
  split
  · rw [lM_at]
    exact loF_c wA_at
  · exact wA_at
theorem lM_ne {i j : Nat} (h : j ≠ i) : lM ii i 21 j = ii 21 j := by
  unfold lM
  split
  · cases lmP (ii 21 i) 12 0 ((bC (hF (ii 21 i) 1 12) - 1) / 2) with
    | none => rfl
    | some p =>
      funext t
      exact up3_num h
  · rfl
theorem pW_ne {i j c : Nat} {w mo : Int32} (h : j ≠ i) : pW ii i c w mo 21 j = ii 21 j := by
  unfold pW
  split
  · rw [lM_ne h]
    funext t
    exact wA_ne (fun q => h q.2)
  · funext t
    exact wA_ne (fun q => h q.2)
theorem pWs_ge {w mo : Int32} {i : Nat} : ∀ n, n ≤ i → pWs ii kd w mo n 21 i = ii 21 i
  | 0, _ => rfl
  | n + 1, h => by rw [pWs, pW_ne (by omega), pWs_ge n (by omega)]
theorem pWs_at {w mo : Int32} {i : Nat} : ∀ n, i < n → eqR (pWs ii kd w mo n 21 i) (wkR (kd i) w mo (ii 21 i))
  | 0, h => absurd h (Nat.not_lt_zero _)
  | n + 1, h => by
    by_cases e : i = n
    · rw [e, pWs]
      refine pW_at.tr ?_
      rw [pWs_ge n (Nat.le_refl n)]
      exact eqR.rf
    · rw [pWs, pW_ne e]
      exact pWs_at n (by omega)
/-- the class's weeks of a trial hat, of both, of the shop -/
theorem trW_at {i c w : Nat} (hw : ii 17 0 4 = nI w) : ∀ k, eqR (trW i c ii k 21 i) (wkRs c w (ii 17 0 5) (ii 21 i) k)
  | 0 => eqR.rf
  | k + 1 => by
    rw [trW, hw, nI_add]
    exact pW_at.tr (wkR_c (trW_at hw k))
theorem trB_at {c e w : Nat} (hw : ii 17 0 4 = nI w) : ∀ k, eqR (trB c e ii k 21 24) (wkRs c w (ii 17 0 5) (ii 21 24) k) ∧ eqR (trB c e ii k 21 25) (wkRs e w (ii 17 0 5) (ii 21 25) k)
  | 0 => ⟨eqR.rf, eqR.rf⟩
  | k + 1 => by
    obtain ⟨h1, h2⟩ := trB_at hw k
    rw [trB, hw, nI_add]
    constructor
    · rw [pW_ne (by decide)]
      exact pW_at.tr (wkR_c h1)
    · refine pW_at.tr (wkR_c ?_)
      rw [pW_ne (by decide)]
      exact h2
theorem shWs_wk {n w : Nat} (hw : ii 17 0 4 = nI w) : ∀ k, shWs kd n ii k 17 0 4 = nI (w + k)
  | 0 => hw
  | k + 1 => by
    rw [shWs, shW, up3_rd, shWs_wk hw k, nI_1]
    rfl
theorem shWs_at {n w i : Nat} (hw : ii 17 0 4 = nI w) (hi : i < n) : ∀ k, eqR (shWs kd n ii k 21 i) (wkRs (kd i) w (ii 17 0 5) (ii 21 i) k)
  | 0 => eqR.rf
  | k + 1 => by
    rw [shWs, shW, up3_tag (by decide), shWs_wk hw k, shWs_pl (by decide)]
    exact (pWs_at n hi).tr (wkR_c (shWs_at hw hi k))
end RW
