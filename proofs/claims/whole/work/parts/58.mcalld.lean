/-! THE MODEL'S CALLS: on, gone, alike, best, worn, before -/
theorem topB_s {s : Int32} : ∀ n, n ≤ 12 → sT (topB n s)
  | 0, _ => by unfold topB; exact sT_nI (a := 0) (by decide)
  | n + 1, h => by
    unfold topB
    split
    · exact topB_s n (by omega)
    · exact bT_all n (by omega)
theorem sT_tk {c : Nat} {a b x : Int32} (h : sT a) : sT (tkO c a b x) := by
  unfold tkO
  split
  · exact h
  · exact sT_and h
  · exact sT_and (sT_and h)
  · exact sT_and h
  · split
    · exact sT_nI (a := 0) (by decide)
    · exact sT_or (sT_and h) (sT_nI (a := 1) (by decide))
  · exact topB_s 12 (by decide)
def bsJ (F : Nat → Int32) : Nat → Int32
  | 0 => -1
  | n + 1 => if F n ≤ bsM F n then bsJ F n else nI n
def piM (i2 : Nat → Nat → Nat → Int32) (o : Option Nat) : Nat → Nat → Nat → Int32 := match o with
  | some _ => i2
  | none => fnm i2 3
section MQ
variable {l : Launch} {X : FX} {ii : Nat → Nat → Nat → Int32} {jj : Nat → Nat → Nat → Int64} {kd : Nat → Nat}
theorem m_on0 (v w x : Int32) {n : Nat} (hn : n ≤ 8) (h0 : ii 26 0 2 = nI n) (h : ¬ ((¬ v < 0 ∧ ¬ nI n ≤ v) ∧ uT w 60 = true ∧ uT x 1 = true)) : SK l X 8 179 [vR 25 0, vI v, vI w, vI x] (ii, jj, mj_rk kd, 108) (some (vI (fA 0))) (fnm ii 0, jj, mj_rk kd, 108) := by
  refine SK.of (by decide) (by decide) rfl ?_
  have tail : GB l X 8 0 0 179 (29, [some (vR 25 0), some (vI v), some (vI w), some (vI x), none], [], (ii, jj, mj_rk kd, 108)) (some (vI (fA 0))) (fnm ii 0, jj, mj_rk kd, 108) := by
    refine GB.go 9999 rfl aB0 ?_
    refine GB.cal rfl rfl (by decide) (m_finds 0 (by decide)) ?_
    exact GB.ret rfl rfl aB0
  refine GB.go 9999 rfl aB0 ?_
  refine GB.cal rfl rfl (by decide) (m_isHat v hn h0) ?_
  refine GB.br rfl rfl (fun c => ?_) (fun c => ?_)
  · exact tail
  · refine GB.go 9999 rfl aB0 ?_
    refine GB.cal rfl rfl (by decide) (m_up _ w 60) ?_
    refine GB.br rfl rfl (fun c2 => ?_) (fun c2 => ?_)
    · exact tail
    · refine GB.go 9999 rfl aB0 ?_
      refine GB.cal rfl rfl (by decide) (m_up _ x 1) ?_
      refine GB.br rfl rfl (fun c3 => ?_) (fun c3 => ?_)
      · exact tail
      · exact absurd ⟨bd_t c, bI_t c2, bI_t c3⟩ h
theorem m_on (i n N w : Nat) {K : Nat → Nat} (x : Int32) (hi : i < n) (h : mI ii n w K) (hN : N ≤ 60) (hw : w + N < 2 ^ 31) (hx : uT x 1 = true) : ∃ i2, SK l X 8 179 [vR 25 0, vI (nI i), vI (nI N), vI x] (ii, jj, mj_rk kd, 108) (some (vI (if x = 0 then hF (wkRs (K i) w (ii 26 0 1) (mR ii i) N) 1 12 else aF (wkRs (K i) w (ii 26 0 1) (mR ii i) N) 12))) (i2, jj, mj_rk kd, 108) ∧ smM ii i2 := by
  have T := mI_th (F := ii 26 0) h
  have A := mSk_at T hi N hw
  rw [show wA ii 28 0 134 (ii 26 0) 26 0 1 = ii 26 0 1 by rw [wA_tg (by decide)], show mR (wA ii 28 0 134 (ii 26 0)) i = mR ii i by funext t; unfold mR; rw [wA_tg (by decide)]] at A
  have hb : smM ii (wA (mSk K n (wA ii 28 0 134 (ii 26 0)) N) 26 0 134 (mSk K n (wA ii 28 0 134 (ii 26 0)) N 28 0)) := smM_back (fun a ha => mSk_tag ha N)
  refine ⟨_, ?_, hb⟩
  have n8 := h.1
  refine SK.of (by decide) (by decide) rfl ?_
  refine GB.go 9999 rfl aB0 ?_
  refine GB.cal rfl rfl (by decide) (m_isHat _ n8 h.2.1) ?_
  refine GB.br rfl rfl (fun c => ?_) (fun c => ?_)
  · exact absurd (in_ok hi (by omega) rfl) (bd_f c)
  · refine GB.go 9999 rfl aB0 ?_
    refine GB.cal rfl rfl (by decide) (m_up _ _ 60) ?_
    refine GB.br rfl rfl (fun c2 => ?_) (fun c2 => ?_)
    · exact absurd c2 (b0_of (uT_ok hN (by decide)))
    · refine GB.go 9999 rfl aB0 ?_
      refine GB.cal rfl rfl (by decide) (m_up _ x 1) ?_
      refine GB.br rfl rfl (fun c3 => ?_) (fun c3 => ?_)
      · exact absurd c3 (b0_of hx)
      · refine GB.go 9999 rfl aB0 ?_
        refine GB.cal rfl rfl (by decide) (m_thinks) ?_
        refine GB.go 9999 rfl aB0 ?_
        refine GB.cal rfl rfl (by decide) (m_goesOn T N hw) ?_
        refine GB.go 9999 rfl aB0 ?_
        refine GB.br rfl rfl (fun c4 => ?_) (fun c4 => ?_)
        · rw [if_pos c4, ← hF_c A 12 (by decide)]
          refine GB.go 9999 rfl aB0 ?_
          refine GB.cal rfl rfl (by decide) (m_holds i (by omega) 1) ?_
          refine GB.go 9999 rfl aB0 ?_
          refine GB.cal rfl rfl (by decide) (m_putsBack) ?_
          refine GB.go 9999 rfl aB0 ?_
          exact GB.ret rfl rfl aB0
        · rw [if_neg c4, ← aF_c 12 A]
          refine GB.go 9999 rfl aB0 ?_
          refine GB.cal rfl rfl (by decide) (m_freshOf i (by omega)) ?_
          refine GB.go 9999 rfl aB0 ?_
          refine GB.cal rfl rfl (by decide) (m_putsBack) ?_
          refine GB.go 9999 rfl aB0 ?_
          exact GB.ret rfl rfl aB0
theorem m_gone0 (v t : Int32) {n : Nat} (hn : n ≤ 8) (h0 : ii 26 0 2 = nI n) (h : ¬ ((¬ v < 0 ∧ ¬ nI n ≤ v) ∧ uT t 11 = true)) : SK l X 8 180 [vR 25 0, vI v, vI t] (ii, jj, mj_rk kd, 108) (some (vI (fA 0))) (fnm ii 0, jj, mj_rk kd, 108) := by
  refine SK.of (by decide) (by decide) rfl ?_
  have tail : GB l X 8 0 0 180 (15, [some (vR 25 0), some (vI v), some (vI t), none], [], (ii, jj, mj_rk kd, 108)) (some (vI (fA 0))) (fnm ii 0, jj, mj_rk kd, 108) := by
    refine GB.go 9999 rfl aB0 ?_
    refine GB.cal rfl rfl (by decide) (m_finds 0 (by decide)) ?_
    exact GB.ret rfl rfl aB0
  refine GB.go 9999 rfl aB0 ?_
  refine GB.cal rfl rfl (by decide) (m_isHat v hn h0) ?_
  refine GB.br rfl rfl (fun c => ?_) (fun c => ?_)
  · exact tail
  · refine GB.go 9999 rfl aB0 ?_
    refine GB.cal rfl rfl (by decide) (m_isThought _ t) ?_
    refine GB.br rfl rfl (fun c2 => ?_) (fun c2 => ?_)
    · exact tail
    · exact absurd ⟨bd_t c, bI_t c2⟩ h
def goP (K : Nat → Nat) (n : Nat) (ii : Nat → Nat → Nat → Int32) (i t j : Nat) : Bool := decide (mR (mSk K n ii j) i t ≤ 0)
theorem m_goneL (i t n w : Nat) {K : Nat → Nat} (hi : i < n) (ht : t < 12) (h : mI ii n w K) (hw : w + 61 < 2 ^ 31) : ∀ N k, k + N = 61 → ∃ k', k' ≤ 61 ∧ GB l X 8 0 0 180 (28, [some (vR 25 0), some (vI (nI i)), some (vI (nI t)), some (vI (nI k))], [], (mSk K n ii k, jj, mj_rk kd, 108)) (some (vI (anK (fstK (goP K n ii i t) N k)))) (piM (wA (mSk K n ii k') 26 0 134 (mSk K n ii k' 28 0)) (fstK (goP K n ii i t) N k), jj, mj_rk kd, 108)
  | 0, k, e => by
    refine ⟨k, by omega, ?_⟩
    rw [show k = 61 by omega]
    refine GB.go 9999 rfl aB0 ?_
    refine GB.br rfl rfl (fun c => ?_) (fun c => ?_)
    · refine GB.go 9999 rfl aB0 ?_
      refine GB.cal rfl rfl (by decide) (m_putsBack) ?_
      refine GB.go 9999 rfl aB0 ?_
      refine GB.br rfl rfl (fun c2 => ?_) (fun c2 => ?_)
      · exact absurd c2 (by decide)
      · refine GB.go 9999 rfl aB0 ?_
        refine GB.cal rfl rfl (by decide) (m_finds 3 (by decide)) ?_
        refine GB.go 9999 rfl aB0 ?_
        exact GB.ret rfl rfl aB0
    · exact absurd (by decide) c
  | N + 1, k, e => by
    have n8 := h.1
    by_cases q : mR (mSk K n ii k) i t ≤ 0
    · refine ⟨k, by omega, ?_⟩
      rw [show fstK (goP K n ii i t) (N + 1) k = some k by rw [fstK, show goP K n ii i t k = true from decide_eq_true q]; rfl]
      refine GB.go 9999 rfl aB0 ?_
      refine GB.br rfl rfl (fun c => ?_) (fun c => ?_)
      · exact absurd c (nI_nlt (show k ≤ 60 by omega) (by decide))
      · refine GB.go 9999 rfl aB0 ?_
        refine GB.cal rfl rfl (by decide) (m_spot _ i t) ?_
        refine GB.go 44 rfl (aB1 (mn_vin (show 6 + 14 * i + t < 134 by omega) (by decide)) aB0) ?_
        rw [nI_clamp (show 6 + 14 * i + t < 2 ^ 31 by omega)]
        refine GB.br rfl rfl (fun c2 => ?_) (fun c2 => ?_)
        · refine GB.go 9999 rfl aB0 ?_
          refine GB.cal rfl rfl (by decide) (m_putsBack) ?_
          refine GB.go 9999 rfl aB0 ?_
          refine GB.br rfl rfl (fun c3 => ?_) (fun c3 => ?_)
          · refine GB.go 9999 rfl aB0 ?_
            exact GB.ret rfl rfl aB0
          · exact absurd (nI_le (show k ≤ 60 by omega) (by decide)) c3
        · exact absurd q c2
    · obtain ⟨k', hk', ih⟩ := m_goneL i t n w hi ht h hw N (k + 1) (by omega)
      refine ⟨k', hk', ?_⟩
      rw [show fstK (goP K n ii i t) (N + 1) k = fstK (goP K n ii i t) N (k + 1) by rw [fstK, show goP K n ii i t k = false from decide_eq_false q]; rfl]
      rw [nI_succ k] at ih
      refine GB.go 9999 rfl aB0 ?_
      refine GB.br rfl rfl (fun c => ?_) (fun c => ?_)
      · exact absurd c (nI_nlt (show k ≤ 60 by omega) (by decide))
      · refine GB.go 9999 rfl aB0 ?_
        refine GB.cal rfl rfl (by decide) (m_spot _ i t) ?_
        refine GB.go 44 rfl (aB1 (mn_vin (show 6 + 14 * i + t < 134 by omega) (by decide)) aB0) ?_
        rw [nI_clamp (show 6 + 14 * i + t < 2 ^ 31 by omega)]
        refine GB.br rfl rfl (fun c2 => ?_) (fun c2 => ?_)
        · exact absurd c2 q
        · refine GB.go 9999 rfl aB0 ?_
          refine GB.cal rfl rfl (by decide) (m_wk (mSk_I h k (by omega)) (by omega)) ?_
          refine GB.go 28 rfl aB0 ?_
          exact ih
theorem m_gone (i t n w : Nat) {K : Nat → Nat} (hi : i < n) (ht : t < 12) (h : mI ii n w K) (hw : w + 61 < 2 ^ 31) : ∃ i2, SK l X 8 180 [vR 25 0, vI (nI i), vI (nI t)] (ii, jj, mj_rk kd, 108) (some (vI (anK (fstK (goP K n (wA ii 28 0 134 (ii 26 0)) i t) 61 0)))) (piM i2 (fstK (goP K n (wA ii 28 0 134 (ii 26 0)) i t) 61 0), jj, mj_rk kd, 108) ∧ smM ii i2 := by
  obtain ⟨k', hk', L⟩ := m_goneL (l := l) (X := X) (jj := jj) (kd := kd) i t n w hi ht (mI_th (F := ii 26 0) h) hw 61 0 rfl
  refine ⟨_, ?_, smM_back (i2 := mSk K n (wA ii 28 0 134 (ii 26 0)) k') (fun a ha => mSk_tag ha k')⟩
  refine SK.of (by decide) (by decide) rfl ?_
  refine GB.go 9999 rfl aB0 ?_
  refine GB.cal rfl rfl (by decide) (m_isHat _ h.1 h.2.1) ?_
  refine GB.br rfl rfl (fun c => ?_) (fun c => ?_)
  · exact absurd (in_ok hi (by have := h.1; omega) rfl) (bd_f c)
  · refine GB.go 9999 rfl aB0 ?_
    refine GB.cal rfl rfl (by decide) (m_isThought _ _) ?_
    refine GB.br rfl rfl (fun c2 => ?_) (fun c2 => ?_)
    · exact absurd c2 (b0_of (uT_ok (show t ≤ 11 by omega) (by decide)))
    · refine GB.go 9999 rfl aB0 ?_
      refine GB.cal rfl rfl (by decide) (m_thinks) ?_
      refine GB.go 28 rfl aB0 ?_
      exact L
theorem m_alike0 (v w : Int32) {n : Nat} (hn : n ≤ 8) (h0 : ii 26 0 2 = nI n) (h : ¬ ((¬ v < 0 ∧ ¬ nI n ≤ v) ∧ (¬ w < 0 ∧ ¬ nI n ≤ w) ∧ v ≠ w)) : SK l X 8 181 [vR 25 0, vI v, vI w] (ii, jj, mj_rk kd, 108) (some (vI (fA 0))) (fnm ii 0, jj, mj_rk kd, 108) := by
  refine SK.of (by decide) (by decide) rfl ?_
  refine GB.go 9999 rfl aB0 ?_
  refine GB.cal rfl rfl (by decide) (m_areTwo v w hn h0) ?_
  refine GB.br rfl rfl (fun c => ?_) (fun c => ?_)
  · refine GB.go 9999 rfl aB0 ?_
    refine GB.cal rfl rfl (by decide) (m_finds 0 (by decide)) ?_
    exact GB.ret rfl rfl aB0
  · exact absurd (bd_t c) h
def akP (K : Nat → Nat) (n : Nat) (ii : Nat → Nat → Nat → Int32) (i t j : Nat) : Bool := decide (hF (mR (mSk K n ii j) i) 1 12 = hF (mR (mSk K n ii j) t) 1 12)
theorem m_alikeL (i t n w : Nat) {K : Nat → Nat} (hi : i < n) (ht : t < n) (h : mI ii n w K) (hw : w + 61 < 2 ^ 31) : ∀ N k, k + N = 61 → ∃ k', k' ≤ 61 ∧ GB l X 8 0 0 181 (22, [some (vR 25 0), some (vI (nI i)), some (vI (nI t)), some (vI (nI k))], [], (mSk K n ii k, jj, mj_rk kd, 108)) (some (vI (anK (fstK (akP K n ii i t) N k)))) (piM (wA (mSk K n ii k') 26 0 134 (mSk K n ii k' 28 0)) (fstK (akP K n ii i t) N k), jj, mj_rk kd, 108)
  | 0, k, e => by
    refine ⟨k, by omega, ?_⟩
    rw [show k = 61 by omega]
    refine GB.go 9999 rfl aB0 ?_
    refine GB.br rfl rfl (fun c => ?_) (fun c => ?_)
    · refine GB.go 9999 rfl aB0 ?_
      refine GB.cal rfl rfl (by decide) (m_putsBack) ?_
      refine GB.go 9999 rfl aB0 ?_
      refine GB.br rfl rfl (fun c2 => ?_) (fun c2 => ?_)
      · exact absurd c2 (by decide)
      · refine GB.go 9999 rfl aB0 ?_
        refine GB.cal rfl rfl (by decide) (m_finds 3 (by decide)) ?_
        refine GB.go 9999 rfl aB0 ?_
        exact GB.ret rfl rfl aB0
    · exact absurd (by decide) c
  | N + 1, k, e => by
    have n8 := h.1
    by_cases q : hF (mR (mSk K n ii k) i) 1 12 = hF (mR (mSk K n ii k) t) 1 12
    · refine ⟨k, by omega, ?_⟩
      rw [show fstK (akP K n ii i t) (N + 1) k = some k by rw [fstK, show akP K n ii i t k = true from decide_eq_true q]; rfl]
      refine GB.go 9999 rfl aB0 ?_
      refine GB.br rfl rfl (fun c => ?_) (fun c => ?_)
      · exact absurd c (nI_nlt (show k ≤ 60 by omega) (by decide))
      · refine GB.go 9999 rfl aB0 ?_
        refine GB.cal rfl rfl (by decide) (m_holds i (by omega) 1) ?_
        refine GB.go 9999 rfl aB0 ?_
        refine GB.cal rfl rfl (by decide) (m_holds t (by omega) 1) ?_
        refine GB.br rfl rfl (fun c2 => ?_) (fun c2 => ?_)
        · refine GB.go 9999 rfl aB0 ?_
          refine GB.cal rfl rfl (by decide) (m_putsBack) ?_
          refine GB.go 9999 rfl aB0 ?_
          refine GB.br rfl rfl (fun c3 => ?_) (fun c3 => ?_)
          · refine GB.go 9999 rfl aB0 ?_
            exact GB.ret rfl rfl aB0
          · exact absurd (nI_le (show k ≤ 60 by omega) (by decide)) c3
        · exact absurd q c2
    · obtain ⟨k', hk', ih⟩ := m_alikeL i t n w hi ht h hw N (k + 1) (by omega)
      refine ⟨k', hk', ?_⟩
      rw [show fstK (akP K n ii i t) (N + 1) k = fstK (akP K n ii i t) N (k + 1) by rw [fstK, show akP K n ii i t k = false from decide_eq_false q]; rfl]
      rw [nI_succ k] at ih
      refine GB.go 9999 rfl aB0 ?_
      refine GB.br rfl rfl (fun c => ?_) (fun c => ?_)
      · exact absurd c (nI_nlt (show k ≤ 60 by omega) (by decide))
      · refine GB.go 9999 rfl aB0 ?_
        refine GB.cal rfl rfl (by decide) (m_holds i (by omega) 1) ?_
        refine GB.go 9999 rfl aB0 ?_
        refine GB.cal rfl rfl (by decide) (m_holds t (by omega) 1) ?_
        refine GB.br rfl rfl (fun c2 => ?_) (fun c2 => ?_)
        · exact absurd c2 q
        · refine GB.go 9999 rfl aB0 ?_
          refine GB.cal rfl rfl (by decide) (m_wk (mSk_I h k (by omega)) (by omega)) ?_
          refine GB.go 22 rfl aB0 ?_
          exact ih
theorem m_alike (i t n w : Nat) {K : Nat → Nat} (hi : i < n) (ht : t < n) (hit : i ≠ t) (h : mI ii n w K) (hw : w + 61 < 2 ^ 31) : ∃ i2, SK l X 8 181 [vR 25 0, vI (nI i), vI (nI t)] (ii, jj, mj_rk kd, 108) (some (vI (anK (fstK (akP K n (wA ii 28 0 134 (ii 26 0)) i t) 61 0)))) (piM i2 (fstK (akP K n (wA ii 28 0 134 (ii 26 0)) i t) 61 0), jj, mj_rk kd, 108) ∧ smM ii i2 := by
  obtain ⟨k', hk', L⟩ := m_alikeL (l := l) (X := X) (jj := jj) (kd := kd) i t n w hi ht (mI_th (F := ii 26 0) h) hw 61 0 rfl
  refine ⟨_, ?_, smM_back (i2 := mSk K n (wA ii 28 0 134 (ii 26 0)) k') (fun a ha => mSk_tag ha k')⟩
  refine SK.of (by decide) (by decide) rfl ?_
  refine GB.go 9999 rfl aB0 ?_
  refine GB.cal rfl rfl (by decide) (m_areTwo _ _ h.1 h.2.1) ?_
  refine GB.br rfl rfl (fun c => ?_) (fun c => ?_)
  · exact absurd (m_two hi ht hit h.1) (bd_f c)
  · refine GB.go 9999 rfl aB0 ?_
    refine GB.cal rfl rfl (by decide) (m_thinks) ?_
    refine GB.go 22 rfl aB0 ?_
    exact L
theorem m_orNone (h : MH) (n : Nat) (hn : n < 2 ^ 31) : SK l X 2 132 [vR 25 0, vI (nI n)] h (some (vI (nI n))) h := by
  refine SK.of (by decide) (by decide) rfl ?_
  obtain ⟨ii, jj, rr, m⟩ := h
  refine GB.go 9999 rfl aB0 ?_
  refine GB.br rfl rfl (fun c => ?_) (fun c => ?_)
  · refine GB.go 9999 rfl aB0 ?_
    exact GB.ret rfl rfl aB0
  · exact absurd (nI_pos' hn) c
theorem m_orNone1 : SK l X 2 132 [vR 25 0, vI (-1)] (ii, jj, mj_rk kd, 108) (some (vI (fA 3))) (fnm ii 3, jj, mj_rk kd, 108) := by
  refine SK.of (by decide) (by decide) rfl ?_
  refine GB.go 9999 rfl aB0 ?_
  refine GB.br rfl rfl (fun c => ?_) (fun c => ?_)
  · exact absurd c (by decide)
  · refine GB.go 9999 rfl aB0 ?_
    refine GB.cal rfl rfl (by decide) (m_finds 3 (by decide)) ?_
    refine GB.go 9999 rfl aB0 ?_
    exact GB.ret rfl rfl aB0
theorem m_best0 (v : Int32) {n : Nat} (hn : n ≤ 6) (h0 : ii 26 0 3 = nI n) (h : ¬ (¬ v < 0 ∧ ¬ nI n ≤ v)) : SK l X 8 182 [vR 25 0, vI v] (ii, jj, mj_rk kd, 108) (some (vI (fA 0))) (fnm ii 0, jj, mj_rk kd, 108) := by
  refine SK.of (by decide) (by decide) rfl ?_
  refine GB.go 9999 rfl aB0 ?_
  refine GB.cal rfl rfl (by decide) (m_isHead v hn h0) ?_
  refine GB.br rfl rfl (fun c => ?_) (fun c => ?_)
  · refine GB.go 9999 rfl aB0 ?_
    refine GB.cal rfl rfl (by decide) (m_finds 0 (by decide)) ?_
    exact GB.ret rfl rfl aB0
  · exact absurd (bd_t c) h
/-- how many are had behind a hat of the model -/
def mN (ii : Nat → Nat → Nat → Int32) (c i : Nat) (has : Int32) : Int32 := bC (has ||| mT ii c i has)
theorem m_bestW (d m n : Nat) {K : Nat → Nat} (hd : d < m) (hm : m ≤ 6) (h1 : ii 26 0 3 = nI m) (hn : n ≤ 8) (h0 : ii 26 0 2 = nI n) (hK : ∀ i, i < n → K i < 6 ∧ ii 26 0 (4 + 14 * i) = nI (K i)) (hs : sT (ii 26 0 (116 + 3 * d))) {r : Option MV} {h' : MH} (fin : ∀ v5 v6, GB l X 8 0 0 182 (89, [some (vR 25 0), some (vI (nI d)), some (vI (bsJ (fun k => mN ii (K k) k (ii 26 0 (116 + 3 * d))) n)), some (vI (bsM (fun k => mN ii (K k) k (ii 26 0 (116 + 3 * d))) n)), some (vI (ii 26 0 (116 + 3 * d))), v5, v6], [], (ii, jj, mj_rk kd, 108)) r h') : SK l X 8 182 [vR 25 0, vI (nI d)] (ii, jj, mj_rk kd, 108) r h' := by
  refine SK.of (by decide) (by decide) rfl ?_
  refine GB.go 9999 rfl aB0 ?_
  refine GB.cal rfl rfl (by decide) (m_isHead _ hm h1) ?_
  refine GB.br rfl rfl (fun c => ?_) (fun c => ?_)
  · exact absurd (in_ok hd (by omega) rfl) (bd_f c)
  · refine GB.go 9999 rfl aB0 ?_
    refine GB.cal rfl rfl (by decide) (m_has d 0 (by omega) (by decide)) ?_
    rw [show 116 + 3 * d + 0 = 116 + 3 * d from rfl]
    generalize ii 26 0 (116 + 3 * d) = has at *
    refine GB.go 30 rfl aB0 ?_
    refine GB.upto n (fun k => (30, [some (vR 25 0), some (vI (nI d)), some (vI (bsJ (fun k => mN ii (K k) k has) k)), some (vI (bsM (fun k => mN ii (K k) k has) k)), some (vI has), some (vI (nI k)), lsV (fun k => mN ii (K k) k has) k], [], (ii, jj, mj_rk kd, 108))) (fun k hk ih => ?_) ?_ n 0 (by omega)
    · rw [nI_succ k] at ih
      refine GB.go 38 rfl (aB1 (by decide) aB0) ?_
      rw [show ii 26 0 (Int32.toNatClampNeg 2) = nI n from h0]
      refine GB.br rfl rfl (fun c2 => ?_) (fun c2 => ?_)
      · exact absurd c2 (nI_ge hk (by omega))
      · refine GB.go 9999 rfl aB0 ?_
        refine GB.cal rfl rfl (by decide) (m_takesOf k (K k) (by omega) (hK k hk).1 (hK k hk).2 _) ?_
        refine GB.go 9999 rfl aB0 ?_
        refine GB.cal rfl rfl (by decide) (m_bits _ (sT_or hs (sT_tk (sT_hF 12 (by decide))))) ?_
        refine GB.go 9999 rfl aB0 ?_
        refine GB.br rfl rfl (fun c3 => ?_) (fun c3 => ?_)
        · rw [show bsJ (fun k => mN ii (K k) k has) (k + 1) = bsJ (fun k => mN ii (K k) k has) k from if_pos c3, show bsM (fun k => mN ii (K k) k has) (k + 1) = bsM (fun k => mN ii (K k) k has) k from if_pos c3] at ih
          refine GB.go 9999 rfl aB0 ?_
          refine GB.br rfl rfl (fun c4 => ?_) (fun c4 => ?_)
          · refine GB.go 30 rfl aB0 ?_
            exact ih
          · exact absurd c3 c4
        · rw [show bsJ (fun k => mN ii (K k) k has) (k + 1) = nI k from if_neg c3, show bsM (fun k => mN ii (K k) k has) (k + 1) = mN ii (K k) k has from if_neg c3] at ih
          refine GB.go 9999 rfl aB0 ?_
          refine GB.br rfl rfl (fun c4 => ?_) (fun c4 => ?_)
          · exact absurd c4 c3
          · refine GB.go 30 rfl aB0 ?_
            exact ih
    · refine GB.go 38 rfl (aB1 (by decide) aB0) ?_
      rw [show ii 26 0 (Int32.toNatClampNeg 2) = nI n from h0]
      refine GB.br rfl rfl (fun c2 => ?_) (fun c2 => ?_)
      · exact fin _ _
      · exact absurd (Int32.le_refl _) c2
theorem m_worn0 (v : Int32) {n : Nat} (hn : n ≤ 8) (h0 : ii 26 0 2 = nI n) (h : ¬ (¬ v < 0 ∧ ¬ nI n ≤ v)) : SK l X 8 189 [vR 25 0, vI v] (ii, jj, mj_rk kd, 108) (some (vI (fA 0))) (fnm ii 0, jj, mj_rk kd, 108) := by
  refine SK.of (by decide) (by decide) rfl ?_
  refine GB.go 9999 rfl aB0 ?_
  refine GB.cal rfl rfl (by decide) (m_isHat v hn h0) ?_
  refine GB.br rfl rfl (fun c => ?_) (fun c => ?_)
  · refine GB.go 9999 rfl aB0 ?_
    refine GB.cal rfl rfl (by decide) (m_finds 0 (by decide)) ?_
    exact GB.ret rfl rfl aB0
  · exact absurd (bd_t c) h
/-- a hat of the model can come from a head -/
def wmP (ii : Nat → Nat → Nat → Int32) (c i d : Nat) : Bool := decide (ii 26 0 (116 + 3 * d) &&& (hF (mR ii i) (kpO c (ii 26 0 (116 + 3 * d))) 12 ^^^ -1) = 0)
theorem m_worn (i n m c0 : Nat) (hi : i < n) (hn : n ≤ 8) (h0 : ii 26 0 2 = nI n) (hm : m ≤ 6) (h1 : ii 26 0 3 = nI m) (hc : c0 < 6) (hk : ii 26 0 (4 + 14 * i) = nI c0) (hs : ∀ d, d < m → sT (ii 26 0 (116 + 3 * d))) : SK l X 8 189 [vR 25 0, vI (nI i)] (ii, jj, mj_rk kd, 108) (some (vI (oB (wmP ii c0 i) m))) (ii, jj, mj_rk kd, 108) := by
  refine SK.of (by decide) (by decide) rfl ?_
  refine GB.go 9999 rfl aB0 ?_
  refine GB.cal rfl rfl (by decide) (m_isHat _ hn h0) ?_
  refine GB.br rfl rfl (fun c => ?_) (fun c => ?_)
  · exact absurd (in_ok hi (by omega) rfl) (bd_f c)
  · refine GB.go 19 rfl aB0 ?_
    refine GB.upto m (fun k => (19, [some (vR 25 0), some (vI (nI i)), some (vI (oB (wmP ii c0 i) k)), some (vI (nI k)), lsV (fun d => ii 26 0 (116 + 3 * d)) k], [], (ii, jj, mj_rk kd, 108))) (fun k hk2 ih => ?_) ?_ m 0 (by omega)
    · rw [nI_succ k] at ih
      refine GB.go 26 rfl (aB1 (by decide) aB0) ?_
      rw [show ii 26 0 (Int32.toNatClampNeg 3) = nI m from h1]
      refine GB.br rfl rfl (fun c2 => ?_) (fun c2 => ?_)
      · exact absurd c2 (nI_ge hk2 (by omega))
      · refine GB.go 9999 rfl aB0 ?_
        refine GB.cal rfl rfl (by decide) (m_has k 0 (by omega) (by decide)) ?_
        refine GB.go 9999 rfl aB0 ?_
        refine GB.cal rfl rfl (by decide) (m_keepsOf i c0 (by omega) hc hk (hs k hk2)) ?_
        refine GB.cal rfl rfl (by decide) (m_holds i (by omega) _) ?_
        refine GB.go 9999 rfl aB0 ?_
        refine GB.br rfl rfl (fun c3 => ?_) (fun c3 => ?_)
        · rw [show oB (wmP ii c0 i) (k + 1) = oB (wmP ii c0 i) k ||| bT k by rw [oB, show wmP ii c0 i k = true from decide_eq_true c3]; rfl] at ih
          refine GB.go 19 rfl aB0 ?_
          exact ih
        · rw [show oB (wmP ii c0 i) (k + 1) = oB (wmP ii c0 i) k by rw [oB, show wmP ii c0 i k = false from decide_eq_false c3]; rfl] at ih
          refine GB.go 19 rfl aB0 ?_
          rw [show oB (wmP ii c0 i) k ||| 0 = oB (wmP ii c0 i) k from Int32.or_zero]
          exact ih
    · refine GB.go 26 rfl (aB1 (by decide) aB0) ?_
      rw [show ii 26 0 (Int32.toNatClampNeg 3) = nI m from h1]
      refine GB.br rfl rfl (fun c2 => ?_) (fun c2 => ?_)
      · refine GB.go 9999 rfl aB0 ?_
        exact GB.ret rfl rfl aB0
      · exact absurd (Int32.le_refl _) c2
theorem m_before0 (v t : Int32) {n : Nat} (hn : n ≤ 8) (h0 : ii 26 0 2 = nI n) (h : ¬ ((¬ v < 0 ∧ ¬ nI n ≤ v) ∧ uT t 4095 = true)) : SK l X 8 190 [vR 25 0, vI v, vI t] (ii, jj, mj_rk kd, 108) (some (vI (fA 0))) (fnm ii 0, jj, mj_rk kd, 108) := by
  refine SK.of (by decide) (by decide) rfl ?_
  have tail : GB l X 8 0 0 190 (15, [some (vR 25 0), some (vI v), some (vI t), none], [], (ii, jj, mj_rk kd, 108)) (some (vI (fA 0))) (fnm ii 0, jj, mj_rk kd, 108) := by
    refine GB.go 9999 rfl aB0 ?_
    refine GB.cal rfl rfl (by decide) (m_finds 0 (by decide)) ?_
    exact GB.ret rfl rfl aB0
  refine GB.go 9999 rfl aB0 ?_
  refine GB.cal rfl rfl (by decide) (m_isHat v hn h0) ?_
  refine GB.br rfl rfl (fun c => ?_) (fun c => ?_)
  · exact tail
  · refine GB.go 9999 rfl aB0 ?_
    refine GB.cal rfl rfl (by decide) (m_isSet _ t) ?_
    refine GB.br rfl rfl (fun c2 => ?_) (fun c2 => ?_)
    · exact tail
    · exact absurd ⟨bd_t c, bI_t c2⟩ h
theorem m_beforeL (i c0 : Nat) (t : Int32) (hi : i < 8) (hc : c0 < 6) (hk : ii 26 0 (4 + 14 * i) = nI c0) : ∀ N k, k + N = 4096 → GB l X 8 0 0 190 (24, [some (vR 25 0), some (vI (nI i)), some (vI t), some (vI (nI k))], [], (ii, jj, mj_rk kd, 108)) (some (vI (anK (fstK (bfP c0 (hF (mR ii i) 1 12) (hF (mR ii i) 3 12) t) N k)))) (piM ii (fstK (bfP c0 (hF (mR ii i) 1 12) (hF (mR ii i) 3 12) t) N k), jj, mj_rk kd, 108)
  | 0, k, e => by
    rw [show k = 4096 by omega]
    refine GB.go 9999 rfl aB0 ?_
    refine GB.br rfl rfl (fun c => ?_) (fun c => ?_)
    · refine GB.go 9999 rfl aB0 ?_
      refine GB.br rfl rfl (fun c2 => ?_) (fun c2 => ?_)
      · exact absurd c2 (by decide)
      · refine GB.go 9999 rfl aB0 ?_
        refine GB.cal rfl rfl (by decide) (m_finds 3 (by decide)) ?_
        refine GB.go 9999 rfl aB0 ?_
        exact GB.ret rfl rfl aB0
    · exact absurd (by decide) c
  | N + 1, k, e => by
    refine GB.go 9999 rfl aB0 ?_
    refine GB.br rfl rfl (fun c => ?_) (fun c => ?_)
    · exact absurd c (nI_nlt (show k ≤ 4095 by omega) (by decide))
    · refine GB.go 9999 rfl aB0 ?_
      refine GB.cal rfl rfl (by decide) (m_takesOf i c0 hi hc hk _) ?_
      refine GB.go 9999 rfl aB0 ?_
      refine GB.br rfl rfl (fun c2 => ?_) (fun c2 => ?_)
      · rw [show fstK (bfP c0 (hF (mR ii i) 1 12) (hF (mR ii i) 3 12) t) (N + 1) k = some k by rw [fstK, show bfP c0 (hF (mR ii i) 1 12) (hF (mR ii i) 3 12) t k = true from decide_eq_true c2]; rfl]
        refine GB.go 9999 rfl aB0 ?_
        refine GB.br rfl rfl (fun c3 => ?_) (fun c3 => ?_)
        · refine GB.go 9999 rfl aB0 ?_
          exact GB.ret rfl rfl aB0
        · exact absurd (nI_le (show k ≤ 4095 by omega) (by decide)) c3
      · rw [show fstK (bfP c0 (hF (mR ii i) 1 12) (hF (mR ii i) 3 12) t) (N + 1) k = fstK (bfP c0 (hF (mR ii i) 1 12) (hF (mR ii i) 3 12) t) N (k + 1) by rw [fstK, show bfP c0 (hF (mR ii i) 1 12) (hF (mR ii i) 3 12) t k = false from decide_eq_false c2]; rfl]
        have ih := m_beforeL i c0 t hi hc hk N (k + 1) (by omega)
        rw [nI_succ k] at ih
        refine GB.go 24 rfl aB0 ?_
        exact ih
theorem m_before (i n c0 : Nat) (t : Int32) (hi : i < n) (hn : n ≤ 8) (h0 : ii 26 0 2 = nI n) (hc : c0 < 6) (hk : ii 26 0 (4 + 14 * i) = nI c0) (ht : uT t 4095 = true) : SK l X 8 190 [vR 25 0, vI (nI i), vI t] (ii, jj, mj_rk kd, 108) (some (vI (anK (fstK (bfP c0 (hF (mR ii i) 1 12) (hF (mR ii i) 3 12) t) 4096 0)))) (piM ii (fstK (bfP c0 (hF (mR ii i) 1 12) (hF (mR ii i) 3 12) t) 4096 0), jj, mj_rk kd, 108) := by
  refine SK.of (by decide) (by decide) rfl ?_
  refine GB.go 9999 rfl aB0 ?_
  refine GB.cal rfl rfl (by decide) (m_isHat _ hn h0) ?_
  refine GB.br rfl rfl (fun c => ?_) (fun c => ?_)
  · exact absurd (in_ok hi (by omega) rfl) (bd_f c)
  · refine GB.go 9999 rfl aB0 ?_
    refine GB.cal rfl rfl (by decide) (m_isSet _ t) ?_
    refine GB.br rfl rfl (fun c2 => ?_) (fun c2 => ?_)
    · exact absurd c2 (b0_of ht)
    · refine GB.go 24 rfl aB0 ?_
      exact m_beforeL i c0 t (by omega) hc hk 4096 0 rfl
end MQ
