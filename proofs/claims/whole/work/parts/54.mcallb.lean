/-! THE MODEL'S CALLS: mind, of, takes, keeps, tries, redeem, blend, stack -/
section MQ
variable {l : Launch} {X : FX} {ii : Nat → Nat → Nat → Int32} {jj : Nat → Nat → Nat → Int64} {kd : Nat → Nat}
/-- what a head may become -/
def mfP (w v : Int32) : Prop := (w = 0 ∧ uT v 4095 = true) ∨ (w = 1 ∧ uT v 1 = true) ∨ (w = 2 ∧ uT v 9999 = true)
theorem mf_w {w v : Int32} (h : mfP w v) : uT w 2 = true := by
  rcases h with h | h | h <;> (rw [h.1]; decide)
theorem m_mind0 (v w x : Int32) {n : Nat} (hn : n ≤ 6) (h0 : ii 26 0 3 = nI n) (h : ¬ ((¬ v < 0 ∧ ¬ nI n ≤ v) ∧ mfP w x)) : SK l X 4 163 [vR 25 0, vI v, vI w, vI x] (ii, jj, mj_rk kd, 108) (some (vI (fA 0))) (fnm ii 0, jj, mj_rk kd, 108) := by
  refine SK.of (by decide) (by decide) rfl ?_
  have tail : GB l X 4 0 0 163 (53, [some (vR 25 0), some (vI v), some (vI w), some (vI x), none], [], (ii, jj, mj_rk kd, 108)) (some (vI (fA 0))) (fnm ii 0, jj, mj_rk kd, 108) := by
    refine GB.go 9999 rfl aB0 ?_
    refine GB.br rfl rfl (fun c => ?_) (fun c => ?_)
    · refine GB.go 9999 rfl aB0 ?_
      refine GB.cal rfl rfl (by decide) (m_finds 0 (by decide)) ?_
      exact GB.ret rfl rfl aB0
    · exact absurd rfl c
  refine GB.go 9999 rfl aB0 ?_
  refine GB.cal rfl rfl (by decide) (m_isHead v hn h0) ?_
  refine GB.br rfl rfl (fun c => ?_) (fun c => ?_)
  · exact tail
  · refine GB.go 9999 rfl aB0 ?_
    refine GB.cal rfl rfl (by decide) (m_up _ w 2) ?_
    refine GB.br rfl rfl (fun c2 => ?_) (fun c2 => ?_)
    · exact tail
    · have k3 : ∀ b : Int32, (uT x b = true → mfP w x) → GB l X 4 0 0 163 (43, [some (vR 25 0), some (vI v), some (vI w), some (vI x), none], [vI b, vI 0, vL x.toInt64], (ii, jj, mj_rk kd, 108)) (some (vI (fA 0))) (fnm ii 0, jj, mj_rk kd, 108) := fun b hb => by
        refine GB.cal rfl rfl (by decide) (m_up _ x b) ?_
        refine GB.br rfl rfl (fun c3 => ?_) (fun c3 => ?_)
        · exact tail
        · exact absurd ⟨bd_t c, hb (bI_t c3)⟩ h
      refine GB.go 9999 rfl aB0 ?_
      refine GB.br rfl rfl (fun c4 => ?_) (fun c4 => ?_)
      · refine GB.go 43 rfl aB0 ?_
        exact k3 4095 (fun h => Or.inl ⟨c4, h⟩)
      · refine GB.go 9999 rfl aB0 ?_
        refine GB.br rfl rfl (fun c5 => ?_) (fun c5 => ?_)
        · refine GB.go 43 rfl aB0 ?_
          exact k3 1 (fun h => Or.inr (Or.inl ⟨c5, h⟩))
        · refine GB.go 43 rfl aB0 ?_
          refine k3 9999 (fun h => Or.inr (Or.inr ⟨?_, h⟩))
          obtain ⟨a, ha, rfl⟩ := uT_of (b := 2) (by decide) (bI_t c2)
          match a, ha with
          | 0, _ => exact absurd rfl c4
          | 1, _ => exact absurd rfl c5
          | 2, _ => rfl
theorem m_mind (i n w : Nat) (x : Int32) (hi : i < n) (hn : n ≤ 6) (h0 : ii 26 0 3 = nI n) (hw : w ≤ 2) (hx : mfP (nI w) x) : SK l X 4 163 [vR 25 0, vI (nI i), vI (nI w), vI x] (ii, jj, mj_rk kd, 108) (some (vI (ii 26 0 (116 + 3 * i + w)))) (up3 ii 26 0 (116 + 3 * i + w) x, jj, mj_rk kd, 108) := by
  refine SK.of (by decide) (by decide) rfl ?_
  have tail : GB l X 4 0 0 163 (49, [some (vR 25 0), some (vI (nI i)), some (vI (nI w)), some (vI x), none], [], (ii, jj, mj_rk kd, 108)) (some (vI (ii 26 0 (116 + 3 * i + w)))) (up3 ii 26 0 (116 + 3 * i + w) x, jj, mj_rk kd, 108) := by
    refine GB.go 9999 rfl aB0 ?_
    refine GB.br rfl rfl (fun c => ?_) (fun c => ?_)
    · exact absurd c (by decide)
    · refine GB.go 70 rfl aB0 ?_
      rw [sp_d, nI_add]
      refine GB.go 9999 rfl aB0 ?_
      refine GB.cal rfl rfl (by decide) (m_becomes (116 + 3 * i + w) (by omega) x) ?_
      refine GB.go 9999 rfl aB0 ?_
      exact GB.ret rfl rfl aB0
  have k3 : ∀ b : Int32, uT x b = true → GB l X 4 0 0 163 (43, [some (vR 25 0), some (vI (nI i)), some (vI (nI w)), some (vI x), none], [vI b, vI 0, vL x.toInt64], (ii, jj, mj_rk kd, 108)) (some (vI (ii 26 0 (116 + 3 * i + w)))) (up3 ii 26 0 (116 + 3 * i + w) x, jj, mj_rk kd, 108) := fun b hb => by
    refine GB.cal rfl rfl (by decide) (m_up _ x b) ?_
    refine GB.br rfl rfl (fun c3 => ?_) (fun c3 => ?_)
    · exact absurd c3 (b0_of hb)
    · exact tail
  refine GB.go 9999 rfl aB0 ?_
  refine GB.cal rfl rfl (by decide) (m_isHead _ hn h0) ?_
  refine GB.br rfl rfl (fun c => ?_) (fun c => ?_)
  · exact absurd (in_ok hi (by omega) rfl) (bd_f c)
  · refine GB.go 9999 rfl aB0 ?_
    refine GB.cal rfl rfl (by decide) (m_up _ _ 2) ?_
    refine GB.br rfl rfl (fun c2 => ?_) (fun c2 => ?_)
    · exact absurd c2 (b0_of (uT_ok hw (by decide)))
    · refine GB.go 9999 rfl aB0 ?_
      refine GB.br rfl rfl (fun c4 => ?_) (fun c4 => ?_)
      · refine GB.go 43 rfl aB0 ?_
        refine k3 4095 ?_
        rcases hx with h | h | h
        · exact h.2
        · exact absurd (h.1.symm.trans c4) (by decide)
        · exact absurd (h.1.symm.trans c4) (by decide)
      · refine GB.go 9999 rfl aB0 ?_
        refine GB.br rfl rfl (fun c5 => ?_) (fun c5 => ?_)
        · refine GB.go 43 rfl aB0 ?_
          refine k3 1 ?_
          rcases hx with h | h | h
          · exact absurd h.1 c4
          · exact h.2
          · exact absurd (h.1.symm.trans c5) (by decide)
        · refine GB.go 43 rfl aB0 ?_
          refine k3 9999 ?_
          rcases hx with h | h | h
          · exact absurd h.1 c4
          · exact absurd h.1 c5
          · exact h.2
theorem m_of0 (v w : Int32) {n : Nat} (hn : n ≤ 8) (h0 : ii 26 0 2 = nI n) (h : ¬ (¬ v < 0 ∧ ¬ nI n ≤ v)) : SK l X 4 155 [vR 25 0, vI v, vI w] (ii, jj, mj_rk kd, 108) (some (vI (fA 0))) (fnm ii 0, jj, mj_rk kd, 108) := by
  refine SK.of (by decide) (by decide) rfl ?_
  refine GB.go 9999 rfl aB0 ?_
  refine GB.cal rfl rfl (by decide) (m_isHat v hn h0) ?_
  refine GB.br rfl rfl (fun c => ?_) (fun c => ?_)
  · refine GB.go 9999 rfl aB0 ?_
    refine GB.cal rfl rfl (by decide) (m_finds 0 (by decide)) ?_
    exact GB.ret rfl rfl aB0
  · exact absurd (bd_t c) h
theorem m_of_bad (i n : Nat) (w : Int32) (hi : i < n) (hn : n ≤ 8) (h0 : ii 26 0 2 = nI n) (hw : uT w 4 = false) : SK l X 4 155 [vR 25 0, vI (nI i), vI w] (ii, jj, mj_rk kd, 108) (some (vI (fA 0))) (fnm ii 0, jj, mj_rk kd, 108) := by
  have q : ∀ b, b ≤ 4 → w ≠ nI b := fun b hb e => by
    rw [e, show (4 : Int32) = nI 4 from rfl, uT_ok hb (by decide)] at hw
    cases hw
  refine SK.of (by decide) (by decide) rfl ?_
  refine GB.go 9999 rfl aB0 ?_
  refine GB.cal rfl rfl (by decide) (m_isHat _ hn h0) ?_
  refine GB.br rfl rfl (fun c => ?_) (fun c => ?_)
  · exact absurd (in_ok hi (by omega) rfl) (bd_f c)
  · refine GB.go 9999 rfl aB0 ?_
    refine GB.sw rfl rfl ?_
    rw [show mj_swt [(0, 52), (1, 58), (2, 65), (3, 79), (4, 85)] 91 w = 91 by
      simp only [mj_swt]
      rw [if_neg (show w ≠ 0 from q 0 (by decide)), if_neg (show w ≠ 1 from q 1 (by decide)), if_neg (show w ≠ 2 from q 2 (by decide)), if_neg (show w ≠ 3 from q 3 (by decide)), if_neg (show w ≠ 4 from q 4 (by decide))]]
    refine GB.go 9999 rfl aB0 ?_
    refine GB.cal rfl rfl (by decide) (m_finds 0 (by decide)) ?_
    exact GB.ret rfl rfl aB0
theorem m_of (i n w c0 : Nat) (hi : i < n) (hn : n ≤ 8) (h0 : ii 26 0 2 = nI n) (hc : c0 < 6) (hk : ii 26 0 (4 + 14 * i) = nI c0) (hw : w ≤ 4) : SK l X 4 155 [vR 25 0, vI (nI i), vI (nI w)] (ii, jj, mj_rk kd, 108) (some (vI (match w with
    | 0 => nI c0
    | 1 => hF (mR ii i) 1 12
    | 2 => ii 26 0 (5 + 14 * i)
    | 3 => aF (mR ii i) 12
    | _ => fdO c0 (ii 26 0 0)))) (ii, jj, mj_rk kd, 108) := by
  refine SK.of (by decide) (by decide) rfl ?_
  refine GB.go 9999 rfl aB0 ?_
  refine GB.cal rfl rfl (by decide) (m_isHat _ hn h0) ?_
  refine GB.br rfl rfl (fun c => ?_) (fun c => ?_)
  · exact absurd (in_ok hi (by omega) rfl) (bd_f c)
  · refine GB.go 9999 rfl aB0 ?_
    refine GB.sw rfl rfl ?_
    match w, hw with
    | 0, _ =>
      refine GB.go 9999 rfl aB0 ?_
      refine GB.cal rfl rfl (by decide) (m_kindOf i (by omega)) ?_
      rw [hk]
      exact GB.ret rfl rfl aB0
    | 1, _ =>
      refine GB.go 9999 rfl aB0 ?_
      refine GB.cal rfl rfl (by decide) (m_holds i (by omega) 1) ?_
      exact GB.ret rfl rfl aB0
    | 2, _ =>
      refine GB.go 77 rfl aB0 ?_
      rw [sp_p]
      refine GB.go 9999 rfl (aB1 (mn_vin (show 5 + 14 * i < 134 by omega) (by decide)) aB0) ?_
      rw [nI_clamp (show 5 + 14 * i < 2 ^ 31 by omega)]
      exact GB.ret rfl rfl aB0
    | 3, _ =>
      refine GB.go 9999 rfl aB0 ?_
      refine GB.cal rfl rfl (by decide) (m_freshOf i (by omega)) ?_
      exact GB.ret rfl rfl aB0
    | 4, _ =>
      refine GB.go 9999 rfl aB0 ?_
      refine GB.cal rfl rfl (by decide) (m_fadesOf i c0 (by omega) hc hk) ?_
      exact GB.ret rfl rfl aB0
    | w + 5, hw => exact absurd hw (by omega)
theorem m_takes0 (v w : Int32) {n m : Nat} (hn : n ≤ 8) (h0 : ii 26 0 2 = nI n) (hm : m ≤ 6) (h1 : ii 26 0 3 = nI m) (h : ¬ ((¬ v < 0 ∧ ¬ nI n ≤ v) ∧ ¬ w < 0 ∧ ¬ nI m ≤ w)) : SK l X 5 165 [vR 25 0, vI v, vI w] (ii, jj, mj_rk kd, 108) (some (vI (fA 0))) (fnm ii 0, jj, mj_rk kd, 108) := by
  refine SK.of (by decide) (by decide) rfl ?_
  have tail : GB l X 5 0 0 165 (30, [some (vR 25 0), some (vI v), some (vI w)], [], (ii, jj, mj_rk kd, 108)) (some (vI (fA 0))) (fnm ii 0, jj, mj_rk kd, 108) := by
    refine GB.go 9999 rfl aB0 ?_
    refine GB.cal rfl rfl (by decide) (m_finds 0 (by decide)) ?_
    exact GB.ret rfl rfl aB0
  refine GB.go 9999 rfl aB0 ?_
  refine GB.cal rfl rfl (by decide) (m_isHat v hn h0) ?_
  refine GB.br rfl rfl (fun c => ?_) (fun c => ?_)
  · exact tail
  · refine GB.go 9999 rfl aB0 ?_
    refine GB.cal rfl rfl (by decide) (m_isHead w hm h1) ?_
    refine GB.br rfl rfl (fun c2 => ?_) (fun c2 => ?_)
    · exact tail
    · exact absurd ⟨bd_t c, bd_t c2⟩ h
theorem m_takes (i n d m c0 : Nat) (hi : i < n) (hn : n ≤ 8) (h0 : ii 26 0 2 = nI n) (hd : d < m) (hm : m ≤ 6) (h1 : ii 26 0 3 = nI m) (hc : c0 < 6) (hk : ii 26 0 (4 + 14 * i) = nI c0) : SK l X 5 165 [vR 25 0, vI (nI i), vI (nI d)] (ii, jj, mj_rk kd, 108) (some (vI (mT ii c0 i (ii 26 0 (116 + 3 * d))))) (ii, jj, mj_rk kd, 108) := by
  refine SK.of (by decide) (by decide) rfl ?_
  refine GB.go 9999 rfl aB0 ?_
  refine GB.cal rfl rfl (by decide) (m_isHat _ hn h0) ?_
  refine GB.br rfl rfl (fun c => ?_) (fun c => ?_)
  · exact absurd (in_ok hi (by omega) rfl) (bd_f c)
  · refine GB.go 9999 rfl aB0 ?_
    refine GB.cal rfl rfl (by decide) (m_isHead _ hm h1) ?_
    refine GB.br rfl rfl (fun c2 => ?_) (fun c2 => ?_)
    · exact absurd (in_ok hd (by omega) rfl) (bd_f c2)
    · refine GB.go 9999 rfl aB0 ?_
      refine GB.cal rfl rfl (by decide) (m_has d 0 (by omega) (by decide)) ?_
      refine GB.cal rfl rfl (by decide) (m_takesOf i c0 (by omega) hc hk _) ?_
      refine GB.go 9999 rfl aB0 ?_
      exact GB.ret rfl rfl aB0
theorem m_keeps0 (v w : Int32) {n m : Nat} (hn : n ≤ 8) (h0 : ii 26 0 2 = nI n) (hm : m ≤ 6) (h1 : ii 26 0 3 = nI m) (h : ¬ ((¬ v < 0 ∧ ¬ nI n ≤ v) ∧ ¬ w < 0 ∧ ¬ nI m ≤ w)) : SK l X 5 166 [vR 25 0, vI v, vI w] (ii, jj, mj_rk kd, 108) (some (vI (fA 0))) (fnm ii 0, jj, mj_rk kd, 108) := by
  refine SK.of (by decide) (by decide) rfl ?_
  have tail : GB l X 5 0 0 166 (30, [some (vR 25 0), some (vI v), some (vI w)], [], (ii, jj, mj_rk kd, 108)) (some (vI (fA 0))) (fnm ii 0, jj, mj_rk kd, 108) := by
    refine GB.go 9999 rfl aB0 ?_
    refine GB.cal rfl rfl (by decide) (m_finds 0 (by decide)) ?_
    exact GB.ret rfl rfl aB0
  refine GB.go 9999 rfl aB0 ?_
  refine GB.cal rfl rfl (by decide) (m_isHat v hn h0) ?_
  refine GB.br rfl rfl (fun c => ?_) (fun c => ?_)
  · exact tail
  · refine GB.go 9999 rfl aB0 ?_
    refine GB.cal rfl rfl (by decide) (m_isHead w hm h1) ?_
    refine GB.br rfl rfl (fun c2 => ?_) (fun c2 => ?_)
    · exact tail
    · exact absurd ⟨bd_t c, bd_t c2⟩ h
theorem m_keeps (i n d m c0 : Nat) (hi : i < n) (hn : n ≤ 8) (h0 : ii 26 0 2 = nI n) (hd : d < m) (hm : m ≤ 6) (h1 : ii 26 0 3 = nI m) (hc : c0 < 6) (hk : ii 26 0 (4 + 14 * i) = nI c0) (hs : sT (ii 26 0 (116 + 3 * d))) : SK l X 5 166 [vR 25 0, vI (nI i), vI (nI d)] (ii, jj, mj_rk kd, 108) (some (vI (kpO c0 (ii 26 0 (116 + 3 * d))))) (ii, jj, mj_rk kd, 108) := by
  refine SK.of (by decide) (by decide) rfl ?_
  refine GB.go 9999 rfl aB0 ?_
  refine GB.cal rfl rfl (by decide) (m_isHat _ hn h0) ?_
  refine GB.br rfl rfl (fun c => ?_) (fun c => ?_)
  · exact absurd (in_ok hi (by omega) rfl) (bd_f c)
  · refine GB.go 9999 rfl aB0 ?_
    refine GB.cal rfl rfl (by decide) (m_isHead _ hm h1) ?_
    refine GB.br rfl rfl (fun c2 => ?_) (fun c2 => ?_)
    · exact absurd (in_ok hd (by omega) rfl) (bd_f c2)
    · refine GB.go 9999 rfl aB0 ?_
      refine GB.cal rfl rfl (by decide) (m_has d 0 (by omega) (by decide)) ?_
      refine GB.cal rfl rfl (by decide) (m_keepsOf i c0 (by omega) hc hk hs) ?_
      refine GB.go 9999 rfl aB0 ?_
      exact GB.ret rfl rfl aB0
theorem m_tries0 (v w : Int32) {n m : Nat} (hn : n ≤ 8) (h0 : ii 26 0 2 = nI n) (hm : m ≤ 6) (h1 : ii 26 0 3 = nI m) (h : ¬ ((¬ v < 0 ∧ ¬ nI n ≤ v) ∧ ¬ w < 0 ∧ ¬ nI m ≤ w)) : SK l X 5 167 [vR 25 0, vI v, vI w] (ii, jj, mj_rk kd, 108) (some (vI (fA 0))) (fnm ii 0, jj, mj_rk kd, 108) := by
  refine SK.of (by decide) (by decide) rfl ?_
  have tail : GB l X 5 0 0 167 (16, [some (vR 25 0), some (vI v), some (vI w), none, none, none, none, none], [], (ii, jj, mj_rk kd, 108)) (some (vI (fA 0))) (fnm ii 0, jj, mj_rk kd, 108) := by
    refine GB.go 9999 rfl aB0 ?_
    refine GB.cal rfl rfl (by decide) (m_finds 0 (by decide)) ?_
    exact GB.ret rfl rfl aB0
  refine GB.go 9999 rfl aB0 ?_
  refine GB.cal rfl rfl (by decide) (m_isHat v hn h0) ?_
  refine GB.br rfl rfl (fun c => ?_) (fun c => ?_)
  · exact tail
  · refine GB.go 9999 rfl aB0 ?_
    refine GB.cal rfl rfl (by decide) (m_isHead w hm h1) ?_
    refine GB.br rfl rfl (fun c2 => ?_) (fun c2 => ?_)
    · exact tail
    · exact absurd ⟨bd_t c, bd_t c2⟩ h
/-- the model's hat and head behind a trying on -/
def tyM (ii : Nat → Nat → Nat → Int32) (c i d : Nat) : Nat → Nat → Nat → Int32 :=
  up3 (up3 (wR ii i 12 (rmF (mR ii i) (kpO c (ii 26 0 (116 + 3 * d))) (ii 26 0 (116 + 3 * d)))) 26 0 (116 + 3 * d) (ii 26 0 (116 + 3 * d) ||| mT ii c i (ii 26 0 (116 + 3 * d)))) 26 0 (116 + 3 * d + 2) (hdO (ii 26 0 (116 + 3 * d + 2) + 2 - ii 26 0 (116 + 3 * d + 1)) 0 9999)
theorem m_triesT (i d : Nat) (hi : i < 8) (hd : d < 6) (had took kp x : Int32) (v7 : Option MV) {i2 : Nat → Nat → Nat → Int32} : GB l X 5 0 0 167 (111, [some (vR 25 0), some (vI (nI i)), some (vI (nI d)), some (vI had), some (vI took), some (vI kp), some (vI x), v7], [], (i2, jj, mj_rk kd, 108)) (some (vI (had ||| took))) (up3 (up3 i2 26 0 (116 + 3 * d) (had ||| took)) 26 0 (116 + 3 * d + 2) (hdO (i2 26 0 (116 + 3 * d + 2) + 2 - i2 26 0 (116 + 3 * d + 1)) 0 9999), jj, mj_rk kd, 108) := by
  refine GB.go 117 rfl aB0 ?_
  rw [sp_d]
  refine GB.go 130 rfl (aB1 (mn_vin (show 116 + 3 * d < 134 by omega) (by decide)) aB0) ?_
  rw [nI_clamp (show 116 + 3 * d < 2 ^ 31 by omega)]
  refine GB.go 138 rfl aB0 ?_
  rw [show nI (116 + 3 * d) + 2 = nI (116 + 3 * d + 2) from nI_add _ 2]
  refine GB.go 146 rfl aB0 ?_
  rw [show nI (116 + 3 * d) + 2 = nI (116 + 3 * d + 2) from nI_add _ 2]
  refine GB.go 147 rfl (aB1 (mn_vin (show 116 + 3 * d + 2 < 134 by omega) (by decide)) aB0) ?_
  rw [nI_clamp (show 116 + 3 * d + 2 < 2 ^ 31 by omega)]
  refine GB.go 157 rfl aB0 ?_
  rw [nI_1]
  refine GB.go 158 rfl (aB1 (mn_vin (show 116 + 3 * d + 1 < 134 by omega) (by decide)) aB0) ?_
  rw [nI_clamp (show 116 + 3 * d + 1 < 2 ^ 31 by omega)]
  rw [up3_pl (by omega), up3_pl (by omega)]
  refine GB.go 9999 rfl aB0 ?_
  refine GB.cal rfl rfl (by decide) (m_held _ _ _ _) ?_
  refine GB.go 167 rfl (aB1 (mn_vin (show 116 + 3 * d + 2 < 134 by omega) (by decide)) aB0) ?_
  rw [nI_clamp (show 116 + 3 * d + 2 < 2 ^ 31 by omega)]
  refine GB.go 174 rfl (aB1 (mn_vin (show 116 + 3 * d < 134 by omega) (by decide)) aB0) ?_
  rw [nI_clamp (show 116 + 3 * d < 2 ^ 31 by omega)]
  rw [up3_pl (by omega), up3_rd]
  exact GB.ret rfl rfl aB0
theorem m_tries (i n d m c0 : Nat) (hi : i < n) (hn : n ≤ 8) (h0 : ii 26 0 2 = nI n) (hd : d < m) (hm : m ≤ 6) (h1 : ii 26 0 3 = nI m) (hc : c0 < 6) (hk : ii 26 0 (4 + 14 * i) = nI c0) (hs : sT (ii 26 0 (116 + 3 * d))) (hf : ∀ t, t < 12 → ¬ 9 < mR ii i t) : SK l X 5 167 [vR 25 0, vI (nI i), vI (nI d)] (ii, jj, mj_rk kd, 108) (some (vI (ii 26 0 (116 + 3 * d) ||| mT ii c0 i (ii 26 0 (116 + 3 * d))))) (tyM ii c0 i d, jj, mj_rk kd, 108) := by
  refine SK.of (by decide) (by decide) rfl ?_
  refine GB.go 9999 rfl aB0 ?_
  refine GB.cal rfl rfl (by decide) (m_isHat _ hn h0) ?_
  refine GB.br rfl rfl (fun c => ?_) (fun c => ?_)
  · exact absurd (in_ok hi (by omega) rfl) (bd_f c)
  · refine GB.go 9999 rfl aB0 ?_
    refine GB.cal rfl rfl (by decide) (m_isHead _ hm h1) ?_
    refine GB.br rfl rfl (fun c2 => ?_) (fun c2 => ?_)
    · exact absurd (in_ok hd (by omega) rfl) (bd_f c2)
    · refine GB.go 9999 rfl aB0 ?_
      refine GB.cal rfl rfl (by decide) (m_has d 0 (by omega) (by decide)) ?_
      refine GB.go 9999 rfl aB0 ?_
      refine GB.cal rfl rfl (by decide) (m_takesOf i c0 (by omega) hc hk _) ?_
      refine GB.go 9999 rfl aB0 ?_
      refine GB.cal rfl rfl (by decide) (m_keepsOf i c0 (by omega) hc hk hs) ?_
      have T := m_triesT (l := l) (X := X) (jj := jj) (kd := kd) i d (by omega) (by omega) (ii 26 0 (116 + 3 * d)) (mT ii c0 i (ii 26 0 (116 + 3 * d))) (kpO c0 (ii 26 0 (116 + 3 * d))) (nI 12) (some (vI (nI (6 + 14 * i + 11)))) (i2 := wR ii i 12 (rmF (mR ii i) (kpO c0 (ii 26 0 (116 + 3 * d))) (ii 26 0 (116 + 3 * d))))
      rw [wR_out (Or.inr (by omega)), wR_out (Or.inr (by omega))] at T
      unfold tyM
      show GB l X 5 0 0 167 _ _ _
      generalize hz : kpO c0 (ii 26 0 (116 + 3 * d)) = z at *
      generalize ht : mT ii c0 i (ii 26 0 (116 + 3 * d)) = tk at *
      rw [show 116 + 3 * d + 0 = 116 + 3 * d from rfl]
      generalize he : ii 26 0 (116 + 3 * d) = had at *
      refine GB.go 49 rfl aB0 ?_
      refine GB.eqv (s1 := (49, [some (vR 25 0), some (vI (nI i)), some (vI (nI d)), some (vI had), some (vI tk), some (vI z), some (vI (nI 0)), lsV (fun k => nI (6 + 14 * i + k)) 0], [], (wR ii i 0 (rmF (mR ii i) z had), jj, mj_rk kd, 108))) (by rw [wR_0]; rfl) ?_
      refine GB.upto 12 (fun k => (49, [some (vR 25 0), some (vI (nI i)), some (vI (nI d)), some (vI had), some (vI tk), some (vI z), some (vI (nI k)), lsV (fun k => nI (6 + 14 * i + k)) k], [], (wR ii i k (rmF (mR ii i) z had), jj, mj_rk kd, 108))) (fun k hk2 ih => ?_) ?_ 12 0 rfl
      · rw [nI_succ, ← wR_s] at ih
        refine GB.go 9999 rfl aB0 ?_
        refine GB.br rfl rfl (fun c4 => ?_) (fun c4 => ?_)
        · exact absurd c4 (nI_ge hk2 (by decide))
        · refine GB.go 9999 rfl aB0 ?_
          refine GB.cal rfl rfl (by decide) (m_spot _ i k) ?_
          refine GB.go 9999 rfl aB0 ?_
          refine GB.br rfl rfl (fun c5 => ?_) (fun c5 => ?_)
          · refine GB.go 9999 rfl (aB1 (mn_vin (show 6 + 14 * i + k < 134 by omega) (by decide)) aB0) ?_
            rw [nI_clamp (show 6 + 14 * i + k < 2 ^ 31 by omega), wR_rd]
            refine GB.cal rfl rfl (by decide) (m_held _ _ _ _) ?_
            rw [show rmF (mR ii i) z had k = hdO (ii 26 0 (6 + 14 * i + k)) z 9 by
              unfold rmF hdO
              rw [if_neg ((bit_iff hs hk2).mp c5)]
              show (if z ≤ ii 26 0 (6 + 14 * i + k) then ii 26 0 (6 + 14 * i + k) else z) = _
              by_cases q : ii 26 0 (6 + 14 * i + k) < z
              · rw [if_pos q, if_neg (Int32.not_le.mpr q)]
              · rw [if_neg q, if_pos (Int32.not_lt.mp q), if_neg (show ¬ 9 < ii 26 0 (6 + 14 * i + k) from hf k hk2)]] at ih
            refine GB.go 49 rfl (aB1 (mn_vin (show 6 + 14 * i + k < 134 by omega) (by decide)) aB0) ?_
            rw [nI_clamp (show 6 + 14 * i + k < 2 ^ 31 by omega)]
            exact ih
          · refine GB.go 104 rfl (aB1 (mn_vin (show 6 + 14 * i + k < 134 by omega) (by decide)) aB0) ?_
            rw [nI_clamp (show 6 + 14 * i + k < 2 ^ 31 by omega), wR_rd]
            rw [show rmF (mR ii i) z had k = ii 26 0 (6 + 14 * i + k) by
              unfold rmF
              rw [if_pos (Classical.not_not.mp (fun h => c5 ((bit_iff hs hk2).mpr h)))]
              rfl] at ih
            refine GB.go 49 rfl (aB1 (mn_vin (show 6 + 14 * i + k < 134 by omega) (by decide)) aB0) ?_
            rw [nI_clamp (show 6 + 14 * i + k < 2 ^ 31 by omega)]
            exact ih
      · refine GB.go 9999 rfl aB0 ?_
        refine GB.br rfl rfl (fun c4 => ?_) (fun c4 => ?_)
        · exact T
        · exact absurd (Int32.le_refl _) c4
end MQ
