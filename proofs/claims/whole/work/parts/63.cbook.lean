/-! THE CLASS'S BOOKS -/
/-- all but the trial hat -/
def cqI (ii i2 : Nat → Nat → Nat → Int32) : Prop := ∀ a b, ¬ (a = 20 ∧ b = 24) → ¬ (a = 21 ∧ b = 24) → i2 a b = ii a b
theorem cqI.rf {ii : Nat → Nat → Nat → Int32} : cqI ii ii := fun _ _ _ _ => rfl
theorem cqI.tr {ii i2 i3 : Nat → Nat → Nat → Int32} (h1 : cqI ii i2) (h2 : cqI i2 i3) : cqI ii i3 := fun a b p q => (h2 a b p q).trans (h1 a b p q)
theorem cqI_tI {ii : Nat → Nat → Nat → Int32} {i : Nat} : cqI ii (tI ii 24 i) := fun a b p q => by
  funext c
  unfold tI
  rw [wA_ne q]
  unfold up3
  rw [if_neg (fun h => p ⟨h.1, h.2.1⟩)]
theorem cqI_pW {ii : Nat → Nat → Nat → Int32} {c : Nat} {w m : Int32} : cqI ii (pW ii 24 c w m) := fun a b p q => by
  by_cases h : a = 21
  · subst h
    exact pW_ne (fun e => q ⟨rfl, e⟩)
  · rw [pW_tag h]
theorem cqI_trW {ii : Nat → Nat → Nat → Int32} {c : Nat} : ∀ k, cqI ii (trW 24 c ii k)
  | 0 => cqI.rf
  | k + 1 => (cqI_trW k).tr cqI_pW
theorem cqI_fr {ii : Nat → Nat → Nat → Int32} {t : Nat} {v : Int32} : cqI ii (up3 ii 21 24 t v) := fun a b _ q => by
  funext c
  unfold up3
  rw [if_neg (fun h => q ⟨h.1, h.2.1⟩)]
section MP
variable {l : Launch} {X : FX} {ii : Nat → Nat → Nat → Int32} {jj : Nat → Nat → Nat → Int64} {kd : Nat → Nat}
theorem c_bookW (s : Nat) (i n : Nat) (hs : s < 4) (hb : ¬ ii 23 s 1 = 0) (hi : i < n) (hn : n ≤ 8) (h0 : ii 17 0 2 = nI n) (hk : kd i < 6) {r : Option MV} {h' : MH} (k : GB l X 8 0 0 109 (66, [some (vR 5 0), some (vI (nI s)), some (vI (nI i)), some (vR 23 s), some (vI (nI 0))], [], (tI ii 24 i, jj, mj_rk (kU kd 24 (kd i)), 108)) r h') : SK l X 8 109 [vR 5 0, vI (nI s), vI (nI i)] (ii, jj, mj_rk kd, 108) r h' := by
  refine SK.of (by decide) (by decide) rfl ?_
  refine GB.go 9999 rfl aB0 ?_
  refine GB.cal rfl rfl (by decide) (k_isSheet _ _) ?_
  refine GB.br rfl rfl (fun c => ?_) (fun c => ?_)
  · exact absurd c (b0_of (uT_ok (show s ≤ 3 by omega) (by decide)))
  · refine GB.go 19 rfl (aB1 (mn_vin (show s < 4 by omega) (by decide)) aB0) ?_
    rw [nI_clamp (show s < 2 ^ 31 by omega)]
    refine GB.go 9999 rfl aB0 ?_
    refine GB.cal rfl rfl (by decide) (k_miss s) ?_
    refine GB.br rfl rfl (fun c2 => ?_) (fun c2 => ?_)
    · refine GB.go 9999 rfl aB0 ?_
      refine GB.cal rfl rfl (by decide) (k_isHat _) ?_
      refine GB.br rfl rfl (fun c3 => ?_) (fun c3 => ?_)
      · exact absurd (in_ok hi (by omega) h0) (bd_f c3)
      · refine GB.go 60 rfl (aB1 (mn_vin (show i < 8 by omega) (by decide)) aB0) ?_
        rw [nI_clamp (show i < 2 ^ 31 by omega)]
        refine GB.cal rfl rfl (by decide) (k_become 24 i hk) ?_
        refine GB.go 66 rfl aB0 ?_
        exact k
    · exact absurd (bd_t c2) hb
theorem c_book0 (v w : Int32) (h : uT v 3 = false) : SK l X 8 109 [vR 5 0, vI v, vI w] (ii, jj, mj_rk kd, 108) (some (vI (fA 0))) (fnd ii 0, jj, mj_rk kd, 108) := by
  refine SK.of (by decide) (by decide) rfl ?_
  refine GB.go 9999 rfl aB0 ?_
  refine GB.cal rfl rfl (by decide) (k_isSheet _ v) ?_
  rw [h]
  refine GB.br rfl rfl (fun c => ?_) (fun c => ?_)
  · refine GB.go 9999 rfl aB0 ?_
    refine GB.cal rfl rfl (by decide) (k_finding 0 (by decide)) ?_
    exact GB.ret rfl rfl aB0
  · exact absurd rfl c
theorem c_book1 (s : Nat) (w : Int32) (hs : s < 4) (hb : ii 23 s 1 = 0) : SK l X 8 109 [vR 5 0, vI (nI s), vI w] (ii, jj, mj_rk kd, 108) (some (vI (fA 5))) (fnd ii 5, jj, mj_rk kd, 108) := by
  refine SK.of (by decide) (by decide) rfl ?_
  refine GB.go 9999 rfl aB0 ?_
  refine GB.cal rfl rfl (by decide) (k_isSheet _ _) ?_
  refine GB.br rfl rfl (fun c => ?_) (fun c => ?_)
  · exact absurd c (b0_of (uT_ok (show s ≤ 3 by omega) (by decide)))
  · refine GB.go 19 rfl (aB1 (mn_vin (show s < 4 by omega) (by decide)) aB0) ?_
    rw [nI_clamp (show s < 2 ^ 31 by omega)]
    refine GB.go 9999 rfl aB0 ?_
    refine GB.cal rfl rfl (by decide) (k_miss s) ?_
    refine GB.br rfl rfl (fun c2 => ?_) (fun c2 => ?_)
    · exact absurd hb (bd_f c2)
    · refine GB.go 9999 rfl aB0 ?_
      refine GB.cal rfl rfl (by decide) (k_finding 5 (by decide)) ?_
      exact GB.ret rfl rfl aB0
theorem c_book2 (s : Nat) (w : Int32) (hs : s < 4) (hb : ¬ ii 23 s 1 = 0) (hw : ¬ (¬ w < 0 ∧ ¬ ii 17 0 2 ≤ w)) : SK l X 8 109 [vR 5 0, vI (nI s), vI w] (ii, jj, mj_rk kd, 108) (some (vI (fA 0))) (fnd ii 0, jj, mj_rk kd, 108) := by
  refine SK.of (by decide) (by decide) rfl ?_
  refine GB.go 9999 rfl aB0 ?_
  refine GB.cal rfl rfl (by decide) (k_isSheet _ _) ?_
  refine GB.br rfl rfl (fun c => ?_) (fun c => ?_)
  · exact absurd c (b0_of (uT_ok (show s ≤ 3 by omega) (by decide)))
  · refine GB.go 19 rfl (aB1 (mn_vin (show s < 4 by omega) (by decide)) aB0) ?_
    rw [nI_clamp (show s < 2 ^ 31 by omega)]
    refine GB.go 9999 rfl aB0 ?_
    refine GB.cal rfl rfl (by decide) (k_miss s) ?_
    refine GB.br rfl rfl (fun c2 => ?_) (fun c2 => ?_)
    · refine GB.go 9999 rfl aB0 ?_
      refine GB.cal rfl rfl (by decide) (k_isHat _) ?_
      refine GB.br rfl rfl (fun c3 => ?_) (fun c3 => ?_)
      · refine GB.go 9999 rfl aB0 ?_
        refine GB.cal rfl rfl (by decide) (k_finding 0 (by decide)) ?_
        exact GB.ret rfl rfl aB0
      · exact absurd (bd_t c3) hw
    · exact absurd (bd_t c2) hb
def bkF (c s : Nat) (ii : Nat → Nat → Nat → Int32) (k : Nat) : Int64 := ctO (ii 23 s 1) (aF (trW 24 c ii k 21 24) 12).toInt64
theorem c_bookL (s z c0 : Nat) (v : Int32) (hz : ii 23 s 2 = nI z) (hzl : z ≤ 40) (hc : c0 < 6) (hk : kd 24 = c0) : ∀ N k, k + N = z → GB l X 8 0 0 109 (66, [some (vR 5 0), some (vI (nI s)), some (vI v), some (vR 23 s), some (vI (nI k))], [], (trW 24 c0 ii k, wA jj 24 s k (bkF c0 s ii), mj_rk kd, 108)) (some (vI (nI z))) (trW 24 c0 ii z, wA jj 24 s z (bkF c0 s ii), mj_rk kd, 108)
  | 0, k, e => by
    rw [show k = z by omega]
    refine GB.go 9999 rfl aB0 ?_
    rw [trW_tag (by decide), hz]
    refine GB.br rfl rfl (fun c => ?_) (fun c => ?_)
    · refine GB.go 9999 rfl aB0 ?_
      rw [trW_tag (by decide), hz]
      exact GB.ret rfl rfl aB0
    · exact absurd (Int32.le_refl _) c
  | N + 1, k, e => by
    have ih := c_bookL s z c0 v hz hzl hc hk N (k + 1) (by omega)
    rw [nI_succ k, ← wA_s] at ih
    refine GB.go 9999 rfl aB0 ?_
    rw [trW_tag (by decide), hz]
    refine GB.br rfl rfl (fun c => ?_) (fun c => ?_)
    · exact absurd c (nI_ge (show k < z by omega) (by omega))
    · refine GB.go 9999 rfl aB0 ?_
      refine GB.cal rfl rfl (by decide) (k_hatFresh 24) ?_
      refine GB.go 9999 rfl aB0 ?_
      have hp := k_put (l := l) (X := X) (ii := trW 24 c0 ii k) (jj := wA jj 24 s k (bkF c0 s ii)) (kd := kd) s k z (aF (trW 24 c0 ii k 21 24) 12).toInt64 (by rw [trW_tag (by decide), hz]) hzl (by omega)
      rw [trW_tag (show (23 : Nat) ≠ 21 by decide)] at hp
      refine GB.cal rfl rfl (by decide) (hp) ?_
      refine GB.go 9999 rfl aB0 ?_
      rw [trW_tag (by decide)]
      have hs := k_passWeek (l := l) (X := X) (ii := trW 24 c0 ii k) (jj := up3 (wA jj 24 s k (bkF c0 s ii)) 24 s k (bkF c0 s ii k)) (kd := kd) 24 (by rw [hk]; exact hc) (ii 17 0 4 + nI k) (ii 17 0 5)
      rw [hk] at hs
      refine GB.cal rfl rfl (by decide) (hs) ?_
      refine GB.go 66 rfl aB0 ?_
      exact ih
theorem c_book (s z i n : Nat) (hs : s < 4) (hb : ¬ ii 23 s 1 = 0) (hz : ii 23 s 2 = nI z) (hzl : z ≤ 40) (hi : i < n) (hn : n ≤ 8) (h0 : ii 17 0 2 = nI n) (hk : kd i < 6) : SK l X 8 109 [vR 5 0, vI (nI s), vI (nI i)] (ii, jj, mj_rk kd, 108) (some (vI (nI z))) (trW 24 (kd i) (tI ii 24 i) z, wA jj 24 s z (bkF (kd i) s (tI ii 24 i)), mj_rk (kU kd 24 (kd i)), 108) := by
  refine c_bookW s i n hs hb hi hn h0 hk ?_
  have L := c_bookL (l := l) (X := X) (ii := tI ii 24 i) (jj := jj) (kd := kU kd 24 (kd i)) s z (kd i) (nI i) (by rw [cqI_tI 23 s (by omega) (by omega), hz]) hzl hk kU_at z 0 (by omega)
  rw [wA_0] at L
  exact L
theorem c_goesAs (s z c0 : Nat) (hs : s < 4) (hz : ii 23 s 2 = nI z) (hzl : z ≤ 40) (hc : c0 < 6) (hk : kd 24 = c0) : ∀ N k, k + N = z → ∃ k', GB l X 6 0 0 127 (2, [some (vR 5 0), some (vR 23 s), some (vI (nI k))], [], (trW 24 c0 ii k, jj, mj_rk kd, 108)) (some (vI (bI (bkP (jj 24 s) (fun k => (aF (trW 24 c0 ii k 21 24) 12).toInt64) N k)))) (trW 24 c0 ii k', jj, mj_rk kd, 108)
  | 0, k, e => by
    refine ⟨k, ?_⟩
    rw [show k = z by omega]
    refine GB.go 9999 rfl aB0 ?_
    rw [trW_tag (by decide), hz]
    refine GB.br rfl rfl (fun c => ?_) (fun c => ?_)
    · refine GB.go 9999 rfl aB0 ?_
      exact GB.ret rfl rfl (aB1 (by decide) aB0)
    · exact absurd (Int32.le_refl _) c
  | N + 1, k, e => by
    by_cases q : jj 24 s k = (aF (trW 24 c0 ii k 21 24) 12).toInt64
    · obtain ⟨k', ih⟩ := c_goesAs s z c0 hs hz hzl hc hk N (k + 1) (by omega)
      refine ⟨k', ?_⟩
      rw [nI_succ k] at ih
      rw [show bkP (jj 24 s) (fun k => (aF (trW 24 c0 ii k 21 24) 12).toInt64) (N + 1) k = bkP (jj 24 s) (fun k => (aF (trW 24 c0 ii k 21 24) 12).toInt64) N (k + 1) from if_pos q]
      refine GB.go 9999 rfl aB0 ?_
      rw [trW_tag (by decide), hz]
      refine GB.br rfl rfl (fun c => ?_) (fun c => ?_)
      · exact absurd c (nI_ge (show k < z by omega) (by omega))
      · refine GB.go 9999 rfl aB0 ?_
        refine GB.cal rfl rfl (by decide) (k_hatFresh 24) ?_
        refine GB.go 24 rfl (aB1 (mn_vin (show k < 40 by omega) (by decide)) aB0) ?_
        rw [nI_clamp (show k < 2 ^ 31 by omega)]
        refine GB.go 9999 rfl aB0 ?_
        refine GB.br rfl rfl (fun c2 => ?_) (fun c2 => ?_)
        · refine GB.go 9999 rfl aB0 ?_
          rw [trW_tag (by decide)]
          have hp := k_passWeek (l := l) (X := X) (ii := trW 24 c0 ii k) (jj := jj) (kd := kd) 24 (by rw [hk]; exact hc) (ii 17 0 4 + nI k) (ii 17 0 5)
          rw [hk] at hp
          refine GB.cal rfl rfl (by decide) (hp) ?_
          refine GB.go 2 rfl aB0 ?_
          exact ih
        · exact absurd (lc_eq.mpr q.symm) c2
    · refine ⟨k, ?_⟩
      rw [show bkP (jj 24 s) (fun k => (aF (trW 24 c0 ii k 21 24) 12).toInt64) (N + 1) k = false from if_neg q]
      refine GB.go 9999 rfl aB0 ?_
      rw [trW_tag (by decide), hz]
      refine GB.br rfl rfl (fun c => ?_) (fun c => ?_)
      · exact absurd c (nI_ge (show k < z by omega) (by omega))
      · refine GB.go 9999 rfl aB0 ?_
        refine GB.cal rfl rfl (by decide) (k_hatFresh 24) ?_
        refine GB.go 24 rfl (aB1 (mn_vin (show k < 40 by omega) (by decide)) aB0) ?_
        rw [nI_clamp (show k < 2 ^ 31 by omega)]
        refine GB.go 9999 rfl aB0 ?_
        refine GB.br rfl rfl (fun c2 => ?_) (fun c2 => ?_)
        · exact absurd (lc_eq.mp c2).symm q
        · refine GB.go 9999 rfl aB0 ?_
          exact GB.ret rfl rfl (aB1 (by decide) aB0)
theorem k_goesAs (s z c0 : Nat) (hs : s < 4) (hz : ii 23 s 2 = nI z) (hzl : z ≤ 40) (hc : c0 < 6) (hk : kd 24 = c0) : ∃ k', SK l X 6 127 [vR 5 0, vR 23 s] (ii, jj, mj_rk kd, 108) (some (vI (bI (bkP (jj 24 s) (fun k => (aF (trW 24 c0 ii k 21 24) 12).toInt64) z 0)))) (trW 24 c0 ii k', jj, mj_rk kd, 108) := by
  obtain ⟨k', L⟩ := c_goesAs (l := l) (X := X) (ii := ii) (jj := jj) (kd := kd) s z c0 hs hz hzl hc hk z 0 (by omega)
  refine ⟨k', ?_⟩
  refine SK.of (by decide) (by decide) rfl ?_
  refine GB.go 2 rfl aB0 ?_
  exact L
theorem c_read0 (v w : Int32) (h : uT v 3 = false) : SK l X 8 110 [vR 5 0, vI v, vI w] (ii, jj, mj_rk kd, 108) (some (vI (fA 0))) (fnd ii 0, jj, mj_rk kd, 108) := by
  refine SK.of (by decide) (by decide) rfl ?_
  refine GB.go 9999 rfl aB0 ?_
  refine GB.cal rfl rfl (by decide) (k_isSheet _ v) ?_
  rw [h]
  refine GB.br rfl rfl (fun c => ?_) (fun c => ?_)
  · refine GB.go 9999 rfl aB0 ?_
    refine GB.cal rfl rfl (by decide) (k_finding 0 (by decide)) ?_
    exact GB.ret rfl rfl aB0
  · exact absurd rfl c
theorem c_read1 (s : Nat) (w : Int32) (hs : s < 4) (hb : ii 23 s 1 = 0) : SK l X 8 110 [vR 5 0, vI (nI s), vI w] (ii, jj, mj_rk kd, 108) (some (vI (fA 5))) (fnd ii 5, jj, mj_rk kd, 108) := by
  refine SK.of (by decide) (by decide) rfl ?_
  refine GB.go 9999 rfl aB0 ?_
  refine GB.cal rfl rfl (by decide) (k_isSheet _ _) ?_
  refine GB.br rfl rfl (fun c => ?_) (fun c => ?_)
  · exact absurd c (b0_of (uT_ok (show s ≤ 3 by omega) (by decide)))
  · refine GB.go 19 rfl (aB1 (mn_vin (show s < 4 by omega) (by decide)) aB0) ?_
    rw [nI_clamp (show s < 2 ^ 31 by omega)]
    refine GB.cal rfl rfl (by decide) (k_miss s) ?_
    refine GB.br rfl rfl (fun c2 => ?_) (fun c2 => ?_)
    · exact absurd hb (bd_f c2)
    · refine GB.go 9999 rfl aB0 ?_
      refine GB.cal rfl rfl (by decide) (k_finding 5 (by decide)) ?_
      exact GB.ret rfl rfl aB0
theorem c_read2 (s : Nat) (w : Int32) (hs : s < 4) (hb : ¬ ii 23 s 1 = 0) (hw : ¬ (¬ w < 0 ∧ ¬ ii 17 0 2 ≤ w)) : SK l X 8 110 [vR 5 0, vI (nI s), vI w] (ii, jj, mj_rk kd, 108) (some (vI (fA 0))) (fnd ii 0, jj, mj_rk kd, 108) := by
  refine SK.of (by decide) (by decide) rfl ?_
  refine GB.go 9999 rfl aB0 ?_
  refine GB.cal rfl rfl (by decide) (k_isSheet _ _) ?_
  refine GB.br rfl rfl (fun c => ?_) (fun c => ?_)
  · exact absurd c (b0_of (uT_ok (show s ≤ 3 by omega) (by decide)))
  · refine GB.go 19 rfl (aB1 (mn_vin (show s < 4 by omega) (by decide)) aB0) ?_
    rw [nI_clamp (show s < 2 ^ 31 by omega)]
    refine GB.cal rfl rfl (by decide) (k_miss s) ?_
    refine GB.br rfl rfl (fun c2 => ?_) (fun c2 => ?_)
    · refine GB.go 9999 rfl aB0 ?_
      refine GB.cal rfl rfl (by decide) (k_isHat _) ?_
      refine GB.br rfl rfl (fun c3 => ?_) (fun c3 => ?_)
      · refine GB.go 9999 rfl aB0 ?_
        refine GB.cal rfl rfl (by decide) (k_finding 0 (by decide)) ?_
        exact GB.ret rfl rfl aB0
      · exact absurd (bd_t c3) hw
    · exact absurd (bd_t c2) hb
/-- one turn of the class's reader -/
theorem c_readT (s z i n w k t : Nat) (hs : s < 4) (hz : ii 23 s 2 = nI z) (hzl : z ≤ 40) (hi : i < n) (hn : n ≤ 8) (hki : kd i < 6) (hk : k < 6) (ht : t < 12) (hwk : ii 17 0 4 = nI w) (hw : w + 40 < 2 ^ 31) (cnt : Int32) {i2 : Nat → Nat → Nat → Int32} {q : Nat} (hq : cqI ii i2) {Z : MH → Prop} {r : Option MV} (fin : ∀ i3 q3, cqI ii i3 → ∃ h', GB l X 8 0 0 110 (60, [some (vR 5 0), some (vI (nI s)), some (vI (nI i)), some (vI (cnt + bI (rdP (jj 24 s) w (ii 17 0 5) (ii 21 i) z (12 * k + t)))), some (vI (nI k)), some (vI (nI (t + 1)))], [], (i3, jj, mj_rk (kU kd 24 q3), 108)) r h' ∧ Z h') : ∃ h', GB l X 8 0 0 110 (60, [some (vR 5 0), some (vI (nI s)), some (vI (nI i)), some (vI cnt), some (vI (nI k)), some (vI (nI t))], [], (i2, jj, mj_rk (kU kd 24 q), 108)) r h' ∧ Z h' := by
  have hz2 : up3 (tI i2 24 i) 21 24 t 9 23 s 2 = nI z := by
    rw [up3_tag (by decide), cqI_tI 23 s (by omega) (by omega), hq 23 s (by omega) (by omega), hz]
  obtain ⟨k', B⟩ := k_goesAs (l := l) (X := X) (ii := up3 (tI i2 24 i) 21 24 t 9) (jj := jj) (kd := kU kd 24 k) s z k hs hz2 hzl hk kU_at
  have e17 : up3 (tI i2 24 i) 21 24 t 9 17 0 = ii 17 0 := by
    rw [up3_tag (by decide), cqI_tI 17 0 (by omega) (by omega), hq 17 0 (by omega) (by omega)]
  rw [show bkP (jj 24 s) (fun j => (aF (trW 24 k (up3 (tI i2 24 i) 21 24 t 9) j 21 24) 12).toInt64) z 0 = rdP (jj 24 s) w (ii 17 0 5) (ii 21 i) z (12 * k + t) by
    unfold rdP
    refine bkP_c z 0 (fun j _ hj => ⟨rfl, ?_⟩)
    have A := trW_at (ii := up3 (tI i2 24 i) 21 24 t 9) (i := 24) (c := k) (w := w) (by rw [e17, hwk]) j
    unfold frW
    rw [e17] at A
    rw [show (12 * k + t) / 12 = k by omega, show (12 * k + t) % 12 = t by omega]
    rw [aF_c 12 (A.tr (wkRs_c (fun x hx => ?_) j))]
    show up3 (tI i2 24 i) 21 24 t 9 21 24 x = if x = t then 9 else ii 21 i x
    by_cases ex : x = t
    · rw [if_pos ex, ex, up3_rd]
    · rw [if_neg ex, up3_pl ex]
      unfold tI
      rw [wA_lt hx, hq 21 i (by omega) (by omega)]] at B
  obtain ⟨h', G, S⟩ := fin (trW 24 k (up3 (tI i2 24 i) 21 24 t 9) k') k (hq.tr (cqI_tI.tr (cqI_fr.tr (cqI_trW k'))))
  refine ⟨h', ?_, S⟩
  rw [nI_succ t] at G
  have hb := k_become (l := l) (X := X) (ii := i2) (jj := jj) (kd := kU kd 24 q) 24 i (by rw [kU_ne (by omega)]; exact hki)
  rw [kU_ne (show i ≠ 24 by omega), kU_kU] at hb
  refine GB.go 9999 rfl aB0 ?_
  refine GB.br rfl rfl (fun c => ?_) (fun c => ?_)
  · exact absurd c (nI_ge ht (by decide))
  · refine GB.go 80 rfl (aB1 (mn_vin (show i < 8 by omega) (by decide)) aB0) ?_
    rw [nI_clamp (show i < 2 ^ 31 by omega)]
    refine GB.cal rfl rfl (by decide) (hb) ?_
    refine GB.go 94 rfl (aB1 (mn_vin (show k < 6 by omega) (by decide)) aB0) ?_
    rw [nI_clamp (show k < 2 ^ 31 by omega)]
    refine GB.go 97 rfl aB0 ?_
    rw [rk_up, kU_kU]
    refine GB.go 108 rfl aB0 ?_
    refine GB.go 109 rfl (aB1 (mn_vin (show t < 12 by omega) (by decide)) aB0) ?_
    rw [nI_clamp (show t < 2 ^ 31 by omega)]
    refine GB.go 116 rfl (aB1 (mn_vin (show s < 4 by omega) (by decide)) aB0) ?_
    rw [nI_clamp (show s < 2 ^ 31 by omega)]
    refine GB.cal rfl rfl (by decide) (B) ?_
    refine GB.br rfl rfl (fun c2 => ?_) (fun c2 => ?_)
    · rw [bI_f c2, show cnt + bI false = cnt from Int32.add_zero _] at G
      refine GB.go 60 rfl aB0 ?_
      exact G
    · rw [bI_t c2] at G
      refine GB.go 60 rfl aB0 ?_
      exact G
theorem c_readL (s z i n w : Nat) (hs : s < 4) (hz : ii 23 s 2 = nI z) (hzl : z ≤ 40) (hi : i < n) (hn : n ≤ 8) (hki : kd i < 6) (hwk : ii 17 0 4 = nI w) (hw : w + 40 < 2 ^ 31) : ∀ N k t (i2 : Nat → Nat → Nat → Int32) (q : Nat), 12 * k + t + N = 72 → t ≤ 12 → k < 6 → cqI ii i2 → ∃ h', GB l X 8 0 0 110 (60, [some (vR 5 0), some (vI (nI s)), some (vI (nI i)), some (vI (rdN (rdP (jj 24 s) w (ii 17 0 5) (ii 21 i) z) (12 * k + t))), some (vI (nI k)), some (vI (nI t))], [], (i2, jj, mj_rk (kU kd 24 q), 108)) (some (vI (rdN (rdP (jj 24 s) w (ii 17 0 5) (ii 21 i) z) 72))) h' ∧ ∃ i3 q3, h' = (i3, jj, mj_rk (kU kd 24 q3), 108) ∧ cqI ii i3
  | 0, k, t, i2, q, e, h12, hk, hq => by
    refine ⟨_, ?_, i2, q, rfl, hq⟩
    rw [show t = 12 by omega, show k = 5 by omega]
    refine GB.go 9999 rfl aB0 ?_
    refine GB.br rfl rfl (fun c => ?_) (fun c => ?_)
    · refine GB.go 9999 rfl aB0 ?_
      refine GB.br rfl rfl (fun c2 => ?_) (fun c2 => ?_)
      · refine GB.go 9999 rfl aB0 ?_
        exact GB.ret rfl rfl aB0
      · exact absurd (by decide) c2
    · exact absurd (Int32.le_refl _) c
  | N + 1, k, t, i2, q, e, h12, hk, hq => by
    by_cases ht : t < 12
    · refine c_readT s z i n w k t hs hz hzl hi hn hki hk ht hwk hw _ hq (fun i3 q3 hq3 => ?_)
      exact c_readL s z i n w hs hz hzl hi hn hki hwk hw N k (t + 1) i3 q3 (by omega) (by omega) hk hq3
    · have hk5 : k + 1 < 6 := by omega
      have R := fun (fin : ∀ (i3 : Nat → Nat → Nat → Int32) (q3 : Nat), cqI ii i3 → _) => c_readT (l := l) (X := X) (ii := ii) (jj := jj) (kd := kd) s z i n w (k + 1) 0 hs hz hzl hi hn hki hk5 (by decide) hwk hw (rdN (rdP (jj 24 s) w (ii 17 0 5) (ii 21 i) z) (12 * (k + 1) + 0)) (i2 := i2) (q := q) hq (Z := fun h' => ∃ i3 q3, h' = (i3, jj, mj_rk (kU kd 24 q3), 108) ∧ cqI ii i3) (r := some (vI (rdN (rdP (jj 24 s) w (ii 17 0 5) (ii 21 i) z) 72))) fin
      obtain ⟨h', G, S⟩ := R (fun i3 q3 hq3 => c_readL s z i n w hs hz hzl hi hn hki hwk hw N (k + 1) 1 i3 q3 (by omega) (by decide) hk5 hq3)
      refine ⟨h', ?_, S⟩
      rw [show t = 12 by omega, show 12 * k + 12 = 12 * (k + 1) + 0 by omega]
      rw [nI_succ k] at G
      refine GB.go 9999 rfl aB0 ?_
      refine GB.br rfl rfl (fun c => ?_) (fun c => ?_)
      · refine GB.go 50 rfl aB0 ?_
        rw [← nI_succ k]
        rw [← nI_succ k] at G
        refine GB.go 9999 rfl aB0 ?_
        refine GB.br rfl rfl (fun c2 => ?_) (fun c2 => ?_)
        · exact absurd c2 (nI_ge hk5 (by decide))
        · refine GB.go 60 rfl aB0 ?_
          exact G
      · exact absurd (Int32.le_refl _) c
theorem c_read (s z i n w : Nat) (hs : s < 4) (hb : ¬ ii 23 s 1 = 0) (hz : ii 23 s 2 = nI z) (hzl : z ≤ 40) (hi : i < n) (hn : n ≤ 8) (h0 : ii 17 0 2 = nI n) (hki : kd i < 6) (hwk : ii 17 0 4 = nI w) (hw : w + 40 < 2 ^ 31) : ∃ i3 q3, SK l X 8 110 [vR 5 0, vI (nI s), vI (nI i)] (ii, jj, mj_rk kd, 108) (some (vI (rdN (rdP (jj 24 s) w (ii 17 0 5) (ii 21 i) z) 72))) (i3, jj, mj_rk (kU kd 24 q3), 108) ∧ cqI ii i3 := by
  obtain ⟨h', L, i3, q3, e, S⟩ := c_readL (l := l) (X := X) (ii := ii) (jj := jj) (kd := kd) s z i n w hs hz hzl hi hn hki hwk hw 72 0 0 ii (kd 24) rfl (by decide) (by decide) cqI.rf
  rw [e, kU_id] at L
  refine ⟨i3, q3, ?_, S⟩
  refine SK.of (by decide) (by decide) rfl ?_
  refine GB.go 9999 rfl aB0 ?_
  refine GB.cal rfl rfl (by decide) (k_isSheet _ _) ?_
  refine GB.br rfl rfl (fun c => ?_) (fun c => ?_)
  · exact absurd c (b0_of (uT_ok (show s ≤ 3 by omega) (by decide)))
  · refine GB.go 19 rfl (aB1 (mn_vin (show s < 4 by omega) (by decide)) aB0) ?_
    rw [nI_clamp (show s < 2 ^ 31 by omega)]
    refine GB.cal rfl rfl (by decide) (k_miss s) ?_
    refine GB.br rfl rfl (fun c2 => ?_) (fun c2 => ?_)
    · refine GB.go 9999 rfl aB0 ?_
      refine GB.cal rfl rfl (by decide) (k_isHat _) ?_
      refine GB.br rfl rfl (fun c3 => ?_) (fun c3 => ?_)
      · exact absurd (in_ok hi (by omega) h0) (bd_f c3)
      · refine GB.go 9999 rfl aB0 ?_
        refine GB.br rfl rfl (fun c4 => ?_) (fun c4 => ?_)
        · exact absurd c4 (by decide)
        · refine GB.go 60 rfl aB0 ?_
          exact L
    · exact absurd (bd_t c2) hb
end MP
