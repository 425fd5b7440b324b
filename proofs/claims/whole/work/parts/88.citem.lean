/-! THE TEXT: the class's items -/
/-- the draft and a row tell the same -/
def DR (ii : Nat → Nat → Nat → Int32) (kd : Nat → Nat) (m : Nat → Int32) (n d : Nat) : Prop := ShR (ii 17 2) (fun i => ii 20 (i + 16)) (fun i => ii 21 (i + 16)) (fun j => ii 22 (j + 12)) (fun i => kd (i + 16)) 0 0 m n d
/-- nothing but the draft has changed -/
def frD (ii : Nat → Nat → Nat → Int32) (kd : Nat → Nat) (i2 : Nat → Nat → Nat → Int32) (k2 : Nat → Nat) : Prop := (∀ a, a ≠ 17 → a ≠ 20 → a ≠ 21 → a ≠ 22 → i2 a = ii a) ∧ (∀ x c, x ≠ 2 → i2 17 x c = ii 17 x c) ∧ (∀ x, x < 16 ∨ 24 ≤ x → i2 20 x = ii 20 x ∧ i2 21 x = ii 21 x ∧ k2 x = kd x) ∧ ∀ x, x < 12 → i2 22 x = ii 22 x
/-- the class stands on the token at s -/
def cS (z : Nat) (β : Nat → Nat) (ii : Nat → Nat → Nat → Int32) (s : Nat) : Nat → Nat → Nat → Int32 := cF ii (nI (tkc z β s)) (nI s) (nI (tke z β s))
section CI
variable {l : Launch} {X : FX} {ii i2 i3 : Nat → Nat → Nat → Int32} {jj : Nat → Nat → Nat → Int64} {kd k2 k3 : Nat → Nat} {z : Nat} {β : Nat → Nat}
theorem frD.rf : frD ii kd ii kd := ⟨fun _ _ _ _ _ => rfl, fun _ _ _ => rfl, fun _ _ => ⟨rfl, rfl, rfl⟩, fun _ _ => rfl⟩
theorem frD.tr (h1 : frD ii kd i2 k2) (h2 : frD i2 k2 i3 k3) : frD ii kd i3 k3 := ⟨fun a p1 p2 p3 p4 => (h2.1 a p1 p2 p3 p4).trans (h1.1 a p1 p2 p3 p4), fun x c p => (h2.2.1 x c p).trans (h1.2.1 x c p), fun x p => ⟨(h2.2.2.1 x p).1.trans (h1.2.2.1 x p).1, (h2.2.2.1 x p).2.1.trans (h1.2.2.1 x p).2.1, (h2.2.2.1 x p).2.2.trans (h1.2.2.1 x p).2.2⟩, fun x p => (h2.2.2.2 x p).trans (h1.2.2.2 x p)⟩
theorem frD_up {T i k : Nat} {v : Int32} (h : (T = 17 ∧ i = 2) ∨ ((T = 20 ∨ T = 21) ∧ 16 ≤ i ∧ i < 24) ∨ (T = 22 ∧ 12 ≤ i)) : frD ii kd (up3 ii T i k v) kd := by
  refine ⟨fun a p1 p2 p3 p4 => up3_tag (by omega), fun x c p => ?_, fun x p => ⟨?_, ?_, rfl⟩, fun x p => ?_⟩
  · unfold up3
    rw [if_neg (fun q => by omega)]
  all_goals funext c
  all_goals unfold up3
  all_goals rw [if_neg (fun q => by omega)]
theorem frD_wA {i n : Nat} {F : Nat → Int32} (h : 16 ≤ i ∧ i < 24) : frD ii kd (wA ii 21 i n F) kd := by
  refine ⟨fun a p1 p2 p3 p4 => wA_tg p3, fun x c p => by rw [wA_tg (by decide)], fun x p => ⟨by rw [wA_tg (by decide)], ?_, rfl⟩, fun x p => by rw [wA_tg (by decide)]⟩
  funext c
  exact wA_ne (fun q => by omega)
theorem frD_k {i c : Nat} (h : 16 ≤ i ∧ i < 24) : frD ii kd ii (kU kd i c) := ⟨fun _ _ _ _ _ => rfl, fun _ _ _ => rfl, fun x p => ⟨rfl, rfl, kU_ne (by omega)⟩, fun _ _ => rfl⟩
theorem TF_fr (T : TF ii z β) (h : frD ii kd i2 k2) : TF i2 z β := by
  unfold TF
  rw [h.1 7 (by decide) (by decide) (by decide) (by decide), h.1 8 (by decide) (by decide) (by decide) (by decide)]
  exact T
theorem k_nx (T : TF ii z β) {s : Nat} (hs : s ≤ z) : SK l X 2 67 [vR 7 0] (cS z β ii s, jj, mj_rk kd, 108) none (cS z β ii (nxt z β s), jj, mj_rk kd, 108) := k_next T (tke z β s) (tke_le hs)
theorem GB.nam {y pc x n' d c n : Nat} {w : Int32} {ls : ML} {rs : List MV} {h' : MH} {r : Option MV} (hc : c < 6) (hi : mj_ins y pc = some (.getfield x, n', w, 11, 1, 1)) (k : GB l X d 0 0 y (n', ls, vR 3 c :: rs, (ii, jj, mj_rk kd, n)) r h') : GB l X d 0 0 y (pc, ls, vR (c + 11) 0 :: rs, (ii, jj, mj_rk kd, n)) r h' := by
  refine GB.stp hi (cs := []) ?_ trivial k
  rcases six hc with rfl | rfl | rfl | rfl | rfl | rfl <;> rfl
theorem k_addHat2 {n c : Nat} (hn : n < 8) (hc : c < 6) (h0 : ii 17 2 2 = nI n) : SK l X 3 47 [vR 17 2, vR (c + 11) 0] (ii, jj, mj_rk kd, 108) none (up3 (wA (up3 ii 20 (n + 16) 2 5) 21 (n + 16) 12 (fun _ => 0)) 17 2 2 (nI (n + 1)), jj, mj_rk (kU kd (n + 16) c), 108) := by
  refine SK.of (by decide) (by decide) rfl ?_
  refine GB.go 9999 rfl aB0 ?_
  rw [h0]
  refine GB.br rfl rfl (fun c2 => ?_) (fun c2 => ?_)
  · exact absurd c2 (nI_ge hn (by decide))
  · refine GB.go 17 rfl aB0 ?_
    rw [h0]
    refine GB.go 18 rfl (aB1 (mn_vin hn (by decide)) aB0) ?_
    rw [nI_clamp (show n < 2 ^ 31 by omega)]
    refine GB.go 19 rfl aB0 ?_
    refine GB.cal rfl rfl (by decide) (k_begin (n + 16) c hc) ?_
    refine GB.go 27 rfl aB0 ?_
    rw [wA_tg (by decide), up3_tag (by decide), h0, nI_succ]
    refine GB.go 9999 rfl aB0 ?_
    exact GB.ret rfl rfl aB0
theorem k_addHead2 {n : Nat} (hn : n < 6) (a : Int32) (h0 : ii 17 2 3 = nI n) : SK l X 2 48 [vR 17 2, vI a] (ii, jj, mj_rk kd, 108) none (up3 (up3 (up3 (up3 ii 22 (n + 12) 0 a) 22 (n + 12) 1 0) 22 (n + 12) 2 0) 17 2 3 (nI (n + 1)), jj, mj_rk kd, 108) := by
  refine SK.of (by decide) (by decide) rfl ?_
  refine GB.go 9999 rfl aB0 ?_
  rw [h0]
  refine GB.br rfl rfl (fun c2 => ?_) (fun c2 => ?_)
  · exact absurd c2 (nI_ge hn (by decide))
  · refine GB.go 17 rfl aB0 ?_
    rw [h0]
    refine GB.go 18 rfl (aB1 (mn_vin hn (by decide)) aB0) ?_
    rw [nI_clamp (show n < 2 ^ 31 by omega)]
    refine GB.go 19 rfl aB0 ?_
    refine GB.cal rfl rfl (by decide) (k_headBegin (n + 12) a) ?_
    refine GB.go 27 rfl aB0 ?_
    rw [up3_tag (by decide), up3_tag (by decide), up3_tag (by decide), h0, nI_succ]
    refine GB.go 9999 rfl aB0 ?_
    exact GB.ret rfl rfl aB0
theorem DR_hat {m : Nat → Int32} {n d c a p : Nat} (D : DR ii kd m n d) (hn : n < 8) (hc : c < 6) (hp : p ≤ 99) (c2 : i2 17 2 2 = nI (n + 1)) (ec : ∀ k, k ≠ 2 → i2 17 2 k = ii 17 2 k) (eo : ∀ x, x ≠ n + 16 → i2 20 x = ii 20 x ∧ i2 21 x = ii 21 x ∧ k2 x = kd x) (e22 : i2 22 = ii 22) (ek : k2 (n + 16) = c) (eP : i2 20 (n + 16) 2 = nI p) (eF : ∀ t, t < 12 → i2 21 (n + 16) t = if nI a &&& bT t = 0 then 0 else 9) : DR i2 k2 (rowH m n (nI c) (nI p) (nI a)) (n + 1) d := by
  unfold DR
  rw [e22]
  refine ShR_hat D hn c2 (fun k _ h => ec k h) (fun i hi => by rw [(eo (i + 16) (by omega)).1]) (fun i hi t _ => by rw [(eo (i + 16) (by omega)).2.1]) (fun i hi => (eo (i + 16) (by omega)).2.2) rowH_2 (fun k hk h2 h3 => rowH_ne h2 h3) ⟨by rw [ek]; exact hc, ?_⟩ ?_ (fun t ht => ?_)
  · rw [ek]
    unfold rowH nHm
    rw [wR_out (by omega), up3_pl (by omega), up3_rd]
  · refine bth.of ?_ eP hp
    unfold rowH nHm
    rw [wR_out (by omega), up3_rd]
  · rw [eF t ht]
    unfold rowH nHm
    rw [wR_lt ht]
    split
    · exact bth.self (x := 0) (by decide)
    · exact bth.self (x := 9) (by decide)
theorem cS_tag {a s : Nat} (h : a ≠ 7) : cS z β ii s a = ii a := cF_tag h
/-- perhaps a pledge -/
theorem ci_hat2 (T : TF ii z β) {s n c : Nat} (hs : s ≤ z) : ∃ i2, GB l X 7 0 0 65 (67, [some (vR 7 0), some (vR 17 2), some (vR (c + 11) 0), some (vR 20 (n + 16))], [], (cS z β ii s, jj, mj_rk kd, 108)) (some (vI (bI (prh z β 7 99 5 s).1))) (cS z β i2 (prh z β 7 99 5 s).2.1, jj, mj_rk kd, 108) ∧ (i2 = ii ∨ ∃ v, i2 = up3 ii 20 (n + 16) 2 v) ∧ ((prh z β 7 99 5 s).1 = true → ii 20 (n + 16) 2 = nI 5 → i2 20 (n + 16) 2 = nI (prh z β 7 99 5 s).2.2) := by
  have n1 := nxt_le (β := β) hs
  by_cases h7 : mtk z β s = 7
  · by_cases h20 : mtk z β (nxt z β s) = 20 ∧ mvl z β (nxt z β s) ≤ 99
    · have e2 : tkc z β (nxt z β s) = 2 := (mt_c (by omega)).mp h20.1
      have T2 : TF (up3 ii 20 (n + 16) 2 (nI (mvl z β (nxt z β s)))) z β := by
        unfold TF
        rw [up3_tag (by decide), up3_tag (by decide)]
        exact T
      rw [show prh z β 7 99 5 s = (true, nxt z β (nxt z β s), mvl z β (nxt z β s)) from (if_pos h7).trans (if_pos h20)]
      refine ⟨up3 ii 20 (n + 16) 2 (nI (mvl z β (nxt z β s))), ?_, Or.inr ⟨_, rfl⟩, fun _ _ => up3_rd⟩
      refine GB.go 9999 rfl aB0 ?_
      refine GB.cal rfl rfl (by decide) (k_isWord T 7 s (by decide) hs) ?_
      rw [decide_eq_true h7]
      refine GB.br rfl rfl (fun c1 => ?_) (fun c1 => ?_)
      · exact absurd c1 (by decide)
      · refine GB.go 9999 rfl aB0 ?_
        refine GB.cal rfl rfl (by decide) (k_nx T hs) ?_
        refine GB.go 9999 rfl aB0 ?_
        refine GB.cal rfl rfl (by decide) (k_numUp T (nxt z β s) 99 n1 (by decide)) ?_
        rw [decide_eq_true h20]
        refine GB.br rfl rfl (fun c2 => ?_) (fun c2 => ?_)
        · exact absurd c2 (by decide)
        · refine GB.go 9999 rfl aB0 ?_
          refine GB.cal rfl rfl (by decide) (k_num T (nxt z β s) n1 e2) ?_
          rw [Nat.min_eq_right (show mvl z β (nxt z β s) ≤ 10000 by omega)]
          refine GB.go 99 rfl aB0 ?_
          rw [cF_up (by decide)]
          refine GB.go 9999 rfl aB0 ?_
          refine GB.cal rfl rfl (by decide) (k_nx T2 n1) ?_
          refine GB.go 9999 rfl aB0 ?_
          exact GB.ret rfl rfl (aB1 (by decide) aB0)
    · rw [show prh z β 7 99 5 s = (false, nxt z β s, mvl z β (nxt z β s)) from (if_pos h7).trans (if_neg h20)]
      refine ⟨ii, ?_, Or.inl rfl, fun q => by cases q⟩
      refine GB.go 9999 rfl aB0 ?_
      refine GB.cal rfl rfl (by decide) (k_isWord T 7 s (by decide) hs) ?_
      rw [decide_eq_true h7]
      refine GB.br rfl rfl (fun c1 => ?_) (fun c1 => ?_)
      · exact absurd c1 (by decide)
      · refine GB.go 9999 rfl aB0 ?_
        refine GB.cal rfl rfl (by decide) (k_nx T hs) ?_
        refine GB.go 9999 rfl aB0 ?_
        refine GB.cal rfl rfl (by decide) (k_numUp T (nxt z β s) 99 n1 (by decide)) ?_
        rw [decide_eq_false h20]
        refine GB.br rfl rfl (fun c2 => ?_) (fun c2 => ?_)
        · refine GB.go 9999 rfl aB0 ?_
          exact GB.ret rfl rfl (aB1 (by decide) aB0)
        · exact absurd rfl c2
  · rw [show prh z β 7 99 5 s = (true, s, 5) from if_neg h7]
    refine ⟨ii, ?_, Or.inl rfl, fun _ q => q⟩
    refine GB.go 9999 rfl aB0 ?_
    refine GB.cal rfl rfl (by decide) (k_isWord T 7 s (by decide) hs) ?_
    rw [decide_eq_false h7]
    refine GB.br rfl rfl (fun c1 => ?_) (fun c1 => ?_)
    · refine GB.go 9999 rfl aB0 ?_
      exact GB.ret rfl rfl (aB1 (by decide) aB0)
    · exact absurd rfl c1
/-- perhaps what it holds -/
theorem ci_hat1 (T : TF ii z β) {s n c : Nat} (hs : s ≤ z) : ∃ j1, (j1 = ii ∨ ∃ F, j1 = wA ii 21 (n + 16) 12 F) ∧ ((prh z β 6 4095 0 s).1 = true → (∀ t, t < 12 → ii 21 (n + 16) t = 0) → ∀ t, t < 12 → j1 21 (n + 16) t = if nI (prh z β 6 4095 0 s).2.2 &&& bT t = 0 then 0 else 9) ∧ ∀ (r : Option MV) (h' : MH), ((prh z β 6 4095 0 s).1 = true → GB l X 7 0 0 65 (67, [some (vR 7 0), some (vR 17 2), some (vR (c + 11) 0), some (vR 20 (n + 16))], [], (cS z β j1 (prh z β 6 4095 0 s).2.1, jj, mj_rk kd, 108)) r h') → ((prh z β 6 4095 0 s).1 = false → r = some (vI 0) ∧ h' = (cS z β ii (prh z β 6 4095 0 s).2.1, jj, mj_rk kd, 108)) → GB l X 7 0 0 65 (30, [some (vR 7 0), some (vR 17 2), some (vR (c + 11) 0), some (vR 20 (n + 16))], [], (cS z β ii s, jj, mj_rk kd, 108)) r h' := by
  have n1 := nxt_le (β := β) hs
  by_cases h6 : mtk z β s = 6
  · by_cases h20 : mtk z β (nxt z β s) = 20 ∧ mvl z β (nxt z β s) ≤ 4095
    · have e2 : tkc z β (nxt z β s) = 2 := (mt_c (by omega)).mp h20.1
      have T2 : TF (wA ii 21 (n + 16) 12 (fun t => if nI (mvl z β (nxt z β s)) &&& bT t = 0 then 0 else 9)) z β := by
        unfold TF
        rw [wA_tg (by decide), wA_tg (by decide)]
        exact T
      rw [show prh z β 6 4095 0 s = (true, nxt z β (nxt z β s), mvl z β (nxt z β s)) from (if_pos h6).trans (if_pos h20)]
      refine ⟨wA ii 21 (n + 16) 12 (fun t => if nI (mvl z β (nxt z β s)) &&& bT t = 0 then 0 else 9), Or.inr ⟨_, rfl⟩, fun _ _ t ht => wA_lt ht, fun r h' yes _ => ?_⟩
      have G := yes rfl
      refine GB.go 9999 rfl aB0 ?_
      refine GB.cal rfl rfl (by decide) (k_isWord T 6 s (by decide) hs) ?_
      rw [decide_eq_true h6]
      refine GB.br rfl rfl (fun c1 => ?_) (fun c1 => ?_)
      · exact absurd c1 (by decide)
      · refine GB.go 9999 rfl aB0 ?_
        refine GB.cal rfl rfl (by decide) (k_nx T hs) ?_
        refine GB.go 9999 rfl aB0 ?_
        refine GB.cal rfl rfl (by decide) (k_numUp T (nxt z β s) 4095 n1 (by decide)) ?_
        rw [decide_eq_true h20]
        refine GB.br rfl rfl (fun c2 => ?_) (fun c2 => ?_)
        · exact absurd c2 (by decide)
        · refine GB.go 9999 rfl aB0 ?_
          refine GB.cal rfl rfl (by decide) (k_num T (nxt z β s) n1 e2) ?_
          rw [Nat.min_eq_right (show mvl z β (nxt z β s) ≤ 10000 by omega)]
          refine GB.cal rfl rfl (by decide) (k_hold (n + 16) _) ?_
          rw [cF_wA (by decide)]
          refine GB.go 9999 rfl aB0 ?_
          refine GB.cal rfl rfl (by decide) (k_nx T2 n1) ?_
          exact G
    · rw [show prh z β 6 4095 0 s = (false, nxt z β s, mvl z β (nxt z β s)) from (if_pos h6).trans (if_neg h20)]
      refine ⟨ii, Or.inl rfl, fun q => (by cases q), fun r h' _ no => ?_⟩
      obtain ⟨e1, e2⟩ := no rfl
      rw [e1, e2]
      refine GB.go 9999 rfl aB0 ?_
      refine GB.cal rfl rfl (by decide) (k_isWord T 6 s (by decide) hs) ?_
      rw [decide_eq_true h6]
      refine GB.br rfl rfl (fun c1 => ?_) (fun c1 => ?_)
      · exact absurd c1 (by decide)
      · refine GB.go 9999 rfl aB0 ?_
        refine GB.cal rfl rfl (by decide) (k_nx T hs) ?_
        refine GB.go 9999 rfl aB0 ?_
        refine GB.cal rfl rfl (by decide) (k_numUp T (nxt z β s) 4095 n1 (by decide)) ?_
        rw [decide_eq_false h20]
        refine GB.br rfl rfl (fun c2 => ?_) (fun c2 => ?_)
        · refine GB.go 9999 rfl aB0 ?_
          exact GB.ret rfl rfl (aB1 (by decide) aB0)
        · exact absurd rfl c2
  · rw [show prh z β 6 4095 0 s = (true, s, 0) from if_neg h6]
    refine ⟨ii, Or.inl rfl, fun _ q t ht => by rw [q t ht, if_pos (show nI 0 &&& bT t = 0 from Int32.zero_and)], fun r h' yes _ => ?_⟩
    have G := yes rfl
    refine GB.go 9999 rfl aB0 ?_
    refine GB.cal rfl rfl (by decide) (k_isWord T 6 s (by decide) hs) ?_
    rw [decide_eq_false h6]
    refine GB.br rfl rfl (fun c1 => ?_) (fun c1 => ?_)
    · exact G
    · exact absurd rfl c1
end CI
