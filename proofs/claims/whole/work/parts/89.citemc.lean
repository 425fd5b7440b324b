/-! THE TEXT: the class's heads and items -/
section CI
variable {l : Launch} {X : FX} {ii i2 : Nat → Nat → Nat → Int32} {jj : Nat → Nat → Nat → Int64} {kd : Nat → Nat} {z : Nat} {β : Nat → Nat}
theorem DR_head {m : Nat → Int32} {n d a b : Nat} (D : DR ii kd m n d) (hd : d < 6) (ha : a ≤ 4095) (hb : b ≤ 1) (c3 : i2 17 2 3 = nI (d + 1)) (ec : ∀ k, k ≠ 3 → i2 17 2 k = ii 17 2 k) (e20 : i2 20 = ii 20) (e21 : i2 21 = ii 21) (eo : ∀ x, x ≠ d + 12 → i2 22 x = ii 22 x) (h0 : i2 22 (d + 12) 0 = nI a) (h1 : i2 22 (d + 12) 1 = nI b) (h2 : i2 22 (d + 12) 2 = 0) : DR i2 kd (rowD m d (nI a) (nI b)) n (d + 1) := by
  unfold DR
  rw [e20, e21]
  refine ShR_head D hd c3 (fun k _ h => ec k h) (fun j hj k _ => by rw [eo (j + 12) (by omega)]) rowD_3 (fun k hk h3 h4 => rowD_ne h3 h4) (fun k hk => ?_)
  unfold rowD nDm
  match k, hk with
  | 0, _ =>
    refine bth.of ?_ h0 ha
    rw [up3_pl (by omega), up3_pl (by omega), show 116 + 3 * d + 0 = 116 + 3 * d from rfl, up3_rd]
  | 1, _ =>
    refine bth.of ?_ h1 hb
    rw [up3_pl (by omega), up3_rd]
  | 2, _ =>
    refine bth.of (x := 0) ?_ h2 (by decide)
    rw [up3_rd]
    rfl
theorem ci_head1 (T : TF ii z β) {s d : Nat} (hs : s ≤ z) : ∃ j1, (j1 = ii ∨ ∃ v, j1 = up3 ii 22 (d + 12) 0 v) ∧ ((prh z β 9 4095 0 s).1 = true → ii 22 (d + 12) 0 = nI 0 → j1 22 (d + 12) 0 = nI (prh z β 9 4095 0 s).2.2) ∧ ∀ (r : Option MV) (h' : MH), ((prh z β 9 4095 0 s).1 = true → GB l X 7 0 0 66 (67, [some (vR 7 0), some (vR 17 2), some (vR 22 (d + 12))], [], (cS z β j1 (prh z β 9 4095 0 s).2.1, jj, mj_rk kd, 108)) r h') → ((prh z β 9 4095 0 s).1 = false → r = some (vI 0) ∧ h' = (cS z β ii (prh z β 9 4095 0 s).2.1, jj, mj_rk kd, 108)) → GB l X 7 0 0 66 (30, [some (vR 7 0), some (vR 17 2), some (vR 22 (d + 12))], [], (cS z β ii s, jj, mj_rk kd, 108)) r h' := by
  have n1 := nxt_le (β := β) hs
  by_cases h9 : mtk z β s = 9
  · by_cases h20 : mtk z β (nxt z β s) = 20 ∧ mvl z β (nxt z β s) ≤ 4095
    · have e2 : tkc z β (nxt z β s) = 2 := (mt_c (by omega)).mp h20.1
      have T2 : TF (up3 ii 22 (d + 12) 0 (nI (mvl z β (nxt z β s)))) z β := by
        unfold TF
        rw [up3_tag (by decide), up3_tag (by decide)]
        exact T
      rw [show prh z β 9 4095 0 s = (true, nxt z β (nxt z β s), mvl z β (nxt z β s)) from (if_pos h9).trans (if_pos h20)]
      refine ⟨up3 ii 22 (d + 12) 0 (nI (mvl z β (nxt z β s))), Or.inr ⟨_, rfl⟩, fun _ _ => up3_rd, fun r h' yes _ => ?_⟩
      have G := yes rfl
      refine GB.go 9999 rfl aB0 ?_
      refine GB.cal rfl rfl (by decide) (k_isWord T 9 s (by decide) hs) ?_
      rw [decide_eq_true h9]
      refine GB.br rfl rfl (fun c1 => ?_) (fun c1 => ?_)
      · exact absurd c1 (by decide)
      · refine GB.go 9999 rfl aB0 ?_
        refine GB.cal rfl rfl (by decide) (k_nx T hs) ?_
        refine GB.go 9999 rfl aB0 ?_
        refine GB.cal rfl rfl (by decide) (k_numUp T (nxt z β s) 4095 n1 (by decide)) ?_
        rw [decide_eq_true h20]
        refine GB.br rfl rfl (fun c2 => ?_) (fun c2 => ?_)
        · exact absurd c2 (by decide)
        · refine GB.go 9999 rfl aB0 ?_
          refine GB.cal rfl rfl (by decide) (k_num T (nxt z β s) n1 e2) ?_
          rw [Nat.min_eq_right (show mvl z β (nxt z β s) ≤ 10000 by omega)]
          refine GB.go 63 rfl aB0 ?_
          rw [cF_up (by decide)]
          refine GB.go 9999 rfl aB0 ?_
          refine GB.cal rfl rfl (by decide) (k_nx T2 n1) ?_
          exact G
    · rw [show prh z β 9 4095 0 s = (false, nxt z β s, mvl z β (nxt z β s)) from (if_pos h9).trans (if_neg h20)]
      refine ⟨ii, Or.inl rfl, fun q => (by cases q), fun r h' _ no => ?_⟩
      obtain ⟨e1, e2⟩ := no rfl
      rw [e1, e2]
      refine GB.go 9999 rfl aB0 ?_
      refine GB.cal rfl rfl (by decide) (k_isWord T 9 s (by decide) hs) ?_
      rw [decide_eq_true h9]
      refine GB.br rfl rfl (fun c1 => ?_) (fun c1 => ?_)
      · exact absurd c1 (by decide)
      · refine GB.go 9999 rfl aB0 ?_
        refine GB.cal rfl rfl (by decide) (k_nx T hs) ?_
        refine GB.go 9999 rfl aB0 ?_
        refine GB.cal rfl rfl (by decide) (k_numUp T (nxt z β s) 4095 n1 (by decide)) ?_
        rw [decide_eq_false h20]
        refine GB.br rfl rfl (fun c2 => ?_) (fun c2 => ?_)
        · refine GB.go 9999 rfl aB0 ?_
          exact GB.ret rfl rfl (aB1 (by decide) aB0)
        · exact absurd rfl c2
  · rw [show prh z β 9 4095 0 s = (true, s, 0) from if_neg h9]
    refine ⟨ii, Or.inl rfl, fun _ q => q, fun r h' yes _ => ?_⟩
    have G := yes rfl
    refine GB.go 9999 rfl aB0 ?_
    refine GB.cal rfl rfl (by decide) (k_isWord T 9 s (by decide) hs) ?_
    rw [decide_eq_false h9]
    refine GB.br rfl rfl (fun c1 => ?_) (fun c1 => ?_)
    · exact G
    · exact absurd rfl c1
theorem ci_head (T : TF ii z β) {s n d : Nat} {m : Nat → Int32} (hs : s ≤ z) (D : DR ii kd m n d) : ∃ i2 k2, SK l X 7 66 [vR 7 0, vR 17 2] (cS z β ii s, jj, mj_rk kd, 108) (some (vI (bI (headI z β s m n d).1))) (cS z β i2 (headI z β s m n d).2.1, jj, mj_rk k2, 108) ∧ frD ii kd i2 k2 ∧ ((headI z β s m n d).1 = true → DR i2 k2 (headI z β s m n d).2.2.1 (headI z β s m n d).2.2.2.1 (headI z β s m n d).2.2.2.2) := by
  have d6 := D.d6
  have n1 := nxt_le (β := β) hs
  have c3 : ii 17 2 3 = nI d := D.c3
  have p1 := prh_le (β := β) (w := 9) (m := 4095) (so := 0) n1
  by_cases e6 : d = 6
  · rw [show headI z β s m n d = (false, s, m, n, d) from if_pos e6]
    refine ⟨ii, kd, ?_, frD.rf, fun q => by cases q⟩
    refine SK.of (by decide) (by decide) rfl ?_
    refine GB.go 9999 rfl aB0 ?_
    rw [cS_tag (by decide), c3]
    refine GB.br rfl rfl (fun c4 => ?_) (fun c4 => ?_)
    · exact absurd c4 (nI_nlt (show 6 ≤ d by omega) (by omega))
    · refine GB.go 9999 rfl aB0 ?_
      exact GB.ret rfl rfl (aB1 (by decide) aB0)
  · have hd : d < 6 := by omega
    generalize hi1 : up3 (up3 (up3 (up3 ii 22 (d + 12) 0 0) 22 (d + 12) 1 0) 22 (d + 12) 2 0) 17 2 3 (nI (d + 1)) = i1
    have F1 : frD ii kd i1 kd := by
      rw [← hi1]
      exact (frD_up (by omega)).tr ((frD_up (by omega)).tr ((frD_up (by omega)).tr (frD_up (by omega))))
    have T1 := TF_fr T F1
    have a1 : i1 17 2 3 = nI (d + 1) := by rw [← hi1, up3_rd]
    have a2 : ∀ k, k ≠ 3 → i1 17 2 k = ii 17 2 k := fun k h => by rw [← hi1, up3_pl h, up3_tag (by decide), up3_tag (by decide), up3_tag (by decide)]
    have a3 : ∀ x, x ≠ d + 12 → i1 22 x = ii 22 x := fun x h => by
      funext t
      rw [← hi1, up3_tag (by decide), up3_num h, up3_num h, up3_num h]
    have at1 : ∀ a, a ≠ 17 → a ≠ 22 → i1 a = ii a := fun a h1 h2 => by rw [← hi1, up3_tag h1, up3_tag h2, up3_tag h2, up3_tag h2]
    have a4 : i1 22 (d + 12) 0 = nI 0 := by
      rw [← hi1, up3_tag (by decide), up3_pl (by decide), up3_pl (by decide), up3_rd]
      rfl
    have a5 : i1 22 (d + 12) 1 = 0 := by rw [← hi1, up3_tag (by decide), up3_pl (by decide), up3_rd]
    have a6 : i1 22 (d + 12) 2 = 0 := by rw [← hi1, up3_tag (by decide), up3_rd]
    have start : ∀ (r : Option MV) (h' : MH), GB l X 7 0 0 66 (30, [some (vR 7 0), some (vR 17 2), some (vR 22 (d + 12))], [], (cS z β i1 (nxt z β s), jj, mj_rk kd, 108)) r h' → SK l X 7 66 [vR 7 0, vR 17 2] (cS z β ii s, jj, mj_rk kd, 108) r h' := fun r h' G => by
      have ha := k_addHead2 (l := l) (X := X) (ii := cS z β ii s) (jj := jj) (kd := kd) hd 0 (by rw [cS_tag (by decide), c3])
      rw [show up3 (up3 (up3 (up3 (cS z β ii s) 22 (d + 12) 0 0) 22 (d + 12) 1 0) 22 (d + 12) 2 0) 17 2 3 (nI (d + 1)) = cS z β i1 s by
        unfold cS
        rw [cF_up (by decide), cF_up (by decide), cF_up (by decide), cF_up (by decide), hi1]] at ha
      refine SK.of (by decide) (by decide) rfl ?_
      refine GB.go 9999 rfl aB0 ?_
      rw [cS_tag (by decide), c3]
      refine GB.br rfl rfl (fun c4 => ?_) (fun c4 => ?_)
      · refine GB.go 19 rfl aB0 ?_
        rw [cS_tag (by decide), c3]
        refine GB.go 20 rfl (aB1 (mn_vin (show d < 6 by omega) (by decide)) aB0) ?_
        rw [nI_clamp (show d < 2 ^ 31 by omega)]
        refine GB.go 9999 rfl aB0 ?_
        refine GB.cal rfl rfl (by decide) (ha) ?_
        refine GB.go 9999 rfl aB0 ?_
        refine GB.cal rfl rfl (by decide) (k_nx T1 hs) ?_
        exact G
      · exact absurd (nI_lt hd (by decide)) c4
    obtain ⟨j1, hj, hf, W1⟩ := ci_head1 (l := l) (X := X) (jj := jj) (kd := kd) (d := d) T1 n1
    cases q1 : (prh z β 9 4095 0 (nxt z β s)).1 with
    | false =>
      rw [show headI z β s m n d = (false, (prh z β 9 4095 0 (nxt z β s)).2.1, m, n, d) by unfold headI; rw [if_neg e6, q1]; rfl]
      refine ⟨i1, kd, start _ _ ?_, F1, fun q => by cases q⟩
      exact W1 _ _ (fun q => by rw [q1] at q; cases q) (fun _ => ⟨rfl, rfl⟩)
    | true =>
      have hf := hf q1 a4
      have pv := prh_v (z := z) (β := β) (w := 9) (m := 4095) (so := 0) (by decide) q1
      have Fj : frD i1 kd j1 kd := by
        rcases hj with e | ⟨v, e⟩
        · rw [e]
          exact frD.rf
        · rw [e]
          exact frD_up (by omega)
      have jt : ∀ a, a ≠ 22 → j1 a = i1 a := fun a h => by
        rcases hj with e | ⟨v, e⟩
        · rw [e]
        · rw [e, up3_tag h]
      have jn : ∀ x, x ≠ d + 12 → j1 22 x = i1 22 x := fun x h => by
        rcases hj with e | ⟨v, e⟩
        · rw [e]
        · rw [e]
          funext t
          exact up3_num h
      have jp : ∀ c, c ≠ 0 → j1 22 (d + 12) c = i1 22 (d + 12) c := fun c h => by
        rcases hj with e | ⟨v, e⟩
        · rw [e]
        · rw [e, up3_pl h]
      have Tj := TF_fr T1 Fj
      by_cases h10 : mtk z β (prh z β 9 4095 0 (nxt z β s)).2.1 = 10
      · rw [show headI z β s m n d = (true, nxt z β (prh z β 9 4095 0 (nxt z β s)).2.1, rowD m d (nI (prh z β 9 4095 0 (nxt z β s)).2.2) 1, n, d + 1) by unfold headI; rw [if_neg e6, q1, cond_true, if_pos h10]]
        have Fu : frD j1 kd (up3 j1 22 (d + 12) 1 1) kd := frD_up (by omega)
        have Tu := TF_fr Tj Fu
        refine ⟨up3 j1 22 (d + 12) 1 1, kd, start _ _ (W1 _ _ (fun _ => ?_) (fun q => by rw [q1] at q; cases q)), F1.tr (Fj.tr Fu), fun _ => ?_⟩
        · refine GB.go 9999 rfl aB0 ?_
          refine GB.cal rfl rfl (by decide) (k_isWord Tj 10 _ (by decide) p1.1) ?_
          rw [decide_eq_true h10]
          refine GB.br rfl rfl (fun c4 => ?_) (fun c4 => ?_)
          · exact absurd c4 (by decide)
          · refine GB.go 81 rfl aB0 ?_
            rw [cF_up (by decide)]
            refine GB.go 9999 rfl aB0 ?_
            refine GB.cal rfl rfl (by decide) (k_nx Tu p1.1) ?_
            refine GB.go 9999 rfl aB0 ?_
            exact GB.ret rfl rfl (aB1 (by decide) aB0)
        · refine DR_head D hd pv (b := 1) (by decide) ?_ (fun k h => ?_) ?_ ?_ (fun x h => ?_) ?_ up3_rd ?_
          · rw [up3_tag (by decide), jt 17 (by decide), a1]
          · rw [up3_tag (by decide), jt 17 (by decide), a2 k h]
          · rw [up3_tag (by decide), jt 20 (by decide), at1 20 (by decide) (by decide)]
          · rw [up3_tag (by decide), jt 21 (by decide), at1 21 (by decide) (by decide)]
          · rw [← a3 x h, ← jn x h]
            funext t
            exact up3_num h
          · rw [up3_pl (by decide), hf]
          · rw [up3_pl (by decide), jp 2 (by decide), a6]
      · rw [show headI z β s m n d = (true, (prh z β 9 4095 0 (nxt z β s)).2.1, rowD m d (nI (prh z β 9 4095 0 (nxt z β s)).2.2) 0, n, d + 1) by unfold headI; rw [if_neg e6, q1, cond_true, if_neg h10]]
        refine ⟨j1, kd, start _ _ (W1 _ _ (fun _ => ?_) (fun q => by rw [q1] at q; cases q)), F1.tr Fj, fun _ => ?_⟩
        · refine GB.go 9999 rfl aB0 ?_
          refine GB.cal rfl rfl (by decide) (k_isWord Tj 10 _ (by decide) p1.1) ?_
          rw [decide_eq_false h10]
          refine GB.br rfl rfl (fun c4 => ?_) (fun c4 => ?_)
          · refine GB.go 9999 rfl aB0 ?_
            exact GB.ret rfl rfl (aB1 (by decide) aB0)
          · exact absurd rfl c4
        · refine DR_head D hd pv (b := 0) (by decide) ?_ (fun k h => ?_) ?_ ?_ (fun x h => ?_) hf ?_ ?_
          · rw [jt 17 (by decide), a1]
          · rw [jt 17 (by decide), a2 k h]
          · rw [jt 20 (by decide), at1 20 (by decide) (by decide)]
          · rw [jt 21 (by decide), at1 21 (by decide) (by decide)]
          · rw [jn x h, a3 x h]
          · rw [jp 1 (by decide), a5]
            rfl
          · rw [jp 2 (by decide), a6]
theorem DR_moth {m : Nat → Int32} {n d b : Nat} (D : DR ii kd m n d) (hb : b ≤ 1) : DR (up3 ii 17 2 5 (nI b)) kd (rowM m (nI b)) n d := by
  unfold DR
  rw [up3_tag (show (20 : Nat) ≠ 17 by decide), up3_tag (show (21 : Nat) ≠ 17 by decide), up3_tag (show (22 : Nat) ≠ 17 by decide)]
  refine ShR_mo D (fun k hk => up3_pl (by omega)) (fun x hx h => rowM_ne h) ?_
  show bth (rowM m (nI b) 1) (up3 ii 17 2 5 (nI b) 17 2 5) 1
  unfold rowM
  rw [up3_rd, up3_rd]
  exact bth.self hb
theorem ci_kinds (T : TF ii z β) {s : Nat} (hs : s ≤ z) {r : Option MV} {h' : MH} (hat : ∀ c, c < 6 → mtk z β s = c → SK l X 7 65 [vR 7 0, vR 17 2, vR (c + 11) 0] (cS z β ii s, jj, mj_rk kd, 108) r h') (hb : ∀ v, r = some v → mtk z β s ≤ 5 → ∃ b : Bool, v = vI (bI b)) (hr : mtk z β s ≤ 5 → ∃ v, r = some v) (rest : ¬ mtk z β s ≤ 5 → GB l X 9 0 0 64 (36, [some (vR 7 0), some (vR 17 2), some (vR 6 0), some (vI (nI 6))], [], (cS z β ii s, jj, mj_rk kd, 108)) r h') : ∀ N k, k + N = 6 → (∀ j, j < k → mtk z β s ≠ j) → GB l X 9 0 0 64 (2, [some (vR 7 0), some (vR 17 2), some (vR 6 0), some (vI (nI k))], [], (cS z β ii s, jj, mj_rk kd, 108)) r h'
  | 0, k, e, hk => by
    rw [show k = 6 by omega]
    refine GB.go 9999 rfl aB0 ?_
    refine GB.br rfl rfl (fun c => ?_) (fun c => ?_)
    · exact rest (fun q => hk (mtk z β s) (by omega) rfl)
    · exact absurd (Int32.le_refl _) c
  | N + 1, k, e, hk => by
    refine GB.go 9999 rfl aB0 ?_
    refine GB.br rfl rfl (fun c => ?_) (fun c => ?_)
    · exact absurd c (nI_ge (show k < 6 by omega) (by decide))
    · refine GB.go 12 rfl (aB1 (mn_vin (show k < 6 by omega) (by decide)) aB0) ?_
      rw [nI_clamp (show k < 2 ^ 31 by omega)]
      refine GB.nam (c := k) (by omega) rfl ?_
      refine GB.cal rfl rfl (by decide) (k_isWord T k s (by omega) hs) ?_
      by_cases h : mtk z β s = k
      · rw [decide_eq_true h]
        refine GB.br rfl rfl (fun c2 => ?_) (fun c2 => ?_)
        · exact absurd c2 (by decide)
        · obtain ⟨v, rfl⟩ := hr (by omega)
          obtain ⟨b, rfl⟩ := hb v rfl (by omega)
          refine GB.go 26 rfl (aB1 (mn_vin (show k < 6 by omega) (by decide)) aB0) ?_
          rw [nI_clamp (show k < 2 ^ 31 by omega)]
          refine GB.cal rfl rfl (by decide) (hat k (by omega) h) ?_
          exact GB.ret rfl rfl (aB1 (bI_ok _) aB0)
      · rw [decide_eq_false h]
        refine GB.br rfl rfl (fun c2 => ?_) (fun c2 => ?_)
        · have ih := ci_kinds T hs hat hb hr rest N (k + 1) (by omega) (fun j hj => by
            by_cases q : j = k
            · rw [q]
              exact h
            · exact hk j (by omega))
          rw [nI_succ k] at ih
          refine GB.go 2 rfl aB0 ?_
          exact ih
        · exact absurd rfl c2
theorem ci_item (T : TF ii z β) {s n d : Nat} {m : Nat → Int32} (hs : s ≤ z) (D : DR ii kd m n d) : ∃ i2 k2, SK l X 9 64 [vR 7 0, vR 17 2, vR 6 0] (cS z β ii s, jj, mj_rk kd, 108) (some (vI (bI (itm z β s m n d).1))) (cS z β i2 (itm z β s m n d).2.1, jj, mj_rk k2, 108) ∧ frD ii kd i2 k2 ∧ ((itm z β s m n d).1 = true → DR i2 k2 (itm z β s m n d).2.2.1 (itm z β s m n d).2.2.2.1 (itm z β s m n d).2.2.2.2) := by
  have go : ∀ (b : Bool) (h' : MH), (∀ c, c < 6 → mtk z β s = c → SK l X 7 65 [vR 7 0, vR 17 2, vR (c + 11) 0] (cS z β ii s, jj, mj_rk kd, 108) (some (vI (bI b))) h') → (¬ mtk z β s ≤ 5 → GB l X 9 0 0 64 (36, [some (vR 7 0), some (vR 17 2), some (vR 6 0), some (vI (nI 6))], [], (cS z β ii s, jj, mj_rk kd, 108)) (some (vI (bI b))) h') → SK l X 9 64 [vR 7 0, vR 17 2, vR 6 0] (cS z β ii s, jj, mj_rk kd, 108) (some (vI (bI b))) h' := fun b h' g1 g2 => by
    have L := ci_kinds T hs g1 (fun v hv _ => ⟨b, (Option.some.inj hv).symm⟩) (fun _ => ⟨_, rfl⟩) g2 6 0 rfl (fun j hj => absurd hj (Nat.not_lt_zero _))
    refine SK.of (by decide) (by decide) rfl ?_
    refine GB.go 2 rfl aB0 ?_
    exact L
  by_cases h5 : mtk z β s ≤ 5
  · obtain ⟨i2, k2, G, F, hD⟩ := ci_hat (l := l) (X := X) (jj := jj) (kd := kd) (c := mtk z β s) T hs (by omega) rfl D
    rw [show itm z β s m n d = hatI z β s m n d from if_pos h5]
    refine ⟨i2, k2, go _ _ (fun c hc e => ?_) (fun q => absurd h5 q), F, hD⟩
    rw [← e]
    exact G
  · by_cases h8 : mtk z β s = 8
    · obtain ⟨i2, k2, G, F, hD⟩ := ci_head (l := l) (X := X) (jj := jj) (kd := kd) T hs D
      rw [show itm z β s m n d = headI z β s m n d from (if_neg h5).trans (if_pos h8)]
      refine ⟨i2, k2, go _ _ (fun c hc e => absurd h5 (by omega)) (fun _ => ?_), F, hD⟩
      refine GB.go 9999 rfl aB0 ?_
      refine GB.cal rfl rfl (by decide) (k_isWord T 8 s (by decide) hs) ?_
      rw [decide_eq_true h8]
      refine GB.br rfl rfl (fun c => ?_) (fun c => ?_)
      · exact absurd c (by decide)
      · refine GB.go 9999 rfl aB0 ?_
        refine GB.cal rfl rfl (by decide) (G) ?_
        exact GB.ret rfl rfl (aB1 (bI_ok _) aB0)
    · by_cases h11 : mtk z β s = 11
      · rw [show itm z β s m n d = (true, nxt z β s, rowM m 1, n, d) from (if_neg h5).trans ((if_neg h8).trans (if_pos h11))]
        have Fu : frD ii kd (up3 ii 17 2 5 1) kd := frD_up (by omega)
        refine ⟨up3 ii 17 2 5 1, kd, go true _ (fun c hc e => absurd h5 (by omega)) (fun _ => ?_), Fu, fun _ => DR_moth (b := 1) D (by decide)⟩
        refine GB.go 9999 rfl aB0 ?_
        refine GB.cal rfl rfl (by decide) (k_isWord T 8 s (by decide) hs) ?_
        rw [decide_eq_false h8]
        refine GB.br rfl rfl (fun c => ?_) (fun c => ?_)
        · refine GB.go 9999 rfl aB0 ?_
          refine GB.cal rfl rfl (by decide) (k_isWord T 11 s (by decide) hs) ?_
          rw [decide_eq_true h11]
          refine GB.br rfl rfl (fun c2 => ?_) (fun c2 => ?_)
          · exact absurd c2 (by decide)
          · refine GB.go 65 rfl aB0 ?_
            rw [cF_up (by decide)]
            refine GB.go 9999 rfl aB0 ?_
            refine GB.cal rfl rfl (by decide) (k_nx (TF_fr T Fu) hs) ?_
            refine GB.go 9999 rfl aB0 ?_
            exact GB.ret rfl rfl (aB1 (by decide) aB0)
        · exact absurd rfl c
      · by_cases h12 : mtk z β s = 12
        · rw [show itm z β s m n d = (true, nxt z β s, rowM m 0, n, d) from (if_neg h5).trans ((if_neg h8).trans ((if_neg h11).trans (if_pos h12)))]
          have Fu : frD ii kd (up3 ii 17 2 5 0) kd := frD_up (by omega)
          refine ⟨up3 ii 17 2 5 0, kd, go true _ (fun c hc e => absurd h5 (by omega)) (fun _ => ?_), Fu, fun _ => DR_moth (b := 0) D (by decide)⟩
          refine GB.go 9999 rfl aB0 ?_
          refine GB.cal rfl rfl (by decide) (k_isWord T 8 s (by decide) hs) ?_
          rw [decide_eq_false h8]
          refine GB.br rfl rfl (fun c => ?_) (fun c => ?_)
          · refine GB.go 9999 rfl aB0 ?_
            refine GB.cal rfl rfl (by decide) (k_isWord T 11 s (by decide) hs) ?_
            rw [decide_eq_false h11]
            refine GB.br rfl rfl (fun c2 => ?_) (fun c2 => ?_)
            · refine GB.go 9999 rfl aB0 ?_
              refine GB.cal rfl rfl (by decide) (k_isWord T 12 s (by decide) hs) ?_
              rw [decide_eq_true h12]
              refine GB.br rfl rfl (fun c3 => ?_) (fun c3 => ?_)
              · exact absurd c3 (by decide)
              · refine GB.go 82 rfl aB0 ?_
                rw [cF_up (by decide)]
                refine GB.go 9999 rfl aB0 ?_
                refine GB.cal rfl rfl (by decide) (k_nx (TF_fr T Fu) hs) ?_
                refine GB.go 9999 rfl aB0 ?_
                exact GB.ret rfl rfl (aB1 (by decide) aB0)
            · exact absurd rfl c2
          · exact absurd rfl c
        · rw [show itm z β s m n d = (false, s, m, n, d) from (if_neg h5).trans ((if_neg h8).trans ((if_neg h11).trans (if_neg h12)))]
          refine ⟨ii, kd, go false _ (fun c hc e => absurd h5 (by omega)) (fun _ => ?_), frD.rf, fun q => by cases q⟩
          refine GB.go 9999 rfl aB0 ?_
          refine GB.cal rfl rfl (by decide) (k_isWord T 8 s (by decide) hs) ?_
          rw [decide_eq_false h8]
          refine GB.br rfl rfl (fun c => ?_) (fun c => ?_)
          · refine GB.go 9999 rfl aB0 ?_
            refine GB.cal rfl rfl (by decide) (k_isWord T 11 s (by decide) hs) ?_
            rw [decide_eq_false h11]
            refine GB.br rfl rfl (fun c2 => ?_) (fun c2 => ?_)
            · refine GB.go 9999 rfl aB0 ?_
              refine GB.cal rfl rfl (by decide) (k_isWord T 12 s (by decide) hs) ?_
              rw [decide_eq_false h12]
              refine GB.br rfl rfl (fun c3 => ?_) (fun c3 => ?_)
              · refine GB.go 9999 rfl aB0 ?_
                exact GB.ret rfl rfl (aB1 (by decide) aB0)
              · exact absurd rfl c3
            · exact absurd rfl c2
          · exact absurd rfl c
end CI
