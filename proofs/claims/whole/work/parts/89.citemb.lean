/-! THE TEXT: the class's items, one and all -/
section CI
variable {l : Launch} {X : FX} {ii : Nat → Nat → Nat → Int32} {jj : Nat → Nat → Nat → Int64} {kd : Nat → Nat} {z : Nat} {β : Nat → Nat}
theorem ci_hat (T : TF ii z β) {s n d c : Nat} {m : Nat → Int32} (hs : s ≤ z) (hc : c < 6) (hm : mtk z β s = c) (D : DR ii kd m n d) : ∃ i2 k2, SK l X 7 65 [vR 7 0, vR 17 2, vR (c + 11) 0] (cS z β ii s, jj, mj_rk kd, 108) (some (vI (bI (hatI z β s m n d).1))) (cS z β i2 (hatI z β s m n d).2.1, jj, mj_rk k2, 108) ∧ frD ii kd i2 k2 ∧ ((hatI z β s m n d).1 = true → DR i2 k2 (hatI z β s m n d).2.2.1 (hatI z β s m n d).2.2.2.1 (hatI z β s m n d).2.2.2.2) := by
  have n8 := D.n8
  have n1 := nxt_le (β := β) hs
  have c2 : ii 17 2 2 = nI n := D.c2
  have p1 := prh_le (β := β) (w := 6) (m := 4095) (so := 0) n1
  by_cases e8 : n = 8
  · rw [show hatI z β s m n d = (false, s, m, n, d) from if_pos e8]
    refine ⟨ii, kd, ?_, frD.rf, fun q => by cases q⟩
    refine SK.of (by decide) (by decide) rfl ?_
    refine GB.go 9999 rfl aB0 ?_
    rw [cS_tag (by decide), c2]
    refine GB.br rfl rfl (fun c3 => ?_) (fun c3 => ?_)
    · exact absurd c3 (nI_nlt (show 8 ≤ n by omega) (by omega))
    · refine GB.go 9999 rfl aB0 ?_
      exact GB.ret rfl rfl (aB1 (by decide) aB0)
  · have hn : n < 8 := by omega
    generalize hi1 : up3 (wA (up3 ii 20 (n + 16) 2 5) 21 (n + 16) 12 (fun _ => 0)) 17 2 2 (nI (n + 1)) = i1
    have F1 : frD ii kd i1 (kU kd (n + 16) c) := by
      rw [← hi1]
      exact (frD_k (by omega)).tr ((frD_up (by omega)).tr ((frD_wA (by omega)).tr (frD_up (by omega))))
    have T1 := TF_fr T F1
    have a1 : i1 17 2 2 = nI (n + 1) := by rw [← hi1, up3_rd]
    have a2 : ∀ k, k ≠ 2 → i1 17 2 k = ii 17 2 k := fun k h => by rw [← hi1, up3_pl h, wA_tg (by decide), up3_tag (by decide)]
    have a3 : ∀ x, x ≠ n + 16 → i1 20 x = ii 20 x ∧ i1 21 x = ii 21 x := fun x h => by
      rw [← hi1, up3_tag (show (20 : Nat) ≠ 17 by decide), up3_tag (show (21 : Nat) ≠ 17 by decide)]
      constructor
      · funext t
        rw [wA_tg (by decide), up3_num h]
      · funext t
        rw [wA_ne (fun q => h q.2), up3_tag (by decide)]
    have a4 : i1 20 (n + 16) 2 = nI 5 := by
      rw [← hi1, up3_tag (by decide), wA_tg (by decide), up3_rd]
      rfl
    have a5 : ∀ t, t < 12 → i1 21 (n + 16) t = 0 := fun t ht => by rw [← hi1, up3_tag (by decide), wA_lt ht]
    have a6 : i1 22 = ii 22 := by rw [← hi1, up3_tag (by decide), wA_tg (by decide), up3_tag (by decide)]
    have start : ∀ (r : Option MV) (h' : MH), GB l X 7 0 0 65 (30, [some (vR 7 0), some (vR 17 2), some (vR (c + 11) 0), some (vR 20 (n + 16))], [], (cS z β i1 (nxt z β s), jj, mj_rk (kU kd (n + 16) c), 108)) r h' → SK l X 7 65 [vR 7 0, vR 17 2, vR (c + 11) 0] (cS z β ii s, jj, mj_rk kd, 108) r h' := fun r h' G => by
      have ha := k_addHat2 (l := l) (X := X) (ii := cS z β ii s) (jj := jj) (kd := kd) hn hc (by rw [cS_tag (by decide), c2])
      rw [show up3 (wA (up3 (cS z β ii s) 20 (n + 16) 2 5) 21 (n + 16) 12 (fun _ => 0)) 17 2 2 (nI (n + 1)) = cS z β i1 s by
        unfold cS
        rw [cF_up (by decide), cF_wA (by decide), cF_up (by decide), hi1]] at ha
      refine SK.of (by decide) (by decide) rfl ?_
      refine GB.go 9999 rfl aB0 ?_
      rw [cS_tag (by decide), c2]
      refine GB.br rfl rfl (fun c3 => ?_) (fun c3 => ?_)
      · refine GB.go 19 rfl aB0 ?_
        rw [cS_tag (by decide), c2]
        refine GB.go 20 rfl (aB1 (mn_vin (show n < 8 by omega) (by decide)) aB0) ?_
        rw [nI_clamp (show n < 2 ^ 31 by omega)]
        refine GB.go 9999 rfl aB0 ?_
        refine GB.cal rfl rfl (by decide) (ha) ?_
        refine GB.go 9999 rfl aB0 ?_
        refine GB.cal rfl rfl (by decide) (k_nx T1 hs) ?_
        exact G
      · exact absurd (nI_lt hn (by decide)) c3
    obtain ⟨j1, hj, hf, W1⟩ := ci_hat1 (l := l) (X := X) (jj := jj) (kd := kU kd (n + 16) c) (n := n) (c := c) T1 n1
    cases q1 : (prh z β 6 4095 0 (nxt z β s)).1 with
    | false =>
      rw [show hatI z β s m n d = (false, (prh z β 6 4095 0 (nxt z β s)).2.1, m, n, d) by unfold hatI; rw [if_neg e8, q1]; rfl]
      refine ⟨i1, kU kd (n + 16) c, start _ _ ?_, F1, fun q => by cases q⟩
      exact W1 _ _ (fun q => by rw [q1] at q; cases q) (fun _ => ⟨rfl, rfl⟩)
    | true =>
      have hf := hf q1 a5
      have Fj : frD i1 (kU kd (n + 16) c) j1 (kU kd (n + 16) c) := by
        rcases hj with e | ⟨F, e⟩
        · rw [e]
          exact frD.rf
        · rw [e]
          exact frD_wA (by omega)
      have jt : ∀ a, a ≠ 21 → j1 a = i1 a := fun a h => by
        rcases hj with e | ⟨F, e⟩
        · rw [e]
        · rw [e, wA_tg h]
      have jn : ∀ x, x ≠ n + 16 → j1 21 x = i1 21 x := fun x h => by
        rcases hj with e | ⟨F, e⟩
        · rw [e]
        · rw [e]
          funext t
          exact wA_ne (fun q => h q.2)
      obtain ⟨i2, G2, hv, hp⟩ := ci_hat2 (l := l) (X := X) (jj := jj) (kd := kU kd (n + 16) c) (n := n) (c := c) (TF_fr T1 Fj) p1.1
      have F2' : frD j1 (kU kd (n + 16) c) i2 (kU kd (n + 16) c) := by
        rcases hv with e | ⟨v, e⟩
        · rw [e]
          exact frD.rf
        · rw [e]
          exact frD_up (by omega)
      have F2 := F1.tr (Fj.tr F2')
      have it : ∀ a, a ≠ 20 → i2 a = j1 a := fun a h => by
        rcases hv with e | ⟨v, e⟩
        · rw [e]
        · rw [e, up3_tag h]
      have inn : ∀ x, x ≠ n + 16 → i2 20 x = j1 20 x := fun x h => by
        rcases hv with e | ⟨v, e⟩
        · rw [e]
        · rw [e]
          funext t
          exact up3_num h
      have G := W1 _ _ (fun _ => G2) (fun q => by rw [q1] at q; cases q)
      cases q2 : (prh z β 7 99 5 (prh z β 6 4095 0 (nxt z β s)).2.1).1 with
      | false =>
        rw [show hatI z β s m n d = (false, (prh z β 7 99 5 (prh z β 6 4095 0 (nxt z β s)).2.1).2.1, m, n, d) by unfold hatI; rw [if_neg e8, q1, q2]; rfl]
        rw [q2] at G
        exact ⟨i2, _, start _ _ G, F2, fun q => by cases q⟩
      | true =>
        rw [show hatI z β s m n d = (true, (prh z β 7 99 5 (prh z β 6 4095 0 (nxt z β s)).2.1).2.1, rowH m n (nI (mtk z β s)) (nI (prh z β 7 99 5 (prh z β 6 4095 0 (nxt z β s)).2.1).2.2) (nI (prh z β 6 4095 0 (nxt z β s)).2.2), n + 1, d) by unfold hatI; rw [if_neg e8, q1, q2]; rfl]
        have pv2 := prh_v (z := z) (β := β) (w := 7) (m := 99) (so := 5) (by decide) q2
        rw [q2] at G
        rw [hm]
        refine ⟨i2, _, start _ _ G, F2, fun _ => ?_⟩
        refine DR_hat D hn hc pv2 ?_ (fun k h => ?_) (fun x h => ⟨?_, ?_, kU_ne h⟩) ?_ kU_at (hp q2 ?_) (fun t ht => ?_)
        · rw [it 17 (by decide), jt 17 (by decide), a1]
        · rw [it 17 (by decide), jt 17 (by decide), a2 k h]
        · rw [inn x h, jt 20 (by decide), (a3 x h).1]
        · rw [it 21 (by decide), jn x h, (a3 x h).2]
        · rw [it 22 (by decide), jt 22 (by decide), a6]
        · rw [jt 20 (by decide), a4]
        · rw [it 21 (by decide), hf t ht]
end CI
