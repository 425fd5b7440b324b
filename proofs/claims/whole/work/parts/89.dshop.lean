/-! THE TEXT: the class's shop; both sides -/
section CI
variable {l : Launch} {X : FX} {jj : Nat → Nat → Nat → Int64} {z : Nat} {β : Nat → Nat}
theorem ci_items : ∀ (f e : Nat) (ii : Nat → Nat → Nat → Int32) (kd : Nat → Nat) (m : Nat → Int32) (n d i : Nat) (t0 s0 : Int32), TF ii z β → z < skp z β e + f + 1 → e ≤ z → 2 * i ≤ e → DR ii kd m n d → ∃ i2 k2, GB l X 11 0 0 63 (7, [some (vR 7 0), some (vR 17 2), some (vR 6 0), some (vI (nI i))], [], (cF ii t0 s0 (nI e), jj, mj_rk kd, 108)) (some (vI (anT (its z β (f + 1) (skp z β e) m n d i).1 (its z β (f + 1) (skp z β e) m n d i).2.1 (its z β (f + 1) (skp z β e) m n d i).2.2.2.2.2))) (cS z β i2 (its z β (f + 1) (skp z β e) m n d i).2.1, jj, mj_rk k2, 108) ∧ frD ii kd i2 k2 ∧ ((its z β (f + 1) (skp z β e) m n d i).1 = true → DR i2 k2 (its z β (f + 1) (skp z β e) m n d i).2.2.1 (its z β (f + 1) (skp z β e) m n d i).2.2.2.1 (its z β (f + 1) (skp z β e) m n d i).2.2.2.2.1)
  | f, e, ii, kd, m, n, d, i, t0, s0, T, hf, he, hi, D => by
    have z120 := T.2.1
    have hs : skp z β e ≤ z := skF_le z e he
    have hse : e ≤ skp z β e := skF_ge z e
    have hN := k_next (l := l) (X := X) (jj := jj) (kd := kd) (t0 := t0) (s0 := s0) T e he
    generalize skp z β e = s at *
    have hl := itm_le (β := β) (m := m) (n := n) (d := d) hs
    have hg := itm_gt (β := β) (m := m) (n := n) (d := d) hs
    have h5 := tkc_lt5 (z := z) (β := β) (s := (itm z β s m n d).2.1)
    obtain ⟨i1, k1, hI, F1, hD⟩ := ci_item (l := l) (X := X) (jj := jj) (kd := kd) T hs D
    unfold its
    cases ok : (itm z β s m n d).1 with
    | false =>
      rw [cond_false]
      refine ⟨i1, k1, ?_, F1, fun q => by cases q⟩
      rw [ok] at hI
      refine GB.go 9999 rfl aB0 ?_
      refine GB.br rfl rfl (fun c => ?_) (fun c => ?_)
      · exact absurd c (nI_ge (show i < 120 by omega) (by decide))
      · refine GB.go 9999 rfl aB0 ?_
        refine GB.cal rfl rfl (by decide) (hN) ?_
        refine GB.go 9999 rfl aB0 ?_
        refine GB.cal rfl rfl (by decide) (hI) ?_
        refine GB.br rfl rfl (fun c2 => ?_) (fun c2 => ?_)
        · refine GB.go 31 rfl aB0 ?_
          rw [show cS z β i1 (itm z β s m n d).2.1 7 0 3 = nI (itm z β s m n d).2.1 from cF_3]
          refine GB.go 9999 rfl aB0 ?_
          exact GB.ret rfl rfl aB0
        · exact absurd rfl c2
    | true =>
      rw [cond_true]
      have hg := hg ok
      rw [ok] at hI
      have head : ∀ (r : Option MV) (h' : MH), GB l X 11 0 0 63 (36, [some (vR 7 0), some (vR 17 2), some (vR 6 0), some (vI (nI (i + 1)))], [], (cS z β i1 (itm z β s m n d).2.1, jj, mj_rk k1, 108)) r h' → GB l X 11 0 0 63 (7, [some (vR 7 0), some (vR 17 2), some (vR 6 0), some (vI (nI i))], [], (cF ii t0 s0 (nI e), jj, mj_rk kd, 108)) r h' := fun r h' G => by
        refine GB.go 9999 rfl aB0 ?_
        refine GB.br rfl rfl (fun c => ?_) (fun c => ?_)
        · exact absurd c (nI_ge (show i < 120 by omega) (by decide))
        · refine GB.go 9999 rfl aB0 ?_
          refine GB.cal rfl rfl (by decide) (hN) ?_
          refine GB.go 9999 rfl aB0 ?_
          refine GB.cal rfl rfl (by decide) (hI) ?_
          refine GB.br rfl rfl (fun c2 => ?_) (fun c2 => ?_)
          · exact absurd c2 (by decide)
          · refine GB.go 36 rfl aB0 ?_
            rw [nI_1]
            exact G
      by_cases h21 : mtk z β (itm z β s m n d).2.1 = 21
      · rw [if_pos h21]
        have e3 : tkc z β (itm z β s m n d).2.1 = 3 := (mt_c (by omega)).mp h21
        have n2 := nxt_gt (z := z) (β := β) (s := (itm z β s m n d).2.1) (by rw [h21]; decide)
        have tg := tke_gt (z := z) (β := β) (s := (itm z β s m n d).2.1) (by rw [e3]; decide)
        match f, hf with
        | 0, hf => exact absurd hl.1 (by omega)
        | f + 1, hf =>
          obtain ⟨i2, k2, G, F2, hD2⟩ := ci_items f (tke z β (itm z β s m n d).2.1) i1 k1 (itm z β s m n d).2.2.1 (itm z β s m n d).2.2.2.1 (itm z β s m n d).2.2.2.2 (i + 1) (nI (tkc z β (itm z β s m n d).2.1)) (nI (itm z β s m n d).2.1) (TF_fr T F1) (by have : nxt z β (itm z β s m n d).2.1 = skp z β (tke z β (itm z β s m n d).2.1) := rfl; omega) (tke_le hl.1) (by omega) (hD ok)
          refine ⟨i2, k2, head _ _ ?_, F1.tr F2, hD2⟩
          refine GB.go 9999 rfl aB0 ?_
          rw [show cS z β i1 (itm z β s m n d).2.1 7 0 2 = nI (tkc z β (itm z β s m n d).2.1) from cF_2, e3]
          refine GB.br rfl rfl (fun c => ?_) (fun c => ?_)
          · exact absurd c (by decide)
          · refine GB.go 9999 rfl aB0 ?_
            rw [show cS z β i1 (itm z β s m n d).2.1 7 0 2 = nI (tkc z β (itm z β s m n d).2.1) from cF_2, e3]
            refine GB.br rfl rfl (fun c2 => ?_) (fun c2 => ?_)
            · exact G
            · exact absurd rfl c2
      · rw [if_neg h21]
        have n3 : ¬ tkc z β (itm z β s m n d).2.1 = 3 := fun q => h21 ((mt_c (by omega)).mpr q)
        by_cases h22 : mtk z β (itm z β s m n d).2.1 = 22
        · rw [if_pos h22]
          have e4 : tkc z β (itm z β s m n d).2.1 = 4 := (mt_c (by omega)).mp h22
          refine ⟨i1, k1, head _ _ ?_, F1, fun _ => hD ok⟩
          refine GB.go 9999 rfl aB0 ?_
          rw [show cS z β i1 (itm z β s m n d).2.1 7 0 2 = nI (tkc z β (itm z β s m n d).2.1) from cF_2, e4]
          refine GB.br rfl rfl (fun c => ?_) (fun c => ?_)
          · refine GB.go 9999 rfl aB0 ?_
            exact GB.ret rfl rfl aB0
          · exact absurd rfl c
        · rw [if_neg h22]
          have n4 : ¬ tkc z β (itm z β s m n d).2.1 = 4 := fun q => h22 ((mt_c (by omega)).mpr q)
          refine ⟨i1, k1, head _ _ ?_, F1, fun q => by cases q⟩
          refine GB.go 9999 rfl aB0 ?_
          rw [show cS z β i1 (itm z β s m n d).2.1 7 0 2 = nI (tkc z β (itm z β s m n d).2.1) from cF_2]
          refine GB.br rfl rfl (fun c => ?_) (fun c => ?_)
          · exact absurd ((nI_eq (b := 4) (by omega) (by decide)).mp c) n4
          · refine GB.go 9999 rfl aB0 ?_
            rw [show cS z β i1 (itm z β s m n d).2.1 7 0 2 = nI (tkc z β (itm z β s m n d).2.1) from cF_2]
            refine GB.br rfl rfl (fun c2 => ?_) (fun c2 => ?_)
            · exact absurd ((nI_eq (b := 3) (by omega) (by decide)).mp c2) n3
            · refine GB.go 59 rfl aB0 ?_
              rw [show cS z β i1 (itm z β s m n d).2.1 7 0 3 = nI (itm z β s m n d).2.1 from cF_3]
              refine GB.go 9999 rfl aB0 ?_
              exact GB.ret rfl rfl aB0
theorem c_items {ii : Nat → Nat → Nat → Int32} {kd : Nat → Nat} {m : Nat → Int32} {n d : Nat} (T : TF ii z β) (D : DR ii kd m n d) : ∃ i2 k2, SK l X 11 63 [vR 7 0, vR 17 2, vR 6 0] (ii, jj, mj_rk kd, 108) (some (vI (anT (its z β (z + 1) (skp z β 0) m n d 0).1 (its z β (z + 1) (skp z β 0) m n d 0).2.1 (its z β (z + 1) (skp z β 0) m n d 0).2.2.2.2.2))) (cS z β i2 (its z β (z + 1) (skp z β 0) m n d 0).2.1, jj, mj_rk k2, 108) ∧ frD ii kd i2 k2 ∧ ((its z β (z + 1) (skp z β 0) m n d 0).1 = true → DR i2 k2 (its z β (z + 1) (skp z β 0) m n d 0).2.2.1 (its z β (z + 1) (skp z β 0) m n d 0).2.2.2.1 (its z β (z + 1) (skp z β 0) m n d 0).2.2.2.2.1) := by
  obtain ⟨i2, k2, G, F, hD⟩ := ci_items (l := l) (X := X) (jj := jj) z 0 ii kd m n d 0 (ii 7 0 2) (ii 7 0 3) T (by omega) (Nat.zero_le _) (Nat.zero_le _) D
  refine ⟨i2, k2, ?_, F, hD⟩
  refine SK.of (by decide) (by decide) rfl ?_
  refine GB.go 5 rfl aB0 ?_
  rw [show up3 ii 7 0 4 0 = cF ii (ii 7 0 2) (ii 7 0 3) (nI 0) by
    have q := cF_id (ii := ii)
    rw [← cF_u4 (e := ii 7 0 4), q]
    rfl]
  refine GB.go 7 rfl aB0 ?_
  exact G
/-- an answer of a good text is a small number -/
theorem its_i {m : Nat → Int32} : ∀ (f s n d i : Nat) (m : Nat → Int32), (its z β f s m n d i).2.2.2.2.2 ≤ i + f
  | 0, _, _, _, i, _ => Nat.le_refl _
  | f + 1, s, n, d, i, m => by
    unfold its
    cases (itm z β s m n d).1
    · show i + 1 ≤ i + (f + 1)
      omega
    · rw [cond_true]
      split
      · have := its_i (m := m) f (nxt z β (itm z β s m n d).2.1) (itm z β s m n d).2.2.2.1 (itm z β s m n d).2.2.2.2 (i + 1) (itm z β s m n d).2.2.1
        omega
      · split
        · show i + 1 ≤ i + (f + 1)
          omega
        · show i + 1 ≤ i + (f + 1)
          omega
theorem its_s : ∀ (f s n d i : Nat) (m : Nat → Int32), s ≤ z → (its z β f s m n d i).2.1 ≤ z
  | 0, _, _, _, _, _, h => h
  | f + 1, s, n, d, i, m, h => by
    have hl := itm_le (β := β) (m := m) (n := n) (d := d) h
    unfold its
    cases (itm z β s m n d).1
    · exact hl.1
    · rw [cond_true]
      split
      · exact its_s f _ _ _ _ _ (nxt_le hl.1)
      · split
        · exact hl.1
        · exact hl.1
end CI
