/-! THE TEXT: shop, both sides -/
section TS
variable {l : Launch} {X : FX} {ii iC : Nat → Nat → Nat → Int32} {jj : Nat → Nat → Nat → Int64} {kd kC : Nat → Nat} {z : Nat} {β : Nat → Nat}
theorem shop_fin (R : Rep ii jj kd) {n d : Nat} (hcn : cnR (ii 26 0) n d) (TMm : TM ii z β) (hc : SK l X 13 104 [vR 5 0] (ii, jj, mj_rk kd, 108) (some (vI (anT (its z β (z + 1) (skp z β 0) (ii 26 0) n d 0).1 (its z β (z + 1) (skp z β 0) (ii 26 0) n d 0).2.1 (its z β (z + 1) (skp z β 0) (ii 26 0) n d 0).2.2.2.2.2))) (iC, jj, mj_rk kC, 108)) (f0 : ∀ a, a ≠ 7 → a ≠ 17 → a ≠ 20 → a ≠ 21 → a ≠ 22 → iC a = ii a) (f7 : iC 7 0 1 = 0) (f17 : ∀ c, iC 17 1 c = ii 17 1 c) (fk : ∀ x, 8 ≤ x → x < 16 → iC 20 x = ii 20 x ∧ iC 21 x = ii 21 x ∧ kC x = kd x) (fd : ∀ x, 6 ≤ x → x < 12 → iC 22 x = ii 22 x) (fS : ∃ n' d', ShR (iC 17 0) (iC 20) (iC 21) (iC 22) kC 0 0 (fun k => cond (its z β (z + 1) (skp z β 0) (ii 26 0) n d 0).1 ((its z β (z + 1) (skp z β 0) (ii 26 0) n d 0).2.2.1 k) (ii 26 0 k)) n' d') : Two l X 104 203 [] ii jj kd := by
  have e26 : iC 26 = ii 26 := f0 26 (by decide) (by decide) (by decide) (by decide) (by decide)
  have TMc : TM iC z β := by
    unfold TM
    rw [f0 25 (by decide) (by decide) (by decide) (by decide) (by decide), f0 30 (by decide) (by decide) (by decide) (by decide) (by decide)]
    exact TMm
  obtain ⟨i2, hm, s1, s2, s3, s4⟩ := m_shop (l := l) (X := X) (ii := iC) (jj := jj) (kd := kC) (n := n) (d := d) TMc (by rw [e26]; exact hcn)
  rw [e26] at hm s4
  have g : ∀ a, a ≠ 7 → a ≠ 17 → a ≠ 20 → a ≠ 21 → a ≠ 22 → a ≠ 25 → a ≠ 26 → a ≠ 28 → i2 a = ii a := fun a p1 p2 p3 p4 p5 p6 p7 p8 => (s1 a p6 p7 p8).trans (f0 a p1 p2 p3 p4 p5)
  have d2 : ∀ a, a ≠ 25 → a ≠ 26 → a ≠ 28 → i2 a = iC a := s1
  obtain ⟨-, B, C, D, E, F⟩ := R
  obtain ⟨n', d', S'⟩ := fS
  refine two_of hc hm (by decide) (by decide) ⟨⟨n', d', ?_⟩, ?_, ⟨0, by decide, ?_, s2, fun k hk => absurd hk (Nat.not_lt_zero _)⟩, ?_, ?_, fun c h6 => ?_⟩ (g 1 (by decide) (by decide) (by decide) (by decide) (by decide) (by decide) (by decide) (by decide)) (f0 1 (by decide) (by decide) (by decide) (by decide) (by decide))
  · rw [d2 17 (by decide) (by decide) (by decide), d2 20 (by decide) (by decide) (by decide), d2 21 (by decide) (by decide) (by decide), d2 22 (by decide) (by decide) (by decide)]
    exact ShR_c S' (fun _ _ => rfl) (fun _ _ => rfl) (fun _ _ _ _ => rfl) (fun _ _ _ _ => rfl) (fun _ _ => rfl) s4
  · rw [g 10 (by decide) (by decide) (by decide) (by decide) (by decide) (by decide) (by decide) (by decide), g 29 (by decide) (by decide) (by decide) (by decide) (by decide) (by decide) (by decide) (by decide)]
    exact B
  · rw [d2 7 (by decide) (by decide) (by decide), f7]
    rfl
  · rw [show i2 25 0 3 = ii 25 0 3 from s3.trans (by rw [f0 25 (by decide) (by decide) (by decide) (by decide) (by decide)]), g 5 (by decide) (by decide) (by decide) (by decide) (by decide) (by decide) (by decide) (by decide), g 27 (by decide) (by decide) (by decide) (by decide) (by decide) (by decide) (by decide) (by decide), d2 17 (by decide) (by decide) (by decide), d2 20 (by decide) (by decide) (by decide), d2 21 (by decide) (by decide) (by decide), d2 22 (by decide) (by decide) (by decide)]
    exact kep_c D (fun k _ => f17 k) (fun i p1 p2 => ⟨by rw [(fk i p1 p2).1], fun t _ => by rw [(fk i p1 p2).2.1], (fk i p1 p2).2.2⟩) (fun j p1 p2 k _ => by rw [fd j p1 p2]) (fun _ _ => rfl)
  · rw [g 31 (by decide) (by decide) (by decide) (by decide) (by decide) (by decide) (by decide) (by decide), g 32 (by decide) (by decide) (by decide) (by decide) (by decide) (by decide) (by decide) (by decide), g 23 (by decide) (by decide) (by decide) (by decide) (by decide) (by decide) (by decide) (by decide)]
    exact E
  · rw [g (c + 11) (by omega) (by omega) (by omega) (by omega) (by omega) (by omega) (by omega) (by omega)]
    exact F c h6
theorem tw_shop (R : Rep ii jj kd) : Two l X 104 203 [] ii jj kd := by
  obtain ⟨n, d, S⟩ := R.1
  obtain ⟨z, hz, z1, z2, zb⟩ := R.2.2.1
  have n8 := S.n8
  have d6 := S.d6
  have hβ : ∀ k, k < z → ii 8 0 k = nI (ii 8 0 k).toNatClampNeg ∧ ii 30 0 k = nI (ii 8 0 k).toNatClampNeg ∧ (ii 8 0 k).toNatClampNeg ≤ 255 := fun k hk => by
    obtain ⟨x, hx, e1, e2⟩ := zb k hk
    rw [e2, nI_clamp (by omega)]
    exact ⟨rfl, e1, hx⟩
  have T : TF ii z (fun k => (ii 8 0 k).toNatClampNeg) := ⟨z1, hz, fun k hk => ⟨(hβ k hk).1, (hβ k hk).2.2⟩⟩
  have TMm : TM ii z (fun k => (ii 8 0 k).toNatClampNeg) := ⟨z2, hz, fun k hk => ⟨(hβ k hk).2.1, (hβ k hk).2.2⟩⟩
  have hcn : cnR (ii 26 0) n d := ⟨S.m2, S.m3, n8, d6⟩
  generalize (fun k => (ii 8 0 k).toNatClampNeg) = β at *
  have hb := k_shop20 (l := l) (X := X) (ii := ii) (jj := jj) (kd := kd) n8 d6 S.c2 S.c3 (fun k hk => S.kd6 hk)
  have q1 : ∀ a, a ≠ 17 → a ≠ 20 → a ≠ 21 → a ≠ 22 → dbI (fun k => (k + 12)) (fun k => k) (hbI (fun k => (k + 16)) (fun k => k) (cbI 2 0 ii) n) d a = ii a := fun a p1 p2 p3 p4 => sb_tag p1 p2 p3 p4
  have q2 : ∀ x c, x ≠ 2 → dbI (fun k => (k + 12)) (fun k => k) (hbI (fun k => (k + 16)) (fun k => k) (cbI 2 0 ii) n) d 17 x c = ii 17 x c := fun x c h => sb_17.trans (cbI_ne h)
  have q3 : ∀ c, 2 ≤ c → c < 6 → dbI (fun k => (k + 12)) (fun k => k) (hbI (fun k => (k + 16)) (fun k => k) (cbI 2 0 ii) n) d 17 2 c = ii 17 0 c := fun c p1 p2 => sb_17.trans (cbI_at p1 p2)
  have q4 : ∀ x, x < 16 → dbI (fun k => (k + 12)) (fun k => k) (hbI (fun k => (k + 16)) (fun k => k) (cbI 2 0 ii) n) d 20 x = ii 20 x ∧ dbI (fun k => (k + 12)) (fun k => k) (hbI (fun k => (k + 16)) (fun k => k) (cbI 2 0 ii) n) d 21 x = ii 21 x := fun x hx => sb_hne (fun k _ => by show x ≠ k + 16; omega)
  have q5 : ∀ k, k < n → dbI (fun k => (k + 12)) (fun k => k) (hbI (fun k => (k + 16)) (fun k => k) (cbI 2 0 ii) n) d 20 (k + 16) 2 = ii 20 k 2 ∧ ∀ t, t < 12 → dbI (fun k => (k + 12)) (fun k => k) (hbI (fun k => (k + 16)) (fun k => k) (cbI 2 0 ii) n) d 21 (k + 16) t = ii 21 k t := fun k hk => sb_hat (A := fun k => k + 16) (B := fun k => k) hk (fun a _ b _ e => by have : a + 16 = b + 16 := e; omega) (fun a ha b _ => by show a ≠ b + 16; omega)
  have q6 : ∀ x, x < 12 → dbI (fun k => (k + 12)) (fun k => k) (hbI (fun k => (k + 16)) (fun k => k) (cbI 2 0 ii) n) d 22 x = ii 22 x := fun x hx => sb_dne (fun k _ => by show x ≠ k + 12; omega)
  have q7 : ∀ k, k < d → ∀ c, c < 3 → dbI (fun k => (k + 12)) (fun k => k) (hbI (fun k => (k + 16)) (fun k => k) (cbI 2 0 ii) n) d 22 (k + 12) c = ii 22 k c := fun k hk c h3 => sb_hd (DA := fun k => k + 12) (DB := fun k => k) hk (fun a _ b _ e => by have : a + 12 = b + 12 := e; omega) (fun a ha b _ => by show a ≠ b + 12; omega) h3
  have q8 : ∀ x, x < 16 → hbK (fun k => (k + 16)) (fun k => k) kd n x = kd x := fun x hx => hbK_ne n (fun k _ => by show x ≠ k + 16; omega)
  have q9 : ∀ k, k < n → hbK (fun k => (k + 16)) (fun k => k) kd n (k + 16) = kd k := fun k hk => hbK_at (A := fun k => k + 16) (B := fun k => k) n hk (fun a _ b _ e => by have : a + 16 = b + 16 := e; omega) (fun a ha b _ => by show a ≠ b + 16; omega)
  generalize dbI (fun k => (k + 12)) (fun k => k) (hbI (fun k => (k + 16)) (fun k => k) (cbI 2 0 ii) n) d = i0 at *
  generalize hbK (fun k => (k + 16)) (fun k => k) kd n = k0 at *
  have T0 : TF i0 z β := by
    unfold TF
    rw [q1 7 (by decide) (by decide) (by decide) (by decide), q1 8 (by decide) (by decide) (by decide) (by decide)]
    exact T
  have D0 : DR i0 k0 (ii 26 0) n d := ShR_re (hb := 0) (db := 0) (hb' := 0) (db' := 0) S (fun k p1 p2 => q3 k p1 p2) (fun i hi => (q5 i hi).1) (fun i hi t ht => (q5 i hi).2 t ht) (fun j hj k hk => q7 j hj k hk) (fun i hi => q9 i hi) (fun _ _ => rfl)
  obtain ⟨i1, k1, hI, F1, hD⟩ := c_items (l := l) (X := X) (jj := jj) T0 D0
  have hsz := its_s (z := z) (β := β) (z + 1) (skp z β 0) n d 0 (ii 26 0) (skF_le z 0 (Nat.zero_le _))
  have hiz := its_i (z := z) (β := β) (m := ii 26 0) (z + 1) (skp z β 0) n d 0 (ii 26 0)
  have F2 : ∀ a, a ≠ 7 → a ≠ 17 → a ≠ 20 → a ≠ 21 → a ≠ 22 → up3 (cS z β i1 (its z β (z + 1) (skp z β 0) (ii 26 0) n d 0).2.1) 7 0 1 0 a = ii a := fun a p0 p1 p2 p3 p4 => by rw [up3_tag p0, cS_tag p0, F1.1 a p1 p2 p3 p4, q1 a p1 p2 p3 p4]
  have tl : ∀ a, a ≠ 7 → up3 (cS z β i1 (its z β (z + 1) (skp z β 0) (ii 26 0) n d 0).2.1) 7 0 1 0 a = i1 a := fun a p => by rw [up3_tag p, cS_tag p]
  cases ok : (its z β (z + 1) (skp z β 0) (ii 26 0) n d 0).1 with
  | false =>
    rw [ok] at hI
    refine shop_fin (iC := up3 (cS z β i1 (its z β (z + 1) (skp z β 0) (ii 26 0) n d 0).2.1) 7 0 1 0) (kC := k1) R hcn TMm ?_ F2 up3_rd (fun c => ?_) (fun x p1 p2 => ⟨?_, ?_, ?_⟩) (fun x p1 p2 => ?_) ⟨n, d, ?_⟩
    · rw [ok]
      refine SK.of (by decide) (by decide) rfl ?_
      refine GB.go 9999 rfl aB0 ?_
      refine GB.cal rfl rfl (by decide) (hb) ?_
      refine GB.go 9999 rfl aB0 ?_
      refine GB.cal rfl rfl (by decide) (hI) ?_
      refine GB.go 9999 rfl aB0 ?_
      refine GB.br rfl rfl (fun c => ?_) (fun c => ?_)
      · refine GB.go 9999 rfl aB0 ?_
        exact GB.ret rfl rfl aB0
      · refine absurd ?_ c
        show (-1 : Int32) - nI _ < 0
        rw [show (-1 : Int32) - nI (its z β (z + 1) (skp z β 0) (ii 26 0) n d 0).2.1 = nI 0 - nI ((its z β (z + 1) (skp z β 0) (ii 26 0) n d 0).2.1 + 1) by
          have : ∀ k, k < 130 → (-1 : Int32) - nI k = nI 0 - nI (k + 1) := by decide +kernel
          exact this _ (by omega)]
        exact pk_sneg (by omega) (by omega)
    · rw [tl 17 (by decide), F1.2.1 1 c (by decide), q2 1 c (by decide)]
    · rw [tl 20 (by decide), (F1.2.2.1 x (Or.inl p2)).1, (q4 x p2).1]
    · rw [tl 21 (by decide), (F1.2.2.1 x (Or.inl p2)).2.1, (q4 x p2).2]
    · rw [(F1.2.2.1 x (Or.inl p2)).2.2, q8 x p2]
    · rw [tl 22 (by decide), F1.2.2.2 x p2, q6 x p2]
    · rw [ok, tl 17 (by decide), tl 20 (by decide), tl 21 (by decide), tl 22 (by decide)]
      exact ShR_c S (fun k _ => by rw [F1.2.1 0 k (by decide), q2 0 k (by decide)]) (fun i hi => by rw [(F1.2.2.1 (i + 0) (Or.inl (by omega))).1, (q4 (i + 0) (by omega)).1]) (fun i hi t _ => by rw [(F1.2.2.1 (i + 0) (Or.inl (by omega))).2.1, (q4 (i + 0) (by omega)).2]) (fun j hj k _ => by rw [F1.2.2.2 (j + 0) (by omega), q6 (j + 0) (by omega)]) (fun i hi => by rw [(F1.2.2.1 (i + 0) (Or.inl (by omega))).2.2, q8 (i + 0) (by omega)]) (fun _ _ => rfl)
  | true =>
    have D1 := hD ok
    rw [ok] at hI
    generalize hi3 : up3 (cS z β i1 (its z β (z + 1) (skp z β 0) (ii 26 0) n d 0).2.1) 7 0 1 0 = i3 at *
    have m8 := D1.n8
    have e6 := D1.d6
    have w2 : i3 17 2 2 = nI (its z β (z + 1) (skp z β 0) (ii 26 0) n d 0).2.2.2.1 := by
      rw [tl 17 (by decide)]
      exact D1.c2
    have w3 : i3 17 2 3 = nI (its z β (z + 1) (skp z β 0) (ii 26 0) n d 0).2.2.2.2.1 := by
      rw [tl 17 (by decide)]
      exact D1.c3
    have hb2 := k_shop02 (l := l) (X := X) (ii := i3) (jj := jj) (kd := k1) m8 e6 w2 w3 (fun k hk => D1.kd6 hk)
    have w7 : i3 7 0 1 = 0 := by rw [← hi3, up3_rd]
    generalize hn' : (its z β (z + 1) (skp z β 0) (ii 26 0) n d 0).2.2.2.1 = n' at *
    generalize hd' : (its z β (z + 1) (skp z β 0) (ii 26 0) n d 0).2.2.2.2.1 = d' at *
    have r1 : ∀ a, a ≠ 17 → a ≠ 20 → a ≠ 21 → a ≠ 22 → dbI (fun k => k) (fun k => (k + 12)) (hbI (fun k => k) (fun k => (k + 16)) (cbI 0 2 i3) n') d' a = i3 a := fun a p1 p2 p3 p4 => sb_tag p1 p2 p3 p4
    have r2 : ∀ x c, x ≠ 0 → dbI (fun k => k) (fun k => (k + 12)) (hbI (fun k => k) (fun k => (k + 16)) (cbI 0 2 i3) n') d' 17 x c = i3 17 x c := fun x c h => sb_17.trans (cbI_ne h)
    have r3 : ∀ c, 2 ≤ c → c < 6 → dbI (fun k => k) (fun k => (k + 12)) (hbI (fun k => k) (fun k => (k + 16)) (cbI 0 2 i3) n') d' 17 0 c = i3 17 2 c := fun c p1 p2 => sb_17.trans (cbI_at p1 p2)
    have r4 : ∀ x, 8 ≤ x → dbI (fun k => k) (fun k => (k + 12)) (hbI (fun k => k) (fun k => (k + 16)) (cbI 0 2 i3) n') d' 20 x = i3 20 x ∧ dbI (fun k => k) (fun k => (k + 12)) (hbI (fun k => k) (fun k => (k + 16)) (cbI 0 2 i3) n') d' 21 x = i3 21 x := fun x hx => sb_hne (fun k _ => by show x ≠ k; omega)
    have r5 : ∀ k, k < n' → dbI (fun k => k) (fun k => (k + 12)) (hbI (fun k => k) (fun k => (k + 16)) (cbI 0 2 i3) n') d' 20 k 2 = i3 20 (k + 16) 2 ∧ ∀ t, t < 12 → dbI (fun k => k) (fun k => (k + 12)) (hbI (fun k => k) (fun k => (k + 16)) (cbI 0 2 i3) n') d' 21 k t = i3 21 (k + 16) t := fun k hk => sb_hat (A := fun k => k) (B := fun k => k + 16) hk (fun a _ b _ e => e) (fun a ha b _ => by show a + 16 ≠ b; omega)
    have r6 : ∀ x, 6 ≤ x → dbI (fun k => k) (fun k => (k + 12)) (hbI (fun k => k) (fun k => (k + 16)) (cbI 0 2 i3) n') d' 22 x = i3 22 x := fun x hx => sb_dne (fun k _ => by show x ≠ k; omega)
    have r7 : ∀ k, k < d' → ∀ c, c < 3 → dbI (fun k => k) (fun k => (k + 12)) (hbI (fun k => k) (fun k => (k + 16)) (cbI 0 2 i3) n') d' 22 k c = i3 22 (k + 12) c := fun k hk c h3 => sb_hd (DA := fun k => k) (DB := fun k => k + 12) hk (fun a _ b _ e => e) (fun a ha b _ => by show a + 12 ≠ b; omega) h3
    have r8 : ∀ x, 8 ≤ x → hbK (fun k => k) (fun k => (k + 16)) k1 n' x = k1 x := fun x hx => hbK_ne n' (fun k _ => by show x ≠ k; omega)
    have r9 : ∀ k, k < n' → hbK (fun k => k) (fun k => (k + 16)) k1 n' k = k1 (k + 16) := fun k hk => hbK_at (A := fun k => k) (B := fun k => k + 16) n' hk (fun a _ b _ e => e) (fun a ha b _ => by show a + 16 ≠ b; omega)
    generalize dbI (fun k => k) (fun k => (k + 12)) (hbI (fun k => k) (fun k => (k + 16)) (cbI 0 2 i3) n') d' = i4 at *
    generalize hbK (fun k => k) (fun k => (k + 16)) k1 n' = k4 at *
    refine shop_fin (iC := i4) (kC := k4) R hcn TMm ?_ (fun a p0 p1 p2 p3 p4 => (r1 a p1 p2 p3 p4).trans (F2 a p0 p1 p2 p3 p4)) (by rw [r1 7 (by decide) (by decide) (by decide) (by decide)]; exact w7) (fun c => ?_) (fun x p1 p2 => ⟨?_, ?_, ?_⟩) (fun x p1 p2 => ?_) ⟨n', d', ?_⟩
    · rw [ok]
      refine SK.of (by decide) (by decide) rfl ?_
      refine GB.go 9999 rfl aB0 ?_
      refine GB.cal rfl rfl (by decide) (hb) ?_
      refine GB.go 9999 rfl aB0 ?_
      refine GB.cal rfl rfl (by decide) (hI) ?_
      refine GB.go 35 rfl aB0 ?_
      rw [hi3]
      refine GB.go 9999 rfl aB0 ?_
      refine GB.br rfl rfl (fun c => ?_) (fun c => ?_)
      · exact absurd c (nI_pos (by omega))
      · refine GB.go 9999 rfl aB0 ?_
        refine GB.cal rfl rfl (by decide) (hb2) ?_
        refine GB.go 9999 rfl aB0 ?_
        exact GB.ret rfl rfl aB0
    · rw [r2 1 c (by decide), tl 17 (by decide), F1.2.1 1 c (by decide), q2 1 c (by decide)]
    · rw [(r4 x p1).1, tl 20 (by decide), (F1.2.2.1 x (Or.inl p2)).1, (q4 x p2).1]
    · rw [(r4 x p1).2, tl 21 (by decide), (F1.2.2.1 x (Or.inl p2)).2.1, (q4 x p2).2]
    · rw [r8 x p1, (F1.2.2.1 x (Or.inl p2)).2.2, q8 x p2]
    · rw [r6 x p1, tl 22 (by decide), F1.2.2.2 x p2, q6 x p2]
    · rw [ok]
      refine ShR_re (hb := 0) (db := 0) (hb' := 0) (db' := 0) D1 (fun k p1 p2 => by rw [r3 k p1 p2, tl 17 (by decide)]) (fun i hi => ?_) (fun i hi t ht => ?_) (fun j hj k hk => ?_) (fun i hi => r9 i hi) (fun _ _ => rfl)
      · show i4 20 i 2 = i1 20 (i + 16) 2
        rw [(r5 i hi).1, tl 20 (by decide)]
      · show i4 21 i t = i1 21 (i + 16) t
        rw [(r5 i hi).2 t ht, tl 21 (by decide)]
      · show i4 22 j k = i1 22 (j + 12) k
        rw [r7 j hj k hk, tl 22 (by decide)]
end TS
