set_option maxHeartbeats 4000000 in
theorem mj_start {s : State} {b L : Nat} {xs : Nat → Int32} (hts : ∀ w ∈ lw_tbl, w.before #[Value.ref b] s = true) (hX : va_X b L xs s s.heap) (hbl : b < s.heap.size) (hgv : (Jvm.Cond.and given_1 narrow_1).before #[Value.ref b] s = true) :
    ∃ (dC : Nat → ClassId) (dI : Nat → Nat → Nat) (cA : Nat → ClassId) (aS aV : Nat → Nat) (nm : Nat) (o : Option Nat), ∀ g : Bool, mj_Kn (dC, dI, cA, aS, aV, b, nm, o, s.heap.size, L, xs, g) s ∧ mj_Out (dC, dI, cA, aS, aV, b, nm, o, s.heap.size, L, xs, g) s := by
  have hfl : ∀ w ∈ mj_fl, w.before #[Value.ref b] s = true := flat_of_before _ hgv
  have hA : ∀ a : Nat, a < s.heap.size → ¬ (fun q : Nat => s.heap.size ≤ q) a := fun a ha => Nat.not_le.mpr ha
  have hK0 : ∀ ci : Nat, ∃ q : ClassId × (Nat → Nat), ci < 13 → u_Kn s (mj_cn ci) (mj_T ci) (mj_cf ci) q.1 q.2 := by
    intro ci
    by_cases h : ci < 13
    · obtain ⟨c0, i0, h0⟩ := u_known (ws := lw_tbl) (C := mj_cn ci) (T := mj_T ci) (N := mj_cf ci) hts (fun w hw => (List.mem_filter.mp (mj_clw h w hw)).1) (hts _ (mj_t2 ci h))
      exact ⟨(c0, i0), fun _ => h0⟩
    · exact ⟨(0, fun _ => 0), fun h2 => absurd h2 h⟩
  obtain ⟨fK, hfK⟩ := Classical.axiomOfChoice hK0
  obtain ⟨t1, t2, t3, t4, t5, t6, t7, t8⟩ := mj_t1
  obtain ⟨n1, n2, n3, n4⟩ := mj_n8
  obtain ⟨cI, kI, compI, i1, i2, i3⟩ := Cond.arrayClass_spec (hts _ t7)
  obtain ⟨cJ, kJ, compJ, j1, j2, j3⟩ := Cond.arrayClass_spec (hts _ t8)
  have hO : ∀ C ∈ mj_arc, ∃ cA : ClassId, ArrOfT s cA (.object C) ∧ va_RA s cA (.object C) := by
    intro C hC
    have hw := of_decide_eq_true (List.all_eq_true.mp mj_t5 C hC)
    obtain ⟨comp, c, k, h1, h2, h3, h4, h5⟩ := Cond.arrayOver_spec (hts _ hw)
    exact ⟨c, fun n z => ⟨(fun k h => by cases h), k, h3, comp, h4⟩, k, comp, h3, h4, h1, h5⟩
  obtain ⟨c2, k2, r2⟩ := hO "HeadHats$HatKind" (by decide)
  obtain ⟨c3, k3, r3⟩ := hO "HeadHats$Sheet" (by decide)
  obtain ⟨c4, k4, r4⟩ := hO "HeadHats$Hat" (by decide)
  obtain ⟨c5, k5, r5⟩ := hO "HeadHats$Head" (by decide)
  obtain ⟨aS, aV, hSS, hSe⟩ := vk_Sof (s := s) (N := 13) (tm := mj_tm) (len := mj_strs.map List.length) (byt := mj_strs) (A := fun q => s.heap.size ≤ q) (by decide +kernel) (fun i hi => hfl _ (mj_n1 i hi)) (fun i hi => hfl _ (mj_n2 i hi)) (fun i hi => hfl _ (mj_n3 i hi)) (fun i hi => hfl _ (mj_n4 i hi)) (fun i hi j hj => hfl _ (mj_n5 i hi j hj)) (fun i j hi hj hij => (mj_n6 i hi j hj hij).imp (hfl _) (hfl _)) hA
  obtain ⟨nm, hn1, hn2⟩ := va_Tof (s := s) (N := 91) (f := fun j => .int (mj_nam j)) (A := fun q => s.heap.size ≤ q) (by decide) (hfl _ n1) (va_eqt (hfl _ n2)) (fun j hj => va_eqt (hfl _ (mj_n7 j hj))) hA
  have hZ1 := va_Zref (A := fun q => s.heap.size ≤ q) (hts _ t1) (hts _ t2) hn1 hA
  have hZ2 := va_Zof (A := fun q => s.heap.size ≤ q) (hts _ t3) (hts _ t4) (va_eqi (hfl _ n3)) hA
  have hZ3 : ∃ o : Option Nat, va_Z "jdk/internal/util/Preconditions" "SIOOBE_FORMATTER" "Ljava/util/function/BiFunction;" (va_rf o) (fun q => s.heap.size ≤ q) s s.heap := by
    rcases va_Zqof (A := fun q => s.heap.size ≤ q) (hts _ t5) (hts _ t6) (hfl _ n4) hA with h | ⟨t, h⟩
    · exact ⟨none, h⟩
    · exact ⟨some t, h⟩
  obtain ⟨o, hZ3⟩ := hZ3
  refine ⟨fun k => (fK k).1, fun k => (fK k).2, fun k => match k with
    | 0 => cI
    | 1 => cJ
    | 2 => c2
    | 3 => c3
    | 4 => c4
    | _ => c5, aS, aV, nm, o, fun g => ⟨⟨⟨fun ci q hq => ?_, fun k q hq => ?_⟩, fun w hw => ?_, fun C hC => ?_, fun C hC => ?_, fun i ow k tx hi => ?_⟩, hSS, fun _ => ⟨hX, hbl, Nat.not_le.mpr hbl⟩, hn2, hZ1, hZ2, hZ3, Nat.le_refl _⟩⟩
  · have hl : ci < 13 := (List.getElem?_eq_some_iff.mp hq).1
    rw [mj_clg hl] at hq
    cases hq
    exact hfK ci hl
  · match k, hq with
    | 0, hq => cases hq; exact ⟨fun n z => ⟨(fun k h => by cases h), kI, i2, compI, i3⟩, i1⟩
    | 1, hq => cases hq; exact ⟨fun n z => ⟨(fun k h => by cases h), kJ, j2, compJ, j3⟩, j1⟩
    | 2, hq => cases hq; exact ⟨k2, r2⟩
    | 3, hq => cases hq; exact ⟨k3, r3⟩
    | 4, hq => cases hq; exact ⟨k4, r4⟩
    | 5, hq => cases hq; exact ⟨k5, r5⟩
    | k + 6, hq => cases hq
  · have hw1 := hts w (of_decide_eq_true (List.all_eq_true.mp mj_t3 w hw))
    have hn := List.all_eq_true.mp mj_nstN w hw
    cases w <;> first | (exact va_Nw.of rfl hw1) | (exact absurd hn (by simp [mj_isN]))
  · exact va_Nw.of rfl (hts _ (of_decide_eq_true (List.all_eq_true.mp mj_t4 C hC)))
  · exact va_AO.of (hts _ (of_decide_eq_true (List.all_eq_true.mp mj_t5 C hC)))
  · have hl : i < 13 := (List.getElem?_eq_some_iff.mp hi).1
    have hw := hts _ (of_decide_eq_true (List.all_eq_true.mp mj_t6 _ (List.mem_of_getElem? hi)))
    have he := hSe i hl
    have htm : mj_tm i = .string ow k := by
      unfold mj_tm
      rw [hi]
    rw [htm] at he
    exact vk_R.of hw he
