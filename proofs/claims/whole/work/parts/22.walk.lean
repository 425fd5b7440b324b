/-! THE WALK FROM THE LAW'S ENTRY TO ITS LOOP -/
theorem mj_rAe : mj_rA = some (none, mj_hA, 98, 830) ∧ mj_hA.2.2.2 = 99 := by
  have h := mj_rAc
  unfold mj_hA
  cases hz : mj_rA with
  | none => rw [hz] at h; cases h
  | some z =>
    rw [hz] at h
    obtain ⟨r, h2, a, b⟩ := z
    cases r with
    | some v => cases h
    | none =>
      unfold mj_ok4 at h
      simp only [Bool.and_eq_true] at h
      show some (none, h2, a, b) = some (none, h2, 98, 830) ∧ h2.2.2.2 = 99
      rw [← Nat.eq_of_beq_eq_true h.1.2, ← Nat.eq_of_beq_eq_true h.2]
      exact ⟨rfl, Nat.eq_of_beq_eq_true h.1.1⟩
theorem mj_rBe : mj_rB = some (none, mj_hB, 8, 697) := by
  have h := mj_rBc
  unfold mj_hB
  cases hz : mj_rB with
  | none => rw [hz] at h; cases h
  | some z =>
    rw [hz] at h
    obtain ⟨r, h2, a, b⟩ := z
    cases r with
    | some v => cases h
    | none =>
      unfold mj_ok4 at h
      simp only [Bool.and_eq_true] at h
      show some (none, h2, a, b) = some (none, h2, 8, 697)
      rw [← Nat.eq_of_beq_eq_true h.1.2, ← Nat.eq_of_beq_eq_true h.2]
theorem mj_SA {l : Launch} {X : FX} : SB l X 8 98 830 72 [vR 5 0] mj_h0 none mj_hA := SB.of (by decide) (by decide) rfl (mj_runs 6000 8 72 _ _ _ _ _ mj_rAe.1)
theorem mj_SM {l : Launch} {X : FX} : SB l X 8 8 697 130 [vR 25 0] mj_hB0 none mj_hB := SB.of (by decide) (by decide) rfl (mj_runs 300 8 130 _ _ _ _ _ mj_rBe)
/-- what the walk needs of the constructors -/
def mj_two (l : Launch) (X0 X1 : FX) (L : Nat) (xs : Nat → Int32) (iA : Nat → Nat → Nat → Int32) (jA : Nat → Nat → Nat → Int64) (rA : Nat → Nat → Nat → Nat × Nat) (hB : MH) : Prop :=
  SB l X0 8 98 830 72 [vR 5 0] mj_h0 none (iA, jA, rA, 99) ∧ SB l X0 8 8 697 130 [vR 25 0] (upA iA 25 0 (fun _ => 0), upA jA 25 0 (fun _ => 0), upA rA 25 0 (fun _ => (0, 0)), 100) none hB ∧ ∀ ad H, mj_Hp X0 ad hB H → mj_Hp X1 ad (mj_hN L xs) H
set_option maxHeartbeats 4000000 in
set_option maxRecDepth 100000 in
theorem mj_enter0 {p : Program} {e : Env} {s : State} {m : MethodId} {below : List Frame} {meth : Method} {c : Code} (l : Launch) {b L : Nat} {xs : Nat → Int32} (hL : L < 2 ^ 31) (C0 : lw_At p s m meth c b L xs) {dC : Nat → ClassId} {dI : Nat → Nat → Nat} {cA : Nat → ClassId} {aS aV : Nat → Nat} {nm : Nat} {o : Option Nat} {iA : Nat → Nat → Nat → Int32} {jA : Nat → Nat → Nat → Int64} {rA : Nat → Nat → Nat → Nat × Nat} {hB h' : MH}
    (hKO : ∀ g : Bool, mj_Kn (dC, dI, cA, aS, aV, b, nm, o, s.heap.size, L, xs, g) s ∧ mj_Out (dC, dI, cA, aS, aV, b, nm, o, s.heap.size, L, xs, g) s)
    (h2 : mj_two l (dC, dI, cA, aS, aV, b, nm, o, s.heap.size, L, xs, false) (dC, dI, cA, aS, aV, b, nm, o, s.heap.size, L, xs, true) L xs iA jA rA hB)
    (loop : GB l (dC, dI, cA, aS, aV, b, nm, o, s.heap.size, L, xs, true) 1300 0 0 0 (18, [some (vR 1 0), some (vR 5 0), some (vR 25 0), some (vI 0)], [], mj_hN L xs) (some (vI 1)) h') : W p l e room_1 s m #[Value.ref b] below meth c s.heap [] 0 0 (lw_Z below #[Value.ref b] s) (entryFrame m ([Value.ref b] : List Value).toArray 4) := by
  obtain ⟨hx, hb, hr, hml, hown, hts, hX, hbl, hlk, hgv⟩ := C0
  obtain ⟨hSA, hSM, hBN⟩ := h2
  have C : ∀ g, mj_C (dC, dI, cA, aS, aV, b, nm, o, s.heap.size, L, xs, g) 1300 0 p room_1 s m #[Value.ref b] meth c := fun g => ⟨hx, hb, hml, hown, fun w hw => hts w (List.mem_filter.mp hw).1, fun hz => absurd hz (by decide), (by decide), (by decide), (hKO g).1, (hKO g).2⟩
  have hl0 := lv_entry [Value.ref b] (n := 4) (show 1 ≤ 4 by decide)
  rw [lg_entry_eq]
  have ok1 : ∀ n, mj_okv (dC, dI, cA, aS, aV, b, nm, o, s.heap.size, L, xs, true) n (vR 1 0) := fun n => Or.inr (Or.inr (Or.inl ⟨rfl, rfl⟩))
  have ok5 : ∀ g n, 0 < n → mj_okv (dC, dI, cA, aS, aV, b, nm, o, s.heap.size, L, xs, g) n (vR 5 0) := fun g n hn => Or.inr (Or.inr (Or.inr (Or.inr (Or.inr ⟨0, hn, rfl⟩))))
  have ok25 : ∀ g n, 99 < n → mj_okv (dC, dI, cA, aS, aV, b, nm, o, s.heap.size, L, xs, g) n (vR 25 0) := fun g n hn => Or.inr (Or.inr (Or.inr (Or.inr (Or.inr ⟨99, hn, rfl⟩))))
  have I0 : mj_I (dC, dI, cA, aS, aV, b, nm, o, s.heap.size, L, xs, true) (fun _ => 0) 0 (0, [some (vR 1 0), none, none, none], [], (mj_sc L xs (fun _ _ _ => 0), fun _ _ _ => 0, fun _ _ _ => (0, 0), 0)) s s.heap [] _ :=
    ⟨⟨fun k q hk => absurd hk (by simp [mj_ws]), ⟨fun i j q1 q2 hi => absurd hi (by simp [mj_ws]), fun k q hk => absurd hk (by simp [mj_ws])⟩, fun k r hk => absurd hk (Nat.not_lt_zero _), fun _ => ⟨fun _ _ => rfl, rfl, hL⟩, Nat.zero_le _⟩, va_S.rf, rfl, hl0, fun v hv => absurd hv List.not_mem_nil, fun j v hv => by
      match j, hv with
      | 0, hv => cases hv; exact ok1 _
      | 1, hv => cases hv
      | 2, hv => cases hv
      | 3, hv => cases hv
      | j + 4, hv => cases hv⟩
  refine mj_makr (C true) (by decide) (by decide) rfl rfl I0 (fun ad1 H1 he1 hn1 I1 => ?_)
  refine mj_step (C true) (by decide) (by decide) rfl rfl aB0 I1 (fun H2 locs2 ls2 hn2 I2 => ?_)
  have I3 : mj_I (dC, dI, cA, aS, aV, b, nm, o, s.heap.size, L, xs, false) ad1 0 (4, [none, none, none, none], [vR 5 0, vR 5 0], mj_h0) s H2 locs2 ls2 :=
    ⟨mj_Hp0 (h := (upA (mj_sc L xs fun _ _ _ => 0) 5 0 (fun _ => 0), upA (fun _ _ _ => 0) 5 0 (fun _ => 0), upA (fun _ _ _ => (0, 0)) 5 0 (fun _ => (0, 0)), 1)) (h2 := mj_h0) rfl (fun k hk => by
      match k, hk with
      | 0, _ => exact ⟨rfl, rfl, rfl⟩
      | k + 1, hk => exact absurd hk (by show ¬ k + 1 < 1; omega)) (fun k r _ _ j _ => Or.inl rfl) I2.1, I2.2.1, rfl, ⟨I2.2.2.2.1.1, I2.2.2.2.1.2.1, fun q hq => absurd hq List.not_mem_nil⟩, fun v hv => by
      simp only [List.mem_cons, List.not_mem_nil, or_false, or_self] at hv
      subst hv
      exact ok5 false 1 (by decide), fun j v hv => by
      match j, hv with
      | 0, hv => cases hv
      | 1, hv => cases hv
      | 2, hv => cases hv
      | 3, hv => cases hv
      | j + 4, hv => cases hv⟩
  obtain ⟨-, -, -, -, a, hrun⟩ := mj_callr (l := l) (e := e) (below := below) (cells := 0 + 1) (slots := 0 + 10) (C false) (by decide) (by decide) rfl rfl (by decide) hSA I3
  refine mj_callk hrun I3.2.1 (fun ad2 H3 locs3 he2 hle2 hHp2 hok2 hS3 => ?_)
  have e5 : ad2 0 = ad1 0 := he2 0 (by decide)
  have I4 : mj_I (dC, dI, cA, aS, aV, b, nm, o, s.heap.size, L, xs, true) ad2 0 (7, [some (vR 1 0), none, none, none], [vR 5 0], (mj_sc L xs iA, jA, rA, 99)) s H3 locs3 ls2 :=
    ⟨mj_Hp1 hL hHp2, hS3, rfl, I2.2.2.2.1, fun v hv => by
      simp only [List.mem_cons, List.not_mem_nil, or_false] at hv
      subst hv
      exact ok5 true 99 (by decide), fun j v hv => by
      match j, hv with
      | 0, hv => cases hv; exact ok1 _
      | 1, hv => cases hv
      | 2, hv => cases hv
      | 3, hv => cases hv
      | j + 4, hv => cases hv⟩
  have key : W p l e room_1 s m #[Value.ref b] below meth c H3 locs3 (0 + 1 + 98) (0 + 10 + 830) (lw_Z below #[Value.ref b] s) (F0 m 7 ls2 (([vR 5 0] : List MV).map (mj_tr (dC, dI, cA, aS, aV, b, nm, o, s.heap.size, L, xs, true) ad2))) := by
    refine mj_step (C true) (by decide) (by decide) rfl rfl aB0 I4 (fun H4 locs4 ls4 hn4 I5 => ?_)
    refine mj_makr (C true) (by decide) (by decide) rfl rfl I5 (fun ad5 H5 he5 hn5 I6 => ?_)
    refine mj_step (C true) (by decide) (by decide) rfl rfl aB0 I6 (fun H6 locs6 ls6 hn6 I7 => ?_)
    have I8 : mj_I (dC, dI, cA, aS, aV, b, nm, o, s.heap.size, L, xs, false) ad5 0 (12, [none, none, none, none], [vR 25 0, vR 25 0], (upA iA 25 0 (fun _ => 0), upA jA 25 0 (fun _ => 0), upA rA 25 0 (fun _ => (0, 0)), 100)) s H6 locs6 ls6 :=
      ⟨mj_Hp0 (h := (upA (mj_sc L xs iA) 25 0 (fun _ => 0), upA jA 25 0 (fun _ => 0), upA rA 25 0 (fun _ => (0, 0)), 100)) (h2 := (upA iA 25 0 (fun _ => 0), upA jA 25 0 (fun _ => 0), upA rA 25 0 (fun _ => (0, 0)), 100)) rfl (fun k hk => by
        have hne : (mj_at k).1 ≠ 1 := by have := (mj_tag k (Nat.lt_of_lt_of_le (show k < 100 from hk) (by decide))).1; omega
        refine ⟨?_, rfl, rfl⟩
        show upA iA 25 0 (fun _ => 0) (mj_at k).1 (mj_at k).2 = upA (mj_sc L xs iA) 25 0 (fun _ => 0) (mj_at k).1 (mj_at k).2
        funext j
        unfold upA
        rw [mj_sc_ne hne]) (fun k r hk hr j hj => by
        show mj_okr _ 100 (upA rA 25 0 (fun _ => (0, 0)) r.1 r.2 j)
        by_cases hz : r = (25, 0)
        · subst hz
          exact Or.inl rfl
        · rw [upA_ne hz]
          by_cases hk2 : k < 99
          · rcases hHp2.2.2.1 k r hk2 hr j hj with q | q | q | q | q | ⟨i, q1, q2⟩
            · exact Or.inl q
            · exact Or.inr (Or.inl q)
            · exact Or.inr (Or.inr (Or.inl q))
            · exact Or.inr (Or.inr (Or.inr (Or.inl q)))
            · exact Or.inr (Or.inr (Or.inr (Or.inr (Or.inl q))))
            · exact Or.inr (Or.inr (Or.inr (Or.inr (Or.inr ⟨i, Nat.lt_succ_of_lt q1, q2⟩))))
          · have hk3 : k < 100 := hk
            have : k = 99 := by omega
            subst this
            exact absurd (Option.some.inj hr).symm hz) I7.1, I7.2.1, rfl, ⟨I7.2.2.2.1.1, I7.2.2.2.1.2.1, fun q hq => absurd hq List.not_mem_nil⟩, fun v hv => by
        simp only [List.mem_cons, List.not_mem_nil, or_false, or_self] at hv
        subst hv
        exact ok25 false 100 (by decide), fun j v hv => by
        match j, hv with
        | 0, hv => cases hv
        | 1, hv => cases hv
        | 2, hv => cases hv
        | 3, hv => cases hv
        | j + 4, hv => cases hv⟩
    obtain ⟨-, -, -, -, a2, hrun2⟩ := mj_callr (l := l) (e := e) (below := below) (cells := 0 + 1 + 98 + 1) (slots := 0 + 10 + 830 + 15) (C false) (by decide) (by decide) rfl rfl (by decide) hSM I8
    refine mj_callk hrun2 I8.2.1 (fun ad7 H7 locs7 he7 hle7 hHp7 hok7 hS7 => ?_)
    have f0 : ad7 0 = ad5 0 := he7 0 (by show 0 < 100; decide)
    have f99 : ad7 99 = ad5 99 := he7 99 (by show 99 < 100; decide)
    have I9 : mj_I (dC, dI, cA, aS, aV, b, nm, o, s.heap.size, L, xs, true) ad7 0 (15, [some (vR 1 0), some (vR 5 0), none, none], [vR 25 0], mj_hN L xs) s H7 locs7 ls6 :=
      ⟨hBN _ _ hHp7, hS7, rfl, by
        have h := I7.2.2.2.1
        have h : lv_has ls6 4 [(0, Value.ref b), (1, Value.ref (ad5 0))] := h
        rw [← f0] at h
        exact h, fun v hv => by
        simp only [List.mem_cons, List.not_mem_nil, or_false] at hv
        subst hv
        exact ok25 true 108 (by decide), fun j v hv => by
        match j, hv with
        | 0, hv => cases hv; exact ok1 _
        | 1, hv => cases hv; exact ok5 true 108 (by decide)
        | 2, hv => cases hv
        | 3, hv => cases hv
        | j + 4, hv => cases hv⟩
    have key2 : W p l e room_1 s m #[Value.ref b] below meth c H7 locs7 (0 + 1 + 98 + 1 + 8) (0 + 10 + 830 + 15 + 697) (lw_Z below #[Value.ref b] s) (F0 m 15 ls6 (([vR 25 0] : List MV).map (mj_tr (dC, dI, cA, aS, aV, b, nm, o, s.heap.size, L, xs, true) ad7))) := by
      refine mj_step (C true) (by decide) (by decide) rfl rfl aB0 I9 (fun H8 locs8 ls8 hn8 J1 => ?_)
      refine mj_step (C true) (by decide) (by decide) rfl rfl aB0 J1 (fun H9 locs9 ls9 hn9 J2 => ?_)
      refine mj_step (C true) (by decide) (by decide) rfl rfl aB0 J2 (fun HA locsA lsA hnA J3 => ?_)
      refine loop p e room_1 s m _ below meth c HA locsA _ _ _ ad7 lsA (C true) (by decide) (by decide) J3 (fun adE HE locsE pcE lsE _ _ _ hSE _ hrI => ?_)
      refine va_forget (fun q hq => hSE.2.2 q hq) ?_
      exact fun T hT Xs => lw_ret hx hb hr hlk hrI.2 T hT (Stand.mono Xs (by decide) (by decide))
    have es : ([vR 25 0] : List MV).map (mj_tr (dC, dI, cA, aS, aV, b, nm, o, s.heap.size, L, xs, true) ad7) = ([vR 25 0] : List MV).map (mj_tr (dC, dI, cA, aS, aV, b, nm, o, s.heap.size, L, xs, false) ad5) := by
      show [Value.ref (ad7 99)] = [Value.ref (ad5 99)]
      rw [f99]
    rw [es] at key2
    exact key2
  have es : ([vR 5 0] : List MV).map (mj_tr (dC, dI, cA, aS, aV, b, nm, o, s.heap.size, L, xs, true) ad2) = ([vR 5 0] : List MV).map (mj_tr (dC, dI, cA, aS, aV, b, nm, o, s.heap.size, L, xs, false) ad1) := by
    show [Value.ref (ad2 0)] = [Value.ref (ad1 0)]
    rw [e5]
  rw [es] at key
  exact key
theorem mj_enter {p : Program} {e : Env} {s : State} {m : MethodId} {below : List Frame} {meth : Method} {c : Code} (l : Launch) {b L : Nat} {xs : Nat → Int32} (hL : L < 2 ^ 31) (C0 : lw_At p s m meth c b L xs)
    (loop : ∀ X : FX, fx_g X = true → fx_L X = L → fx_x X = xs → ∃ h', GB l X 1300 0 0 0 (18, [some (vR 1 0), some (vR 5 0), some (vR 25 0), some (vI 0)], [], mj_hN L xs) (some (vI 1)) h') : W p l e room_1 s m #[Value.ref b] below meth c s.heap [] 0 0 (lw_Z below #[Value.ref b] s) (entryFrame m ([Value.ref b] : List Value).toArray 4) := by
  obtain ⟨dC, dI, cA, aS, aV, nm, o, hKO⟩ := mj_start C0.2.2.2.2.2.1 C0.2.2.2.2.2.2.1 C0.2.2.2.2.2.2.2.1 C0.2.2.2.2.2.2.2.2.2
  obtain ⟨h', hloop⟩ := loop (dC, dI, cA, aS, aV, b, nm, o, s.heap.size, L, xs, true) rfl rfl rfl
  have h1 : SB l (dC, dI, cA, aS, aV, b, nm, o, s.heap.size, L, xs, false) 8 98 830 72 [vR 5 0] mj_h0 none mj_hA := mj_SA
  have h2 : SB l (dC, dI, cA, aS, aV, b, nm, o, s.heap.size, L, xs, false) 8 8 697 130 [vR 25 0] mj_hB0 none mj_hB := mj_SM
  unfold mj_hB0 at h2
  have h3 : ∀ ad H, mj_Hp (dC, dI, cA, aS, aV, b, nm, o, s.heap.size, L, xs, false) ad mj_hB H → mj_Hp (dC, dI, cA, aS, aV, b, nm, o, s.heap.size, L, xs, true) ad (mj_hN L xs) H := fun ad H h => mj_HpN hL h
  have hn := mj_rAe.2
  revert h1 h2 h3 hn
  generalize mj_hB = hB
  generalize mj_hA = hA
  intro h1 h2 h3 hn
  obtain ⟨iA, jA, rA, nA⟩ := hA
  cases (show nA = 99 from hn)
  exact mj_enter0 l hL C0 hKO ⟨h1, h2, h3⟩ hloop
