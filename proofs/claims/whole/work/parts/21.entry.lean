/-! THE LAW FROM ITS ENTRY TO ITS LOOP -/
theorem lw_ret {p : Program} {l : Launch} {e : Env} {s : State} {m : MethodId} {below : List Frame} {meth : Method} {c : Code} {b : Nat} (hx : p.tables.exec = Jvm.exec) (hb : c.code = code) (hr : meth.sig.returnType = ret) (hlocks : meth.locks = false) {pc : Nat} {H : Heap} {ls : Array Slot} (hdg : decode code pc = .ok (.ireturn, 1)) : W p l e room_1 s m #[Value.ref b] below meth c H [] 600000 7302250 (lw_Z below #[Value.ref b] s) (F0 m pc ls [.int 1]) := by
  intro T hT X
  obtain ⟨fs, hret, hrun, hended, hW, hframe⟩ := X.leave (v := some (.int 1)) (hlocks := hlocks) (fun h => by rw [hr] at h; cases h)
  have hmeth' : T.vm.method? m = some meth := X.method'
  refine ⟨T.setFrames fs, ?_, .returned (some (.int 1)), hrun, hended, rfl, ⟨_, rfl⟩, hW, hframe⟩
  jvm_step X.here [X.here.top, hx, hb, hdg, hmeth', hr, ret, narrow_b1]
  (try refine ⟨rfl, ?_⟩); (try refine ⟨rfl, ?_⟩)
  first | (intro acts; rw [hret _ acts rfl rfl rfl]) | rw [hret _ _ rfl rfl rfl]
  exact Steps.refl _
/-- ints, with the script's at its tag -/
def mj_sc (L : Nat) (xs : Nat → Int32) (f : Nat → Nat → Nat → Int32) (t i k : Nat) : Int32 := match t with
  | 1 => match i with
    | 0 => xs k
    | _ => Int32.ofNat L
  | _ => f t i k
theorem mj_sc_ne {L : Nat} {xs : Nat → Int32} {f : Nat → Nat → Nat → Int32} {t : Nat} (h : t ≠ 1) (i : Nat) : mj_sc L xs f t i = f t i := by
  funext k
  unfold mj_sc
  split
  · exact absurd rfl h
  · rfl
/-- the picture at the loop's beginning -/
def mj_hN (L : Nat) (xs : Nat → Int32) : MH := (mj_sc L xs mj_iN, fun _ _ _ => 0, mj_rk (fun _ => 0), 108)
section MX
variable {dC : Nat → ClassId} {dI : Nat → Nat → Nat} {cA : Nat → ClassId} {aS aV : Nat → Nat} {sb nm : Nat} {o : Option Nat} {bs L : Nat} {xs : Nat → Int32}
theorem mj_okrx {g g2 : Bool} {n : Nat} {r : Nat × Nat} (hg : g = true → g2 = true) (h : mj_okr (dC, dI, cA, aS, aV, sb, nm, o, bs, L, xs, g) n r) : mj_okr (dC, dI, cA, aS, aV, sb, nm, o, bs, L, xs, g2) n r := by
  rcases h with h | h | h | h
  · exact Or.inl h
  · exact Or.inr (Or.inl h)
  · exact Or.inr (Or.inr (Or.inl ⟨h.1, hg h.2⟩))
  · exact Or.inr (Or.inr (Or.inr h))
/-- without the script -/
theorem mj_Hp0 {ad : Nat → Nat} {h h2 : MH} {H : Heap} (hn : h2.2.2.2 = h.2.2.2) (he : ∀ k, k < h.2.2.2 → h2.1 (mj_at k).1 (mj_at k).2 = h.1 (mj_at k).1 (mj_at k).2 ∧ h2.2.1 (mj_at k).1 (mj_at k).2 = h.2.1 (mj_at k).1 (mj_at k).2 ∧ h2.2.2.1 (mj_at k).1 (mj_at k).2 = h.2.2.1 (mj_at k).1 (mj_at k).2) (hk : mj_okh (dC, dI, cA, aS, aV, sb, nm, o, bs, L, xs, false) h2)
    (hH : mj_Hp (dC, dI, cA, aS, aV, sb, nm, o, bs, L, xs, true) ad h H) : mj_Hp (dC, dI, cA, aS, aV, sb, nm, o, bs, L, xs, false) ad h2 H := by
  obtain ⟨hP, hD, -, -, h8⟩ := hH
  refine ⟨fun i q hi => ?_, mj_Dc (X := (dC, dI, cA, aS, aV, sb, nm, o, bs, L, xs, true)) hn (fun _ _ => rfl) hD, hk, (fun hg => nomatch hg), hn ▸ h8⟩
  have hl := (List.getElem?_eq_some_iff.mp hi).1
  rw [mj_wlen, hn] at hl
  rw [mj_wsg (by rw [hn]; exact hl)] at hi
  cases hi
  obtain ⟨q1, q2, q3⟩ := he i hl
  have := hP i _ (mj_wsg (X := (dC, dI, cA, aS, aV, sb, nm, o, bs, L, xs, true)) hl)
  rw [← mj_celc q1 q2 q3] at this
  exact this
/-- with it again -/
theorem mj_Hp1 {ad : Nat → Nat} {h : MH} {H : Heap} (hL : L < 2 ^ 31) (hH : mj_Hp (dC, dI, cA, aS, aV, sb, nm, o, bs, L, xs, false) ad h H) : mj_Hp (dC, dI, cA, aS, aV, sb, nm, o, bs, L, xs, true) ad (mj_sc L xs h.1, h.2) H := by
  obtain ⟨hP, hD, hk, -, h8⟩ := hH
  have hne : ∀ k, k < 108 → (mj_at k).1 ≠ 1 := fun k hk2 => by have := (mj_tag k hk2).1; omega
  refine ⟨fun i q hi => ?_, mj_Dc (X := (dC, dI, cA, aS, aV, sb, nm, o, bs, L, xs, false)) (h := h) (h2 := (mj_sc L xs h.1, h.2)) rfl (fun _ _ => rfl) hD, fun k r g1 g2 j hj => mj_okrx (g := false) (fun _ => rfl) (hk k r g1 g2 j hj), fun _ => ⟨fun j _ => rfl, rfl, hL⟩, h8⟩
  have hl := (List.getElem?_eq_some_iff.mp hi).1
  rw [mj_wlen] at hl
  have hl : i < h.2.2.2 := hl
  rw [mj_wsg (h := (mj_sc L xs h.1, h.2)) hl] at hi
  cases hi
  have := hP i _ (mj_wsg (X := (dC, dI, cA, aS, aV, sb, nm, o, bs, L, xs, false)) hl)
  rw [← mj_celc (h' := (mj_sc L xs h.1, h.2)) (mj_sc_ne (hne i (by omega)) _) rfl rfl] at this
  exact this
theorem mj_hBn : mj_hB.2.2.2 = 108 := by
  have h := mj_rBc
  unfold mj_hB
  cases hz : mj_rB with
  | none => rw [hz] at h; cases h
  | some z =>
    rw [hz] at h
    obtain ⟨r, h2, a, b⟩ := z
    cases r with
    | some v => cases h
    | none =>
      unfold mj_ok4 at h
      simp only [Bool.and_eq_true] at h
      exact Nat.eq_of_beq_eq_true h.1.1
theorem mj_okrb_s {X : FX} {r : Nat × Nat} (h : mj_okrb r = true) : mj_okr X 108 r := by
  unfold mj_okrb at h
  simp only [Bool.or_eq_true, Bool.and_eq_true] at h
  rcases h with (h | h) | h
  · exact Or.inl (Nat.eq_of_beq_eq_true h)
  · exact Or.inr (Or.inr (Or.inr (Or.inr (Or.inl ⟨Or.inl (Nat.eq_of_beq_eq_true h.1), Nat.blt_eq.mp h.2⟩))))
  · obtain ⟨k, hk⟩ := List.getElem?_of_mem (List.contains_iff_mem.mp h)
    exact Or.inr (Or.inr (Or.inr (Or.inr (Or.inr ⟨k, (mj_al_lt hk).1, hk⟩))))
/-- the picture behind the constructors, told plainly -/
theorem mj_HpN {ad : Nat → Nat} {H : Heap} (hL : L < 2 ^ 31) (hH : mj_Hp (dC, dI, cA, aS, aV, sb, nm, o, bs, L, xs, false) ad mj_hB H) : mj_Hp (dC, dI, cA, aS, aV, sb, nm, o, bs, L, xs, true) ad (mj_hN L xs) H := by
  obtain ⟨hP, hD, -, -, h8⟩ := hH
  have hnB := mj_hBn
  refine ⟨fun i q hi => ?_, mj_Dc (X := (dC, dI, cA, aS, aV, sb, nm, o, bs, L, xs, false)) (h := mj_hB) (h2 := mj_hN L xs) hnB.symm (fun _ _ => rfl) hD, fun k r g1 g2 j hj => ?_, fun _ => ⟨fun j _ => rfl, rfl, hL⟩, Nat.le_refl _⟩
  · have hl := (List.getElem?_eq_some_iff.mp hi).1
    rw [mj_wlen] at hl
    have hl : i < 108 := hl
    rw [mj_wsg (h := mj_hN L xs) hl] at hi
    cases hi
    have hat := hP i _ (mj_wsg (X := (dC, dI, cA, aS, aV, sb, nm, o, bs, L, xs, false)) (by rw [hnB]; exact hl))
    have hag := List.all_eq_true.mp mj_agr i (List.mem_range.mpr hl)
    obtain ⟨t5, -, t1, t2, -⟩ := mj_tag i hl
    have hsc : mj_sc L xs mj_iN (mj_at i).1 (mj_at i).2 = mj_iN (mj_at i).1 (mj_at i).2 := mj_sc_ne (by omega) _
    unfold mj_agree at hag
    rcases (show (mj_tk (mj_at i).1).1 = 1 ∨ (mj_tk (mj_at i).1).1 = 2 ∨ (mj_tk (mj_at i).1).1 = 3 ∨ (mj_tk (mj_at i).1).1 = 4 by omega) with e | e | e | e
    · rw [mj_cel1 e] at hat ⊢
      have hag : (List.range (mj_tk (mj_at i).1).2.2).all (fun j => match mj_fr (mj_tk (mj_at i).1).2.1 j with
        | true => decide (mj_rk (fun _ => 0) (mj_at i).1 (mj_at i).2 j = mj_hB.2.2.1 (mj_at i).1 (mj_at i).2 j)
        | false => decide (mj_iN (mj_at i).1 (mj_at i).2 j = mj_hB.1 (mj_at i).1 (mj_at i).2 j)) = true := by
        revert hag e
        generalize mj_tk (mj_at i).1 = z
        obtain ⟨z1, z2, z3⟩ := z
        intro hag e
        cases e
        exact hag
      have hmap : (List.range (mj_tk (mj_at i).1).2.2).map (mj_fv (dC, dI, cA, aS, aV, sb, nm, o, bs, L, xs, true) ad (mj_hN L xs) (mj_tk (mj_at i).1).2.1 (mj_at i)) = (List.range (mj_tk (mj_at i).1).2.2).map (mj_fv (dC, dI, cA, aS, aV, sb, nm, o, bs, L, xs, false) ad mj_hB (mj_tk (mj_at i).1).2.1 (mj_at i)) := by
        apply List.map_congr_left
        intro j hj
        have h1 := List.all_eq_true.mp hag j hj
        unfold mj_fv
        cases hf : mj_fr (mj_tk (mj_at i).1).2.1 j with
        | true =>
          rw [hf] at h1
          show va_rf (mj_orf _ ad (mj_rk (fun _ => 0) (mj_at i).1 (mj_at i).2 j)) = _
          rw [of_decide_eq_true h1]
          rfl
        | false =>
          rw [hf] at h1
          show Value.int (mj_sc L xs mj_iN (mj_at i).1 (mj_at i).2 j) = _
          rw [hsc, of_decide_eq_true h1]
      rw [hmap]
      exact hat
    · rw [mj_cel2 e] at hat ⊢
      have hag : (List.range (mj_tk (mj_at i).1).2.2).all (fun j => decide (mj_iN (mj_at i).1 (mj_at i).2 j = mj_hB.1 (mj_at i).1 (mj_at i).2 j)) = true := by
        revert hag e
        generalize mj_tk (mj_at i).1 = z
        obtain ⟨z1, z2, z3⟩ := z
        intro hag e
        cases e
        exact hag
      have hat : H[ad i]? = some (vp_cell _ _) := hat
      show H[ad i]? = some (vp_cell _ _)
      rw [hat]
      congr 1
      rw [vp_cell_i, vp_cell_i]
      refine mj_arrc (fun j hj => ?_)
      show Value.int (mj_hB.1 (mj_at i).1 (mj_at i).2 j) = Value.int (mj_sc L xs mj_iN (mj_at i).1 (mj_at i).2 j)
      rw [hsc, of_decide_eq_true (List.all_eq_true.mp hag j (List.mem_range.mpr hj))]
    · rw [mj_cel3 e] at hat ⊢
      have hag : (List.range (mj_tk (mj_at i).1).2.2).all (fun j => decide ((0 : Int64) = mj_hB.2.1 (mj_at i).1 (mj_at i).2 j)) = true := by
        revert hag e
        generalize mj_tk (mj_at i).1 = z
        obtain ⟨z1, z2, z3⟩ := z
        intro hag e
        cases e
        exact hag
      have hat : H[ad i]? = some (vp_cell _ _) := hat
      show H[ad i]? = some (vp_cell _ _)
      rw [hat]
      congr 1
      rw [vp_cell_l, vp_cell_l]
      refine mj_arrc (fun j hj => ?_)
      show Value.long (mj_hB.2.1 (mj_at i).1 (mj_at i).2 j) = Value.long 0
      rw [← of_decide_eq_true (List.all_eq_true.mp hag j (List.mem_range.mpr hj))]
    · rw [mj_cel4 e] at hat ⊢
      have hag : (List.range (mj_tk (mj_at i).1).2.2).all (fun j => decide (mj_rk (fun _ => 0) (mj_at i).1 (mj_at i).2 j = mj_hB.2.2.1 (mj_at i).1 (mj_at i).2 j)) = true := by
        revert hag e
        generalize mj_tk (mj_at i).1 = z
        obtain ⟨z1, z2, z3⟩ := z
        intro hag e
        cases e
        exact hag
      have hat : H[ad i]? = some (vp_cell _ _) := hat
      show H[ad i]? = some (vp_cell _ _)
      rw [hat]
      congr 1
      rw [vp_cell_q, vp_cell_q]
      refine mj_arrc (fun j hj => ?_)
      show va_rf (mj_orf _ ad (mj_hB.2.2.1 (mj_at i).1 (mj_at i).2 j)) = va_rf (mj_orf _ ad (mj_rk (fun _ => 0) (mj_at i).1 (mj_at i).2 j))
      rw [of_decide_eq_true (List.all_eq_true.mp hag j (List.mem_range.mpr hj))]
      rfl
  · obtain ⟨q1, q2⟩ := mj_al_lt g2
    subst q2
    exact mj_okrb_s (List.all_eq_true.mp (List.all_eq_true.mp mj_okN k (List.mem_range.mpr q1)) j (List.mem_range.mpr hj))
end MX
