/-! CALLS, CONTRACTS, MAKINGS -/
section MD
variable {l : Launch} {X : FX} {d mc ms y : Nat} {r : Option MV} {h' : MH}
/-- a call, by the callee's contract -/
theorem GB.call {q : MI} {s : MS} {y' n' d' mc' ms' : Nat} {as rs : List MV} {ls : ML} {h h1 : MH} {r' : Option MV} (hi : mj_ins y s.1 = some q) (hs : mj_cll q s = some (y', as, n', ls, rs, h)) (hdd : d' + 1 ≤ d) (hSB : SB l X d' mc' ms' y' as h r' h1) (k : GB l X d mc ms y (n', ls, mj_pus r' rs, h1) r h') : GB l X d (mc' + mc) (ms' + ms) y s r h' := by
  intro p e R st m args below meth c H locs cells slots Q ad lsR C hc1 hc2 I kret
  obtain ⟨e1, e2, e3, e4, a, hrun⟩ := mj_callr (e := e) (below := below) (cells := cells) (slots := slots) C (by omega) (by omega) hi hs hdd hSB I
  subst e1
  subst e2
  subst e3
  refine mj_callk hrun I.2.1 (fun ad' H1 locs1 he hle hHp hokr hS1 => ?_)
  obtain ⟨hH, hS, hL, hl, hok, hlo⟩ := I
  have hst : ((r'.map (mj_tr X ad')).toList ++ rs.map (mj_tr X ad)) = (mj_pus r' rs).map (mj_tr X ad') := by
    rw [← mj_map_ext (fun v hv => hok v (e4 v hv)) he]
    cases r' <;> rfl
  rw [hst]
  refine k p e R st m args below meth c H1 locs1 (cells + mc') (slots + ms') Q ad' lsR C (by omega) (by omega) ⟨hHp, hS1, hL, mj_lvsub hl (mj_lv_ext hlo he), ?_, fun j v hv => mj_okv_mono (hlo j v hv) hle⟩ (fun ad2 H2 locs2 pc2 ls2 g1 g2 g3 g4 g5 g6 => ?_)
  · intro v hv
    have hv2 : v ∈ mj_pus r' rs := hv
    cases r' with
    | none => exact mj_okv_mono (hok v (e4 v hv2)) hle
    | some u =>
      rcases List.mem_cons.mp hv2 with rfl | hv3
      · exact hokr _ rfl
      · exact mj_okv_mono (hok v (e4 v hv3)) hle
  · rw [Nat.add_assoc, Nat.add_assoc]
    exact kret ad2 H2 locs2 pc2 ls2 (fun k hk => (g1 k (Nat.lt_of_lt_of_le hk hle)).trans (he k hk)) (Nat.le_trans hle g2) g3 g4 g5 g6
theorem mj_lay_s (X : FX) (ad : Nat → Nat) : ∀ (as : List MV) (n : Nat) (ls : ML), mj_lay as n = some ls → ls.length = n ∧ (lg_sl (as.map (mj_tr X ad))).length ≤ n ∧ ∀ (k0 j : Nat) (v : MV), mj_nth ls j = some v → (k0 + j, mj_tr X ad v) ∈ lv_args k0 (as.map (mj_tr X ad)) ∧ v ∈ as
  | [], 0, ls, h => by
    simp only [mj_lay] at h
    cases h
    exact ⟨rfl, Nat.le_refl 0, fun k0 j v hv => by simp [mj_nth] at hv⟩
  | [], n + 1, ls, h => by
    simp only [mj_lay] at h
    cases h1 : mj_lay [] n with
    | none => rw [h1] at h; cases h
    | some r =>
      rw [h1] at h
      cases h
      obtain ⟨a1, a2, a3⟩ := mj_lay_s X ad [] n r h1
      refine ⟨by simp [a1], Nat.zero_le _, fun k0 j v hv => ?_⟩
      cases j with
      | zero => simp [mj_nth] at hv
      | succ j => exact absurd (a3 k0 j v hv).2 List.not_mem_nil
  | .inl x :: as, 0, ls, h => by simp [mj_lay] at h
  | .inl x :: as, n + 1, ls, h => by
    simp only [mj_lay] at h
    cases h1 : mj_lay as n with
    | none => rw [h1] at h; cases h
    | some r =>
      rw [h1] at h
      cases h
      obtain ⟨a1, a2, a3⟩ := mj_lay_s X ad as n r h1
      refine ⟨by simp [a1], ?_, fun k0 j v hv => ?_⟩
      · show (lg_sl (Value.int x :: as.map (mj_tr X ad))).length ≤ n + 1
        have : lg_sl (Value.int x :: as.map (mj_tr X ad)) = Slot.val (.int x) :: lg_sl (as.map (mj_tr X ad)) := rfl
        rw [this]
        simp only [List.length_cons]
        omega
      · have e : lv_args k0 ((Sum.inl x :: as : List MV).map (mj_tr X ad)) = (k0, Value.int x) :: lv_args (k0 + 1) (as.map (mj_tr X ad)) := rfl
        rw [e]
        cases j with
        | zero =>
          cases (show some (Sum.inl x) = some v from hv)
          exact ⟨List.mem_cons_self, List.mem_cons_self⟩
        | succ j =>
          obtain ⟨b1, b2⟩ := a3 (k0 + 1) j v hv
          rw [show k0 + (j + 1) = k0 + 1 + j by omega]
          exact ⟨List.mem_cons_of_mem _ b1, List.mem_cons_of_mem _ b2⟩
  | .inr (.inl x) :: as, 0, ls, h => by simp [mj_lay] at h
  | .inr (.inl x) :: as, 1, ls, h => by simp [mj_lay] at h
  | .inr (.inl x) :: as, n + 2, ls, h => by
    simp only [mj_lay] at h
    cases h1 : mj_lay as n with
    | none => rw [h1] at h; cases h
    | some r =>
      rw [h1] at h
      cases h
      obtain ⟨a1, a2, a3⟩ := mj_lay_s X ad as n r h1
      refine ⟨by simp [a1], ?_, fun k0 j v hv => ?_⟩
      · show (lg_sl (Value.long x :: as.map (mj_tr X ad))).length ≤ n + 2
        have : lg_sl (Value.long x :: as.map (mj_tr X ad)) = Slot.val (.long x) :: Slot.second :: lg_sl (as.map (mj_tr X ad)) := rfl
        rw [this]
        simp only [List.length_cons]
        omega
      · have e : lv_args k0 ((Sum.inr (Sum.inl x) :: as : List MV).map (mj_tr X ad)) = (k0, Value.long x) :: lv_args (k0 + 2) (as.map (mj_tr X ad)) := rfl
        rw [e]
        match j with
        | 0 =>
          cases (show some (Sum.inr (Sum.inl x)) = some v from hv)
          exact ⟨List.mem_cons_self, List.mem_cons_self⟩
        | 1 => exact nomatch (show (none : Option MV) = some v from hv)
        | j + 2 =>
          obtain ⟨b1, b2⟩ := a3 (k0 + 2) j v hv
          rw [show k0 + (j + 2) = k0 + 2 + j by omega]
          exact ⟨List.mem_cons_of_mem _ b1, List.mem_cons_of_mem _ b2⟩
  | .inr (.inr x) :: as, 0, ls, h => by simp [mj_lay] at h
  | .inr (.inr x) :: as, n + 1, ls, h => by
    simp only [mj_lay] at h
    cases h1 : mj_lay as n with
    | none => rw [h1] at h; cases h
    | some r =>
      rw [h1] at h
      cases h
      obtain ⟨a1, a2, a3⟩ := mj_lay_s X ad as n r h1
      have hcat : ¬ (mj_tr X ad (.inr (.inr x))).category = 2 := by
        rw [mj_cat_tr]
        exact (by decide : ¬ (1 : Nat) = 2)
      refine ⟨by simp [a1], ?_, fun k0 j v hv => ?_⟩
      · show (lg_sl (mj_tr X ad (.inr (.inr x)) :: as.map (mj_tr X ad))).length ≤ n + 1
        have : lg_sl (mj_tr X ad (.inr (.inr x)) :: as.map (mj_tr X ad)) = Slot.val (mj_tr X ad (.inr (.inr x))) :: lg_sl (as.map (mj_tr X ad)) := by
          simp only [lg_sl, List.flatMap_cons, if_neg hcat]
          rfl
        rw [this]
        simp only [List.length_cons]
        omega
      · have e : lv_args k0 ((Sum.inr (Sum.inr x) :: as : List MV).map (mj_tr X ad)) = (k0, mj_tr X ad (.inr (.inr x))) :: lv_args (k0 + 1) (as.map (mj_tr X ad)) := by
          show lv_args k0 (mj_tr X ad (.inr (.inr x)) :: as.map (mj_tr X ad)) = _
          simp only [lv_args, if_neg hcat]
        rw [e]
        cases j with
        | zero =>
          cases (show some (Sum.inr (Sum.inr x)) = some v from hv)
          exact ⟨List.mem_cons_self, List.mem_cons_self⟩
        | succ j =>
          obtain ⟨b1, b2⟩ := a3 (k0 + 1) j v hv
          rw [show k0 + (j + 1) = k0 + 1 + j by omega]
          exact ⟨List.mem_cons_of_mem _ b1, List.mem_cons_of_mem _ b2⟩
set_option maxHeartbeats 4000000 in
/-- a contract, by a run from the entry -/
theorem SB.of {as : List MV} {ls : ML} {h : MH} (h0 : 0 < y) (hy : y < mj_nm) (hl : mj_lay as (mj_L y) = some ls) (k : GB l X d mc ms y (0, ls, [], h) r h') : SB l X d mc ms y as h r h' := by
  intro ad hok
  refine Met.ofW (cc := mj_B y) (maxL := mj_L y) (ret := mj_R y) (mj_csm hy).2.1 rfl ?_
  intro p e s m args below meth c s₁ B hml hv
  obtain ⟨rfl, hHp, hKn, hOut⟩ := hv
  have hts := atoms_spec (ws := mj_wd y) B.pre
  have hown : s.vm.findClass (mj_N y).cls = some m.cls := findClass_of_methodNamed B.named
  have hname : meth.name = (mj_N y).name := (name_of_methodNamed B.named B.method).1
  have hlocks := B.notSynchronized
  obtain ⟨a1, a2, a3⟩ := mj_lay_s X ad as _ ls hl
  have hl0 := lv_entry (as.map (mj_tr X ad)) (n := mj_L y) a2
  rw [lg_entry_eq]
  refine k p e _ s m _ below meth c s.heap [] 0 0 _ ad _ ⟨B.exec, B.bytes, hml, hown, fun w hw => hts w (List.mem_cons_of_mem _ hw), fun hz => hname.trans hz, Nat.le_refl _, Nat.le_refl _, hKn, hOut⟩ (by show 0 + mc ≤ mc; omega) (by show 0 + ms ≤ ms; omega) ⟨hHp, va_S.rf, a1, mj_lvsub hl0 (fun q hq => ?_), fun v hv => absurd hv List.not_mem_nil, fun j v hv => hok v (a3 0 j v hv).2⟩ ?_
  · obtain ⟨v, q1, q2⟩ := mj_lv_mem.mp hq
    have q3 := (a3 0 q.1 v q1).1
    rw [Nat.zero_add, ← q2] at q3
    exact q3
  · intro ad' H' locs' pc' ls' he hle hHp' hS hokr hrI
    rw [Nat.zero_add, Nat.zero_add]
    match r, hokr, hrI with
    | none, hokr, hrI => exact W.vret B.exec B.bytes (B.returns.trans hrI.1) (fun t ht hW => ⟨⟨ad', he, hle, rfl, by rw [ht]; exact hHp', hokr⟩, hS.F ht⟩) hS.2.2 hrI.2
    | some (.inl x), hokr, hrI =>
      obtain ⟨⟨ty, t1, t2⟩, t3⟩ := hrI
      exact W.zret B.exec B.bytes (B.returns.trans t1) t2 (fun t ht hW => ⟨⟨ad', he, hle, rfl, by rw [ht]; exact hHp', hokr⟩, hS.F ht⟩) hS.2.2 t3
    | some (.inr (.inl x)), hokr, hrI => exact W.lret B.exec B.bytes (B.returns.trans hrI.1) (fun t ht hW => ⟨⟨ad', he, hle, rfl, by rw [ht]; exact hHp', hokr⟩, hS.F ht⟩) hS.2.2 hrI.2
    | some (.inr (.inr x)), hokr, hrI => exact absurd hrI id
/-! pictures that say the same -/
theorem mj_arrc {cA : ClassId} {n : Nat} {f g : Nat → Value} (h : ∀ j, j < n → f j = g j) : arrV cA n f = arrV cA n g := by
  unfold arrV
  have : (fun j : Fin n => f j.val) = fun j : Fin n => g j.val := funext (fun j => h j.val j.isLt)
  rw [this]
theorem mj_atc {ad ad2 : Nat → Nat} {h h2 : MH} {rf : Nat × Nat} {a : Nat} {H : Heap} (h4 : (mj_tk rf.1).1 ≤ 4) (h1 : 1 ≤ (mj_tk rf.1).1) (he : ∀ j, j < (mj_tk rf.1).2.2 → h2.1 rf.1 rf.2 j = h.1 rf.1 rf.2 j ∧ h2.2.1 rf.1 rf.2 j = h.2.1 rf.1 rf.2 j ∧ mj_orf X ad2 (h2.2.2.1 rf.1 rf.2 j) = mj_orf X ad (h.2.2.1 rf.1 rf.2 j)) (hat : va_at (fx_D X) mj_cl (a, mj_cel X ad h rf) H) : va_at (fx_D X) mj_cl (a, mj_cel X ad2 h2 rf) H := by
  rcases (show (mj_tk rf.1).1 = 1 ∨ (mj_tk rf.1).1 = 2 ∨ (mj_tk rf.1).1 = 3 ∨ (mj_tk rf.1).1 = 4 by omega) with e | e | e | e
  · rw [mj_cel1 e] at hat ⊢
    have : (List.range (mj_tk rf.1).2.2).map (mj_fv X ad2 h2 (mj_tk rf.1).2.1 rf) = (List.range (mj_tk rf.1).2.2).map (mj_fv X ad h (mj_tk rf.1).2.1 rf) := by
      apply List.map_congr_left
      intro j hj
      obtain ⟨q1, -, q3⟩ := he j (List.mem_range.mp hj)
      unfold mj_fv
      rw [q1, q3]
    rw [this]
    exact hat
  · rw [mj_cel2 e] at hat ⊢
    have hat : H[a]? = some (vp_cell _ _) := hat
    show H[a]? = some (vp_cell _ _)
    rw [hat]
    congr 1
    rw [vp_cell_i, vp_cell_i]
    exact mj_arrc (fun j hj => by rw [(he j hj).1])
  · rw [mj_cel3 e] at hat ⊢
    have hat : H[a]? = some (vp_cell _ _) := hat
    show H[a]? = some (vp_cell _ _)
    rw [hat]
    congr 1
    rw [vp_cell_l, vp_cell_l]
    exact mj_arrc (fun j hj => by rw [(he j hj).2.1])
  · rw [mj_cel4 e] at hat ⊢
    have hat : H[a]? = some (vp_cell _ _) := hat
    show H[a]? = some (vp_cell _ _)
    rw [hat]
    congr 1
    rw [vp_cell_q, vp_cell_q]
    exact mj_arrc (fun j hj => by rw [(he j hj).2.2])
/-- the same picture, told otherwise -/
def mj_eqv (h h2 : MH) : Prop := h2.2.2.2 = h.2.2.2 ∧ (∀ k j, k < h.2.2.2 → j < (mj_tk (mj_at k).1).2.2 → h2.1 (mj_at k).1 (mj_at k).2 j = h.1 (mj_at k).1 (mj_at k).2 j ∧ h2.2.1 (mj_at k).1 (mj_at k).2 j = h.2.1 (mj_at k).1 (mj_at k).2 j ∧ h2.2.2.1 (mj_at k).1 (mj_at k).2 j = h.2.2.1 (mj_at k).1 (mj_at k).2 j) ∧ h2.1 1 = h.1 1
theorem mj_wlen {ad : Nat → Nat} {h : MH} : (mj_ws X ad h).length = h.2.2.2 := by simp [mj_ws]
theorem mj_Dc {ad ad2 : Nat → Nat} {h h2 : MH} (hn : h2.2.2.2 = h.2.2.2) (ha : ∀ k, k < h.2.2.2 → ad2 k = ad k) (hD : va_D (fx_P X) (mj_ws X ad h)) : va_D (fx_P X) (mj_ws X ad2 h2) := by
  have key : ∀ (i : Nat) (q : Nat × va_E), (mj_ws X ad2 h2)[i]? = some q → ∃ q', (mj_ws X ad h)[i]? = some q' ∧ q'.1 = q.1 := by
    intro i q hi
    have hl := (List.getElem?_eq_some_iff.mp hi).1
    rw [mj_wlen, hn] at hl
    rw [mj_wsg (by rw [hn]; exact hl)] at hi
    cases hi
    exact ⟨_, mj_wsg hl, (ha i hl).symm⟩
  refine ⟨fun i j p q hi hj e => ?_, fun k q hk => ?_⟩
  · obtain ⟨p', g1, g2⟩ := key i p hi
    obtain ⟨q', g3, g4⟩ := key j q hj
    exact hD.1 i j p' q' g1 g3 (by rw [g2, g4, e])
  · obtain ⟨q', g1, g2⟩ := key k q hk
    rw [← g2]
    exact hD.2 k q' g1
theorem mj_Hpc {ad : Nat → Nat} {h h2 : MH} {H : Heap} (he : mj_eqv h h2) (hH : mj_Hp X ad h H) : mj_Hp X ad h2 H := by
  obtain ⟨hn, hc, h1⟩ := he
  obtain ⟨hP, hD, hk, hs, h8⟩ := hH
  refine ⟨fun i q hi => ?_, mj_Dc hn (fun _ _ => rfl) hD, fun k rf g1 g2 j hj => ?_, fun hg => ?_, hn ▸ h8⟩
  · have hl := (List.getElem?_eq_some_iff.mp hi).1
    rw [mj_wlen, hn] at hl
    rw [mj_wsg (by rw [hn]; exact hl)] at hi
    cases hi
    obtain ⟨-, -, t1, t2, -⟩ := mj_tag i (by omega)
    exact mj_atc t2 t1 (fun j hj => ⟨(hc i j hl hj).1, (hc i j hl hj).2.1, by rw [(hc i j hl hj).2.2]⟩) (hP i _ (mj_wsg hl))
  · obtain ⟨q1, q2⟩ := mj_al_lt g2
    subst q2
    rw [hn] at g1 ⊢
    rw [(hc k j g1 hj).2.2]
    exact hk k _ g1 g2 j hj
  · obtain ⟨a1, a2, a3⟩ := hs hg
    exact ⟨fun j hj => by rw [h1]; exact a1 j hj, by rw [h1]; exact a2, a3⟩
theorem GB.pic {pc : Nat} {ls : ML} {st : List MV} {h h2 : MH} (he : mj_eqv h h2) (k : GB l X d mc ms y (pc, ls, st, h2) r h') : GB l X d mc ms y (pc, ls, st, h) r h' := by
  intro p e R s m args below meth c H locs cells slots Q ad lsR C hc1 hc2 I kret
  obtain ⟨hH, hS, hL, hl, hok, hlo⟩ := I
  change ∀ v ∈ st, mj_okv X h.2.2.2 v at hok
  change ∀ j v, mj_nth ls j = some v → mj_okv X h.2.2.2 v at hlo
  have hn := he.1
  refine k p e R s m args below meth c H locs cells slots Q ad lsR C hc1 hc2 ⟨mj_Hpc he hH, hS, hL, hl, fun v hv => ?_, fun j v hv => ?_⟩ ?_
  · show mj_okv X h2.2.2.2 v
    rw [hn]
    exact hok v hv
  · show mj_okv X h2.2.2.2 v
    rw [hn]
    exact hlo j v hv
  · intro ad' H' locs' pc' ls' g1 g2
    have g1 : ∀ k, k < h2.2.2.2 → ad' k = ad k := g1
    have g2 : h2.2.2.2 ≤ h'.2.2.2 := g2
    rw [hn] at g1 g2
    exact kret ad' H' locs' pc' ls' g1 g2
end MD
