/-! THE RULES of a run: steps, branches, switches, answers -/
theorem mj_all_app : ∀ {c d : List Bool}, mj_all (c ++ d) → mj_all c ∧ mj_all d
  | [], _, h => ⟨trivial, h⟩
  | _ :: _, _, h => ⟨⟨h.1, (mj_all_app h.2).1⟩, (mj_all_app h.2).2⟩
theorem aB0 : mj_all [] := trivial
theorem aB1 {b : Bool} {l : List Bool} (h1 : b = true) (h2 : mj_all l) : mj_all (b :: l) := ⟨h1, h2⟩
section MR
variable {l : Launch} {X : FX} {d mc ms y : Nat} {r : Option MV} {h' : MH}
theorem GB.stp {q : MI} {s s1 : MS} {cs : List Bool} (hi : mj_ins y s.1 = some q) (hs : mj_stp q s = some (cs, s1)) (hc : mj_all cs) (k : GB l X d mc ms y s1 r h') : GB l X d mc ms y s r h' := by
  intro p e R st m args below meth c H locs cells slots Q ad lsR C h1 h2 I kret
  refine mj_step C (by omega) (by omega) hi hs hc I (fun H1 locs1 lsR1 hn I1 => ?_)
  refine k p e R st m args below meth c H1 locs1 cells slots Q ad lsR1 C h1 h2 I1 ?_
  rw [hn]
  exact kret
theorem GB.goK (e : Nat) : ∀ (k : Nat) {s s1 : MS} {c : List Bool}, mj_go y e k s = (c, s1) → mj_all c → GB l X d mc ms y s1 r h' → GB l X d mc ms y s r h' := by
  intro k
  induction k with
  | zero =>
    intro s s1 c hg hc hk
    cases hg
    exact hk
  | succ k ih =>
    intro s s1 c hg hc hk
    obtain ⟨pc, ls, st, h⟩ := s
    unfold mj_go at hg
    dsimp only at hg
    cases hi : mj_ins y pc with
    | none =>
      rw [hi] at hg
      cases hg
      exact hk
    | some q =>
      rw [hi] at hg
      dsimp only at hg
      cases hs : mj_stp q (pc, ls, st, h) with
      | none =>
        rw [hs] at hg
        cases hg
        exact hk
      | some z =>
        obtain ⟨c0, s2⟩ := z
        rw [hs] at hg
        dsimp only at hg
        cases hb : Nat.beq s2.1 e with
        | true =>
          rw [hb] at hg
          cases hg
          exact GB.stp hi hs hc hk
        | false =>
          rw [hb] at hg
          dsimp only at hg
          cases c0 with
          | nil => exact GB.stp hi hs trivial (ih hg hc hk)
          | cons b0 c1 =>
            dsimp only at hg
            cases hgo : mj_go y e k s2 with
            | mk d1 s3 =>
              rw [hgo] at hg
              cases hg
              obtain ⟨g1, g2⟩ := mj_all_app hc
              exact GB.stp hi hs g1 (ih hgo g2 hk)
/-- steps one behind another, until the place e (or as far as steps go) -/
theorem GB.go (e : Nat) {s s1 : MS} {c : List Bool} (hg : mj_go y e 300 s = (c, s1)) (hc : mj_all c) (k : GB l X d mc ms y s1 r h') : GB l X d mc ms y s r h' := GB.goK e 300 hg hc k
/-- another picture of the same -/
theorem GB.eqv {s s1 : MS} (e : s = s1) (k : GB l X d mc ms y s1 r h') : GB l X d mc ms y s r h' := e ▸ k
set_option maxHeartbeats 4000000 in
set_option maxRecDepth 100000 in
/-- a branch -/
theorem GB.br {q : MI} {s s1 s2 : MS} {P : Prop} (hi : mj_ins y s.1 = some q) (hs : mj_brk q s = some (P, s1, s2)) (k1 : P → GB l X d mc ms y s1 r h') (k2 : ¬ P → GB l X d mc ms y s2 r h') : GB l X d mc ms y s r h' := by
  intro p e R st m args below meth c H locs cells slots Q ad lsR C h1 h2 I kret
  have hck := mj_wrd hi
  obtain ⟨hd, hn⟩ := mj_dec hi
  obtain ⟨pc, ls, stk, ii, jj, rr, nn⟩ := s
  obtain ⟨i, n, w, a, b, cq⟩ := q
  obtain ⟨hx, hb, -⟩ := id C
  obtain ⟨hH, hS, hL, hl, hok, hlo⟩ := I
  change ∀ v ∈ stk, mj_okv X nn v at hok
  change decode (mj_B y) pc = _ at hd
  change n = pc + _ at hn
  show W p l e R st m args below meth c H locs cells slots Q (F0 m pc lsR (stk.map (mj_tr X ad)))
  unfold mj_brk at hs
  unfold mj_ck at hck
  cases i with
  | ifCond cc o =>
    obtain rfl : n = pc + 3 := hn
    dsimp only at hs hck
    have ht := of_decide_eq_true hck
    split at hs
    · rename_i x rs
      have go : ∀ t, GB l X d mc ms y (t, ls, rs, (ii, jj, rr, nn)) r h' → W p l e R st m args below meth c H locs cells slots Q (F0 m t lsR (rs.map (mj_tr X ad))) := fun t k => k p e R st m args below meth c H locs cells slots Q ad lsR C h1 h2 ⟨hH, hS, hL, hl, mj_okt hok, hlo⟩ kret
      cases cc with
      | eq =>
        have hd : decode (mj_B y) pc = .ok (.ifCond .eq o, 3) := hd
        cases hs
        exact lv_if_eq hx hb hd ht (fun g => go _ (k1 g)) (fun g => go _ (k2 g))
      | ne =>
        have hd : decode (mj_B y) pc = .ok (.ifCond .ne o, 3) := hd
        cases hs
        exact lv_if_ne hx hb hd ht (fun g => go _ (k2 g)) (fun g => go _ (k1 g))
      | lt =>
        have hd : decode (mj_B y) pc = .ok (.ifCond .lt o, 3) := hd
        cases hs
        exact lv_if_lt hx hb hd ht (fun g => go _ (k1 g)) (fun g => go _ (k2 g))
      | ge =>
        have hd : decode (mj_B y) pc = .ok (.ifCond .ge o, 3) := hd
        cases hs
        exact lv_if_ge hx hb hd ht (fun g => go _ (k1 g)) (fun g => go _ (k2 g))
      | gt =>
        have hd : decode (mj_B y) pc = .ok (.ifCond .gt o, 3) := hd
        cases hs
        exact lv_if_gt hx hb hd ht (fun g => go _ (k1 g)) (fun g => go _ (k2 g))
      | le =>
        have hd : decode (mj_B y) pc = .ok (.ifCond .le o, 3) := hd
        cases hs
        exact lv_if_le hx hb hd ht (fun g => go _ (k1 g)) (fun g => go _ (k2 g))
    · cases hs
  | if_icmp cc o =>
    obtain rfl : n = pc + 3 := hn
    dsimp only at hs hck
    have ht := of_decide_eq_true hck
    split at hs
    · rename_i x z rs
      have go : ∀ t, GB l X d mc ms y (t, ls, rs, (ii, jj, rr, nn)) r h' → W p l e R st m args below meth c H locs cells slots Q (F0 m t lsR (rs.map (mj_tr X ad))) := fun t k => k p e R st m args below meth c H locs cells slots Q ad lsR C h1 h2 ⟨hH, hS, hL, hl, mj_okt (mj_okt hok), hlo⟩ kret
      cases cc with
      | eq =>
        have hd : decode (mj_B y) pc = .ok (.if_icmp .eq o, 3) := hd
        cases hs
        exact lv_icmp_eq hx hb hd ht (fun g => go _ (k1 g)) (fun g => go _ (k2 g))
      | ne =>
        have hd : decode (mj_B y) pc = .ok (.if_icmp .ne o, 3) := hd
        cases hs
        exact lv_icmp_ne hx hb hd ht (fun g => go _ (k2 g)) (fun g => go _ (k1 g))
      | lt =>
        have hd : decode (mj_B y) pc = .ok (.if_icmp .lt o, 3) := hd
        cases hs
        exact lv_icmp_lt hx hb hd ht (fun g => go _ (k1 g)) (fun g => go _ (k2 g))
      | ge =>
        have hd : decode (mj_B y) pc = .ok (.if_icmp .ge o, 3) := hd
        cases hs
        exact lv_icmp_ge hx hb hd ht (fun g => go _ (k1 g)) (fun g => go _ (k2 g))
      | gt =>
        have hd : decode (mj_B y) pc = .ok (.if_icmp .gt o, 3) := hd
        cases hs
        exact lv_icmp_gt hx hb hd ht (fun g => go _ (k1 g)) (fun g => go _ (k2 g))
      | le =>
        have hd : decode (mj_B y) pc = .ok (.if_icmp .le o, 3) := hd
        cases hs
        exact lv_icmp_le hx hb hd ht (fun g => go _ (k1 g)) (fun g => go _ (k2 g))
    · cases hs
  | _ => exact nomatch (show (none : Option (Prop × MS × MS)) = some (P, s1, s2) from hs)
theorem mj_cks_s {pc : Nat} {lo : Int} (dflt : Nat) : ∀ (offs : List Int) (j : Nat) (tg : List (Int32 × Nat)), mj_cks pc lo j offs tg = true → ∀ x : Int32,
    (∃ (i : Nat) (o : Int), offs[i]? = some o ∧ x.toInt = lo + (j : Int) + (i : Int) ∧ (pc : Int) + o = ((mj_swt tg dflt x : Nat) : Int)) ∨ ((∀ i : Nat, i < offs.length → x.toInt ≠ lo + (j : Int) + (i : Int)) ∧ mj_swt tg dflt x = dflt)
  | [], _, [], _, _ => Or.inr ⟨fun i hi => absurd hi (Nat.not_lt_zero i), rfl⟩
  | [], _, _ :: _, h, _ => by simp [mj_cks] at h
  | _ :: _, _, [], h, _ => by simp [mj_cks] at h
  | o :: offs, j, (k, t) :: tg, h, x => by
    simp only [mj_cks, Bool.and_eq_true, decide_eq_true_eq] at h
    obtain ⟨⟨h1, h2⟩, h3⟩ := h
    unfold mj_swt
    by_cases hx : x = k
    · rw [if_pos hx]
      refine Or.inl ⟨0, o, rfl, ?_, h2⟩
      rw [hx, h1]
      omega
    · rw [if_neg hx]
      rcases mj_cks_s dflt offs (j + 1) tg h3 x with ⟨i, o2, g1, g2, g3⟩ | ⟨g1, g2⟩
      · refine Or.inl ⟨i + 1, o2, by simpa using g1, ?_, g3⟩
        rw [g2]
        omega
      · refine Or.inr ⟨fun i hi => ?_, g2⟩
        cases i with
        | zero =>
          intro q
          apply hx
          apply Int32.toInt_inj.mp
          rw [q, h1]
          omega
        | succ i =>
          have := g1 i (by simp at hi; omega)
          omega
set_option maxHeartbeats 4000000 in
set_option maxRecDepth 100000 in
/-- a switch -/
theorem GB.sw {q : MI} {s : MS} {x : Int32} {tg : List (Int32 × Nat)} {dflt : Nat} {ls : ML} {rs : List MV} {h : MH} (hi : mj_ins y s.1 = some q) (hs : mj_swi y q s = some (x, tg, dflt, ls, rs, h)) (k : GB l X d mc ms y (mj_swt tg dflt x, ls, rs, h) r h') : GB l X d mc ms y s r h' := by
  intro p e R st m args below meth c H locs cells slots Q ad lsR C h1 h2 I kret
  have hck := mj_wrd hi
  obtain ⟨hd, hn⟩ := mj_dec hi
  obtain ⟨pc, ls0, stk, ii, jj, rr, nn⟩ := s
  obtain ⟨i, n, w, a, b, cq⟩ := q
  obtain ⟨hx, hb, -⟩ := id C
  obtain ⟨hH, hS, hL, hl, hok, hlo⟩ := I
  change ∀ v ∈ stk, mj_okv X nn v at hok
  change decode (mj_B y) pc = _ at hd
  show W p l e R st m args below meth c H locs cells slots Q (F0 m pc lsR (stk.map (mj_tr X ad)))
  unfold mj_swi at hs
  unfold mj_ck at hck
  cases i with
  | tableswitch dd lo hi2 offs =>
    dsimp only at hs hck
    split at hs
    · rename_i x0 r0
      simp only [Bool.and_eq_true, decide_eq_true_eq] at hck
      obtain ⟨⟨c1, c2⟩, c3⟩ := hck
      cases hsw : mj_sw y pc with
      | mk tg0 d0 =>
        rw [hsw] at hs c1 c3
        cases hs
        have go : W p l e R st m args below meth c H locs cells slots Q (F0 m (mj_swt tg0 d0 x) lsR (rs.map (mj_tr X ad))) := k p e R st m args below meth c H locs cells slots Q ad lsR C h1 h2 ⟨hH, hS, hL, hl, mj_okt hok, hlo⟩ kret
        rcases mj_cks_s d0 _ 0 _ c3 x with ⟨i, o, g1, g2, g3⟩ | ⟨g1, g2⟩
        · have hlt : i < offs.size := by
            have := (List.getElem?_eq_some_iff.mp g1).1
            simpa using this
          refine lv_tableIn (off := o) hx hb hd (by omega) (by omega) ?_ g3 go
          rw [show (x.toInt - lo).toNat = i by omega, ← Array.getElem?_toList]
          exact g1
        · refine lv_tableOut (tgt := d0) hx hb hd ?_ c1 (g2 ▸ go)
          by_cases q1 : x.toInt < lo
          · exact Or.inl q1
          · by_cases q2 : hi2 < x.toInt
            · exact Or.inr q2
            · exact absurd (show x.toInt = lo + ((0 : Nat) : Int) + (((x.toInt - lo).toNat : Nat) : Int) by omega) (g1 _ (by simp; omega))
    · cases hs
  | _ => exact nomatch (show (none : Option (Int32 × List (Int32 × Nat) × Nat × ML × List MV × MH)) = some _ from hs)
set_option maxHeartbeats 4000000 in
set_option maxRecDepth 100000 in
/-- an answer -/
theorem GB.ret {q : MI} {s : MS} {cs : List Bool} (hi : mj_ins y s.1 = some q) (hs : mj_ret y q s = some (cs, r, h')) (hc : mj_all cs) : GB l X d mc ms y s r h' := by
  intro p e R st m args below meth c H locs cells slots Q ad lsR C h1 h2 I kret
  obtain ⟨hd, hn⟩ := mj_dec hi
  obtain ⟨pc, ls, stk, h⟩ := s
  obtain ⟨i, n, w, a, b, cq⟩ := q
  obtain ⟨hH, hS, hL, hl, hok, hlo⟩ := I
  refine W.widen (k := cells + mc) (n := slots + ms) (by omega) (by omega) ?_
  change decode (mj_B y) pc = _ at hd
  unfold mj_ret at hs
  cases i with
  | return_ =>
    have hd : decode (mj_B y) pc = .ok (.return_, 1) := hd
    dsimp only at hs
    split at hs
    · cases hs
      have hR : mj_R y = none := of_decide_eq_true (mj_wrd hi)
      exact kret ad H locs pc lsR (fun _ _ => rfl) (Nat.le_refl _) hH hS (fun v hv => by cases hv) ⟨hR, hd⟩
    · cases hs
  | lreturn =>
    have hd : decode (mj_B y) pc = .ok (.lreturn, 1) := hd
    dsimp only at hs
    split at hs
    · rename_i x
      cases hs
      have hR : mj_R y = some .long := of_decide_eq_true (mj_wrd hi)
      exact kret ad H locs pc lsR (fun _ _ => rfl) (Nat.le_refl _) hH hS (fun v hv => by cases hv; trivial) ⟨hR, hd⟩
    · cases hs
  | ireturn =>
    have hd : decode (mj_B y) pc = .ok (.ireturn, 1) := hd
    dsimp only at hs
    split at hs
    · rename_i x
      have fin : ∀ ty : FieldType, mj_R y = some ty → narrow ty (.int x) = .int x → r = some (vI x) → h' = h → W p l e R st m args below meth c H locs (cells + mc) (slots + ms) Q (F0 m pc lsR [.int x]) := by
        intro ty e1 e2 e3 e4
        subst e3
        subst e4
        exact kret ad H locs pc lsR (fun _ _ => rfl) (Nat.le_refl _) hH hS (fun v hv => by cases hv; trivial) ⟨⟨ty, e1, e2⟩, hd⟩
      split at hs
      · rename_i hR
        cases hs
        exact fin .int hR rfl rfl rfl
      · rename_i hR
        cases hs
        have hx01 : x = 0 ∨ x = 1 := of_decide_eq_true hc.1
        exact fin .boolean hR (by rcases hx01 with rfl | rfl <;> rfl) rfl rfl
      · rename_i hR
        cases hs
        have hb1 : x.toInt8.toInt32 = x := of_decide_eq_true hc.1
        exact fin .byte hR (by rw [← hb1]; exact pk_nb _) rfl rfl
      · rename_i hR
        cases hs
        have hb1 : (x.toUInt32 % 65536).toInt32 = x := of_decide_eq_true hc.1
        exact fin .char hR (by rw [← hb1]; exact pk_nc _) rfl rfl
      · cases hs
    · cases hs
  | _ => exact nomatch (show (none : Option (List Bool × Option MV × MH)) = some _ from hs)
end MR
