/-! RUNS OF KNOWN NUMBERS, by evaluation -/
def mj_run : Nat → Nat → Nat → MS → Option (Option MV × MH × Nat × Nat)
  | 0, _, _, _ => none
  | n + 1, d, y, s => match mj_ins y s.1 with
    | none => none
    | some q => match mj_stp q s with
      | some (c, s1) => cond (c.all id) (mj_run n d y s1) none
      | none => match mj_brb q s with
        | some s1 => mj_run n d y s1
        | none => match mj_mak q s with
          | some (k, s1) => match mj_run n d y s1 with
            | some (r, h, a, b) => some (r, h, a + 1, b + k)
            | none => none
          | none => match mj_ret y q s with
            | some (c, r, h) => cond (c.all id) (some (r, h, 0, 0)) none
            | none => match d with
              | 0 => none
              | d' + 1 => match mj_cll q s with
                | none => none
                | some (y', as, pc, ls, st, h) => match mj_lay as (mj_L y') with
                  | none => none
                  | some ls' => cond (Nat.blt 0 y' && Nat.blt y' mj_nm) (match mj_run n d' y' (0, ls', [], h) with
                    | none => none
                    | some (r1, h1, a1, b1) => match mj_run n (d' + 1) y (pc, ls, mj_pus r1 st, h1) with
                      | none => none
                      | some (r2, h2, a2, b2) => some (r2, h2, a1 + a2, b1 + b2)) none
theorem mj_allid : ∀ {c : List Bool}, c.all id = true → mj_all c
  | [], _ => trivial
  | b :: l, h => by
    simp only [List.all_cons, id, Bool.and_eq_true] at h
    exact ⟨h.1, mj_allid h.2⟩
set_option maxHeartbeats 4000000 in
set_option maxRecDepth 100000 in
theorem mj_brbs {q : MI} {s s1 : MS} (h : mj_brb q s = some s1) : ∃ (P : Prop) (s2 s3 : MS), mj_brk q s = some (P, s2, s3) ∧ (P → s1 = s2) ∧ (¬ P → s1 = s3) := by
  obtain ⟨pc, ls, stk, hp⟩ := s
  obtain ⟨i, n, w, a, b, cq⟩ := q
  unfold mj_brb at h
  unfold mj_brk
  cases i with
  | ifCond cc o =>
    dsimp only at h ⊢
    split at h
    · rename_i x rs
      cases cc <;> (cases h; refine ⟨_, _, _, rfl, fun g => ?_, fun g => ?_⟩ <;> simp [g])
    · cases h
  | if_icmp cc o =>
    dsimp only at h ⊢
    split at h
    · rename_i x z rs
      cases cc <;> (cases h; refine ⟨_, _, _, rfl, fun g => ?_, fun g => ?_⟩ <;> simp [g])
    · cases h
  | _ => exact nomatch (show (none : Option MS) = some s1 from h)
theorem mj_runs {l : Launch} {X : FX} : ∀ (n d y : Nat) (s : MS) (r : Option MV) (h : MH) (a b : Nat), mj_run n d y s = some (r, h, a, b) → GB l X d a b y s r h := by
  intro n
  induction n with
  | zero =>
    intro d y s r h a b e
    cases e
  | succ n ih =>
    intro d y s r h a b e
    unfold mj_run at e
    cases hi : mj_ins y s.1 with
    | none => rw [hi] at e; cases e
    | some q =>
      rw [hi] at e
      dsimp only at e
      cases hs : mj_stp q s with
      | some z =>
        obtain ⟨c, s1⟩ := z
        rw [hs] at e
        dsimp only at e
        cases hc : c.all id with
        | false => rw [hc] at e; cases e
        | true =>
          rw [hc] at e
          exact GB.stp hi hs (mj_allid hc) (ih d y s1 r h a b e)
      | none =>
        rw [hs] at e
        dsimp only at e
        cases hb : mj_brb q s with
        | some s1 =>
          rw [hb] at e
          obtain ⟨P, s2, s3, g1, g2, g3⟩ := mj_brbs hb
          have k := ih d y s1 r h a b e
          exact GB.br hi g1 (fun g => g2 g ▸ k) (fun g => g3 g ▸ k)
        | none =>
          rw [hb] at e
          dsimp only at e
          cases hm : mj_mak q s with
          | some z =>
            obtain ⟨k, s1⟩ := z
            rw [hm] at e
            dsimp only at e
            cases hr : mj_run n d y s1 with
            | none => rw [hr] at e; cases e
            | some z =>
              obtain ⟨r1, h1, a1, b1⟩ := z
              rw [hr] at e
              cases e
              exact GB.mak hi hm (ih d y s1 _ _ _ _ hr)
          | none =>
            rw [hm] at e
            dsimp only at e
            cases ht : mj_ret y q s with
            | some z =>
              obtain ⟨c, r1, h1⟩ := z
              rw [ht] at e
              dsimp only at e
              cases hc : c.all id with
              | false => rw [hc] at e; cases e
              | true =>
                rw [hc] at e
                cases e
                exact GB.ret hi ht (mj_allid hc)
            | none =>
              rw [ht] at e
              dsimp only at e
              cases d with
              | zero => cases e
              | succ d =>
                dsimp only at e
                cases hcl : mj_cll q s with
                | none => rw [hcl] at e; cases e
                | some z =>
                  obtain ⟨y', as, pc, ls, st, h0⟩ := z
                  rw [hcl] at e
                  dsimp only at e
                  cases hla : mj_lay as (mj_L y') with
                  | none => rw [hla] at e; cases e
                  | some ls' =>
                    rw [hla] at e
                    dsimp only at e
                    cases hy : (Nat.blt 0 y' && Nat.blt y' mj_nm) with
                    | false => rw [hy] at e; cases e
                    | true =>
                      rw [hy] at e
                      simp only [Bool.and_eq_true] at hy
                      dsimp only [cond_true] at e
                      cases hr1 : mj_run n d y' (0, ls', [], h0) with
                      | none => rw [hr1] at e; cases e
                      | some z =>
                        obtain ⟨r1, h1, a1, b1⟩ := z
                        rw [hr1] at e
                        dsimp only at e
                        cases hr2 : mj_run n (d + 1) y (pc, ls, mj_pus r1 st, h1) with
                        | none => rw [hr2] at e; cases e
                        | some z =>
                          obtain ⟨r2, h2, a2, b2⟩ := z
                          rw [hr2] at e
                          cases e
                          exact GB.call hi hcl (Nat.le_refl _) (SB.of (Nat.blt_eq.mp hy.1) (Nat.blt_eq.mp hy.2) hla (ih d y' _ _ _ _ _ hr1)) (ih (d + 1) y _ _ _ _ _ hr2)
