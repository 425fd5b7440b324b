/-! MAKINGS, AND RUNS OF KNOWN NUMBERS -/
abbrev mj_h1 (h : MH) (a k0 : Nat) : MH := (upA h.1 a k0 (fun _ => 0), upA h.2.1 a k0 (fun _ => 0), upA h.2.2.1 a k0 (fun _ => (0, 0)), h.2.2.2 + 1)
def mj_ad (ad : Nat → Nat) (n q : Nat) : Nat → Nat := fun k => if k = n then q else ad k
theorem mj_ad_lt {ad : Nat → Nat} {n q k : Nat} (h : k < n) : mj_ad ad n q k = ad k := if_neg (Nat.ne_of_lt h)
theorem mj_ad_n {ad : Nat → Nat} {n q : Nat} : mj_ad ad n q n = q := if_pos rfl
section ME
variable {l : Launch} {X : FX} {d mc ms y : Nat} {p : Program} {e : Env} {R : Room} {st : State} {m : MethodId} {args : Array Value} {below : List Frame} {meth : Method} {c : Code} {H : Heap} {locs : List Loc} {cells slots : Nat} {Q : State → Prop} {ad : Nat → Nat} {lsR : Array Slot}
theorem mj_grow {h : MH} {H1 : Heap} {q a k0 : Nat} {ce : va_E} (hH : mj_Hp X ad h H) (hal : mj_al[h.2.2.2]? = some (a, k0)) (hP : va_P (fx_D X) mj_cl (mj_ws X ad h ++ [(q, ce)]) H1) (hD : va_D (fx_P X) (mj_ws X ad h ++ [(q, ce)])) (hcel : mj_cel X (mj_ad ad h.2.2.2 q) (mj_h1 h a k0) (a, k0) = ce) : mj_Hp X (mj_ad ad h.2.2.2 q) (mj_h1 h a k0) H1 := by
  obtain ⟨m8, mat⟩ := mj_al_lt hal
  obtain ⟨-, -, hk, hs, h8⟩ := hH
  have hne : ∀ k, k < h.2.2.2 → mj_at k ≠ (a, k0) := fun k hk2 q => by
    have := mj_at_inj (j := k) (k := h.2.2.2) (by omega) m8 (q.trans mat.symm)
    omega
  have hl : (mj_ws X ad h).length = h.2.2.2 := mj_wlen
  have glow : ∀ k, k < h.2.2.2 → (mj_ws X ad h ++ [(q, ce)])[k]? = some (ad k, mj_cel X ad h (mj_at k)) := fun k hk2 => by rw [List.getElem?_append_left (by rw [hl]; exact hk2), mj_wsg hk2]
  have ghi : (mj_ws X ad h ++ [(q, ce)])[h.2.2.2]? = some (q, ce) := by rw [List.getElem?_append_right (by rw [hl]; exact Nat.le_refl _), hl, Nat.sub_self]; rfl
  have key : ∀ (i : Nat) (z : Nat × va_E), (mj_ws X (mj_ad ad h.2.2.2 q) (mj_h1 h a k0))[i]? = some z → i < h.2.2.2 + 1 ∧ z = (mj_ad ad h.2.2.2 q i, mj_cel X (mj_ad ad h.2.2.2 q) (mj_h1 h a k0) (mj_at i)) := by
    intro i z hi
    have hl2 := (List.getElem?_eq_some_iff.mp hi).1
    rw [mj_wlen] at hl2
    rw [mj_wsg hl2] at hi
    exact ⟨hl2, (Option.some.inj hi).symm⟩
  refine ⟨fun i z hi => ?_, ⟨fun i j z1 z2 hi hj he => ?_, fun i z hi => ?_⟩, fun k rf g1 g2 j hj => ?_, fun hg => ?_, by show h.2.2.2 + 1 ≤ 108; omega⟩
  · obtain ⟨g1, rfl⟩ := key i z hi
    by_cases him : i = h.2.2.2
    · subst him
      rw [mj_ad_n, mat, hcel]
      exact hP _ _ ghi
    · have hil : i < h.2.2.2 := by omega
      rw [mj_ad_lt hil]
      obtain ⟨-, -, t1, t2, -⟩ := mj_tag i (by omega)
      refine mj_atc t2 t1 (fun j hj => ⟨?_, ?_, ?_⟩) (hP _ _ (glow i hil))
      · show upA h.1 a k0 (fun _ => 0) (mj_at i).1 (mj_at i).2 j = _
        rw [upA_ne (hne i hil)]
      · show upA h.2.1 a k0 (fun _ => 0) (mj_at i).1 (mj_at i).2 j = _
        rw [upA_ne (hne i hil)]
      · show mj_orf X _ (upA h.2.2.1 a k0 (fun _ => (0, 0)) (mj_at i).1 (mj_at i).2 j) = _
        rw [upA_ne (hne i hil)]
        exact mj_orf_ext (hk i _ hil (mj_al_at (by omega)) j hj) (fun k hk2 => mj_ad_lt hk2)
  · obtain ⟨g1, rfl⟩ := key i z1 hi
    obtain ⟨g2, rfl⟩ := key j z2 hj
    have he : mj_ad ad h.2.2.2 q i = mj_ad ad h.2.2.2 q j := he
    by_cases him : i = h.2.2.2
    · by_cases hjm : j = h.2.2.2
      · omega
      · subst him
        rw [mj_ad_n, mj_ad_lt (show j < h.2.2.2 by omega)] at he
        exact hD.1 _ _ _ _ ghi (glow j (by omega)) he
    · by_cases hjm : j = h.2.2.2
      · subst hjm
        rw [mj_ad_n, mj_ad_lt (show i < h.2.2.2 by omega)] at he
        exact hD.1 _ _ _ _ (glow i (by omega)) ghi he
      · rw [mj_ad_lt (show i < h.2.2.2 by omega), mj_ad_lt (show j < h.2.2.2 by omega)] at he
        exact hD.1 _ _ _ _ (glow i (by omega)) (glow j (by omega)) he
  · obtain ⟨g1, rfl⟩ := key i z hi
    by_cases him : i = h.2.2.2
    · subst him
      show fx_P X (mj_ad ad h.2.2.2 q h.2.2.2)
      rw [mj_ad_n]
      exact hD.2 _ _ ghi
    · show fx_P X (mj_ad ad h.2.2.2 q i)
      rw [mj_ad_lt (by omega)]
      exact hD.2 _ _ (glow i (by omega))
  · have g1 : k < h.2.2.2 + 1 := g1
    obtain ⟨q1, q2⟩ := mj_al_lt g2
    show mj_okr X (h.2.2.2 + 1) (upA h.2.2.1 a k0 (fun _ => (0, 0)) rf.1 rf.2 j)
    by_cases hkm : k = h.2.2.2
    · subst hkm
      have : rf = (a, k0) := q2.symm.trans mat
      subst this
      show mj_okr X _ (upA h.2.2.1 a k0 (fun _ => (0, 0)) a k0 j)
      rw [upA_at]
      exact Or.inl rfl
    · have hkl : k < h.2.2.2 := by omega
      rw [upA_ne (q2 ▸ hne k hkl)]
      exact mj_okr_mono (hk k rf hkl g2 j hj) (Nat.le_succ _)
  · obtain ⟨a1, a2, a3⟩ := hs hg
    have h5 : 5 ≤ a := by
      have := (mj_tag _ m8).1
      rw [mat] at this
      exact this
    exact ⟨fun j hj => by show upA h.1 a k0 (fun _ => 0) 1 0 j = _; rw [upA_1 h5]; exact a1 j hj, by show upA h.1 a k0 (fun _ => 0) 1 1 0 = _; rw [upA_1 h5]; exact a2, a3⟩
theorem mj_tkl {t : Nat} (h : 0 < (mj_tk t).1) : (mj_tk t).2.2 ≤ 160 := by
  obtain ⟨h5, h33⟩ := mj_tk_own h
  have : ∀ t, t < 34 → (mj_tk t).2.2 ≤ 160 := by decide +kernel
  exact this t (by omega)
theorem mj_dfl {ci k : Nat} (hc : ci < 13) (hk : k < mj_cf ci) : defaultValue (mj_Ty ci k) = (match mj_fr ci k with
  | true => Value.null
  | false => Value.int 0) := by
  obtain ⟨h1, h2⟩ := mj_frty ci hc k hk
  cases hf : mj_fr ci k with
  | true =>
    have h3 := h1.mp hf
    revert h3
    cases mj_Ty ci k <;> intro h3 <;> first | rfl | (exact absurd h3 (by decide)) | (cases h3)
  | false =>
    have h3 := h2.mp hf
    revert h3
    cases mj_Ty ci k <;> intro h3 <;> first | rfl | (exact absurd h3 (by simp [mj_tyk]))
set_option maxHeartbeats 4000000 in
set_option maxRecDepth 100000 in
theorem mj_makr {q : MI} {s s1 : MS} {k : Nat} (C : mj_C X d y p R st m args meth c) (hcc : cells + 1 ≤ R.cells) (hss : slots + k ≤ R.slots) (hi : mj_ins y s.1 = some q) (hs : mj_mak q s = some (k, s1)) (I : mj_I X ad y s st H locs lsR)
    (kk : ∀ (ad' : Nat → Nat) (H1 : Heap), (∀ j, j < s.2.2.2.2.2.2 → ad' j = ad j) → s1.2.2.2.2.2.2 = s.2.2.2.2.2.2 + 1 → mj_I X ad' y s1 st H1 locs lsR → W p l e R st m args below meth c H1 locs (cells + 1) (slots + k) Q (F0 m s1.1 lsR (s1.2.2.1.map (mj_tr X ad')))) : W p l e R st m args below meth c H locs cells slots Q (F0 m s.1 lsR (s.2.2.1.map (mj_tr X ad))) := by
  obtain ⟨pc, ls, stk, ii, jj, rr, nn⟩ := s
  have hck := mj_wrd hi
  obtain ⟨hd, hn⟩ := mj_dec hi
  obtain ⟨i, n, w, a, b, cq⟩ := q
  obtain ⟨hx, hb, hml, hown, hts, hmn, hfr, hlo8, hKn, hOut⟩ := id C
  obtain ⟨hH, hS, hL, hl, hok, hlo⟩ := I
  change mj_Hp X ad (ii, jj, rr, nn) H at hH
  change lv_has lsR (mj_L y) (mj_lv X ad ls) at hl
  change ∀ v ∈ stk, mj_okv X nn v at hok
  change ∀ j v, mj_nth ls j = some v → mj_okv X nn v at hlo
  change decode (mj_B y) pc = _ at hd
  change n = pc + _ at hn
  have hA : ∀ q, st.heap.size ≤ q → fx_P X q := fun q hq => Nat.le_trans hOut.2.2.2.2.2.2 hq
  show W p l e R st m args below meth c H locs cells slots Q (F0 m pc lsR (stk.map (mj_tr X ad)))
  unfold mj_mak at hs
  unfold mj_ck at hck
  dsimp only at hs
  cases hal : mj_al[nn]? with
  | none => rw [hal] at hs; cases hs
  | some z =>
    obtain ⟨t', k0⟩ := z
    rw [hal] at hs
    dsimp only at hs
    cases hbq : Nat.beq a t' with
    | false => rw [hbq] at hs; cases hs
    | true =>
      rw [hbq] at hs
      obtain rfl := Nat.eq_of_beq_eq_true hbq
      obtain ⟨m8, mat⟩ := mj_al_lt hal
      have htr : ∀ q, mj_tr X (mj_ad ad nn q) (vR a k0) = .ref q := fun q => by
        show va_rf (mj_orf X _ (a, k0)) = _
        rw [← mat, mj_orf_own X _ m8, mj_ad_n]
        rfl
      have hnew : mj_okr X (nn + 1) (a, k0) := Or.inr (Or.inr (Or.inr (Or.inr (Or.inr ⟨nn, Nat.lt_succ_self _, hal⟩))))
      have fin : ∀ (rs : List MV) (q : Nat) (H1 : Heap), (∀ v ∈ rs, v ∈ stk) → mj_Hp X (mj_ad ad nn q) (mj_h1 (ii, jj, rr, nn) a k0) H1 → va_S (fx_P X) st.heap H1 locs → s1 = (n, ls, vR a k0 :: rs, mj_h1 (ii, jj, rr, nn) a k0) → W p l e R st m args below meth c H1 locs (cells + 1) (slots + k) Q (F0 m n lsR (.ref q :: rs.map (mj_tr X ad))) := by
        intro rs q H1 hrs hHp hS1 e1
        subst e1
        have h2 := kk (mj_ad ad nn q) H1 (fun j hj => mj_ad_lt hj) rfl ⟨hHp, hS1, hL, mj_lvsub hl (mj_lv_ext hlo (fun j hj => mj_ad_lt hj)), mj_okc hnew (fun v hv => mj_okv_mono (hok v (hrs v hv)) (Nat.le_succ _)), fun j v hv => mj_okv_mono (hlo j v hv) (Nat.le_succ _)⟩
        rw [← htr q, ← mj_map_ext (ad' := mj_ad ad nn q) (fun v hv => hok v (hrs v hv)) (fun j hj => mj_ad_lt hj)]
        exact h2
      cases i with
      | new x =>
        obtain rfl : n = pc + 3 := hn
        have hd : decode (mj_B y) pc = .ok (.new x, 3) := hd
        dsimp only [cond_true] at hs hck
        simp only [Bool.and_eq_true, decide_eq_true_eq] at hck
        obtain ⟨⟨⟨c1, c2⟩, c3⟩, c4⟩ := hck
        obtain ⟨g1, g2⟩ := mj_tk_obj c1
        have e0 := Option.some.inj hs
        have ek : (mj_tk a).2.2 = k := congrArg Prod.fst e0
        have es := congrArg Prod.snd e0
        rw [← ek, g2] at hss fin
        rw [g2] at c3
        refine va_new (ci := (mj_tk a).2.1) (fs := (List.range (mj_cf (mj_tk a).2.1)).map (fun j => match mj_fr (mj_tk a).2.1 j with
          | true => Value.null
          | false => Value.int 0)) (C := mj_cn (mj_tk a).2.1) (T := mj_T (mj_tk a).2.1) (N := mj_cf (mj_tk a).2.1) hx hb hts (mj_clw g1) (mj_Ty (mj_tk a).2.1) (mj_clt _ g1) hown (hts _ (mj_inT_mem c2)) (hts _ (mj_inT_mem c3)) (hts _ (mj_inT_mem c4)) hKn.1 hH.1 hH.2.1 hS hA (mj_clg g1) (fun j hj => ?_) hcc hss hd (fun q H1 hP hD hS1 => ?_)
        · rw [mj_dfl g1 hj]
          unfold vp_V
          rw [List.getD_eq_getElem?_getD, List.getElem?_map, List.getElem?_range hj]
          rfl
        · refine fin stk q H1 (fun v hv => hv) (mj_grow hH hal hP hD ?_) hS1 es.symm
          rw [mj_cel1 c1, g2]
          congr 2
          apply List.map_congr_left
          intro j hj
          unfold mj_fv
          show (match mj_fr (mj_tk a).2.1 j with
            | true => va_rf (mj_orf X (mj_ad ad nn q) (upA rr a k0 (fun _ => (0, 0)) a k0 j))
            | false => Value.int (upA ii a k0 (fun _ => 0) a k0 j)) = _
          rw [upA_at, upA_at]
          rfl
      | newarray ty =>
        obtain rfl : n = pc + 2 := hn
        have hd : decode (mj_B y) pc = .ok (.newarray ty, 2) := hd
        dsimp only [cond_true] at hs hck
        simp only [Bool.and_eq_true, Bool.or_eq_true, decide_eq_true_eq] at hck
        obtain ⟨c1, c2⟩ := hck
        split at hs
        · rename_i x r2
          cases hxx : decide (x = nI (mj_tk a).2.2) with
          | false => rw [hxx] at hs; cases hs
          | true =>
            rw [hxx] at hs
            have hxx := of_decide_eq_true hxx
            subst hxx
            have e0 := Option.some.inj hs
            have ek : (mj_tk a).2.2 = k := congrArg Prod.fst e0
            have es := congrArg Prod.snd e0
            subst ek
            have hpos : 0 < (mj_tk a).1 := by omega
            have hlen := mj_tkl hpos
            rcases c1 with ⟨c1, ct⟩ | ⟨c1, ct⟩
            · refine va_newa (a0 := ((mj_tk a).2.2, .inl (fun _ => 0))) hx hb (hts _ (mj_inT_mem c2)) ct hKn.1 hH.1 hH.2.1 hS hA (fun _ => rfl) (nI_pos (by omega)) (nI_clamp (by omega)) (by show _ * 4 ≤ _; omega) hcc hss hd (fun q cA H1 hK2 hP hD hS1 => ?_)
              have hcA : cA = fx_A X 0 := Option.some.inj ((hK2.2 6 (cA, .int) rfl).2.symm.trans (hKn.1.2 0 (fx_A X 0, .int) rfl).2)
              subst hcA
              refine fin r2 q H1 (fun v hv => List.mem_cons_of_mem _ hv) (mj_grow hH hal hP hD ?_) hS1 es.symm
              rw [mj_cel2 c1]
              show (Sum.inl (fx_A X 0, (mj_tk a).2.2, Sum.inl (upA ii a k0 _ a k0)) : va_E) = _
              rw [upA_at]
            · refine va_newa (a0 := ((mj_tk a).2.2, .inr (.inl (fun _ => 0)))) hx hb (hts _ (mj_inT_mem c2)) ct hKn.1 hH.1 hH.2.1 hS hA (fun _ => rfl) (nI_pos (by omega)) (nI_clamp (by omega)) (by show _ * 8 ≤ _; omega) hcc hss hd (fun q cA H1 hK2 hP hD hS1 => ?_)
              have hcA : cA = fx_A X 1 := Option.some.inj ((hK2.2 6 (cA, .long) rfl).2.symm.trans (hKn.1.2 1 (fx_A X 1, .long) rfl).2)
              subst hcA
              refine fin r2 q H1 (fun v hv => List.mem_cons_of_mem _ hv) (mj_grow hH hal hP hD ?_) hS1 es.symm
              rw [mj_cel3 c1]
              show (Sum.inl (fx_A X 1, (mj_tk a).2.2, Sum.inr (Sum.inl (upA jj a k0 _ a k0))) : va_E) = _
              rw [upA_at]
        · cases hs
      | anewarray x =>
        obtain rfl : n = pc + 3 := hn
        have hd : decode (mj_B y) pc = .ok (.anewarray x, 3) := hd
        dsimp only [cond_true] at hs hck
        simp only [Bool.and_eq_true, decide_eq_true_eq] at hck
        obtain ⟨c1, c2⟩ := hck
        split at hs
        · rename_i x0 r2
          cases hxx : decide (x0 = nI (mj_tk a).2.2) with
          | false => rw [hxx] at hs; cases hs
          | true =>
            rw [hxx] at hs
            have hxx := of_decide_eq_true hxx
            subst hxx
            have e0 := Option.some.inj hs
            have ek : (mj_tk a).2.2 = k := congrArg Prod.fst e0
            have es := congrArg Prod.snd e0
            subst ek
            have hpos : 0 < (mj_tk a).1 := by omega
            have hlen := mj_tkl hpos
            obtain ⟨q1, q2⟩ := mj_tk_ref c1
            have hao : mj_en (mj_tk a).2.1 ∈ mj_arc := by
              rcases (show (mj_tk a).2.1 = 2 ∨ (mj_tk a).2.1 = 3 ∨ (mj_tk a).2.1 = 4 ∨ (mj_tk a).2.1 = 5 by omega) with e9 | e9 | e9 | e9 <;> rw [e9] <;> decide
            refine va_newq hx hb hown (hts _ (mj_inT_mem c2)) (hKn.2.2.2.1 _ hao) hKn.1 hH.1 hH.2.1 hS hA (nI_pos (by omega)) (nI_clamp (by omega)) (by omega) hcc hss hd (fun q cA H1 hK2 hP hD hS1 => ?_)
            have hcA : cA = fx_A X (mj_tk a).2.1 := by
              obtain ⟨kA, comp, -, -, -, f4⟩ := (hK2.2 6 (cA, .object (mj_en (mj_tk a).2.1)) rfl).2
              obtain ⟨kB, comp2, -, -, -, f5⟩ := (hKn.1.2 (mj_tk a).2.1 _ (mj_tysg X q1 q2)).2
              exact Option.some.inj (f4.symm.trans f5)
            subst hcA
            refine fin r2 q H1 (fun v hv => List.mem_cons_of_mem _ hv) (mj_grow hH hal hP hD ?_) hS1 es.symm
            rw [mj_cel4 c1]
            congr 7
            funext j
            show mj_orf X _ (upA rr a k0 _ a k0 j) = _
            rw [upA_at]
            rfl
        · cases hs
      | _ => exact nomatch (show (none : Option (Nat × MS)) = some (k, s1) from hs)
end ME
section MF
variable {l : Launch} {X : FX} {d mc ms y : Nat} {r : Option MV} {h' : MH}
theorem GB.mak {q : MI} {s s1 : MS} {k : Nat} (hi : mj_ins y s.1 = some q) (hs : mj_mak q s = some (k, s1)) (kk : GB l X d mc ms y s1 r h') : GB l X d (mc + 1) (ms + k) y s r h' := by
  intro p e R st m args below meth c H locs cells slots Q ad lsR C hc1 hc2 I kret
  refine mj_makr C (by omega) (by omega) hi hs I (fun ad' H1 he hn I1 => ?_)
  refine kk p e R st m args below meth c H1 locs (cells + 1) (slots + k) Q ad' lsR C (by omega) (by omega) I1 (fun ad2 H2 locs2 pc2 ls2 g1 g2 g3 g4 g5 g6 => ?_)
  rw [show cells + 1 + mc = cells + (mc + 1) by omega, show slots + k + ms = slots + (ms + k) by omega]
  exact kret ad2 H2 locs2 pc2 ls2 (fun j hj => (g1 j (by omega)).trans (he j hj)) (by omega) g3 g4 g5 g6
end MF
