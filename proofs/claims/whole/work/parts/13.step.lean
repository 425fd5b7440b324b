/-! A STEP OF THE MINI MACHINE IS A STEP OF THE REAL ONE -/
theorem mj_ok3 {X : FX} {n i t : Nat} (ht : t = 3 ∨ t = 4) (h : mj_okr X n (t, i)) : i < 13 := by
  rcases h with h | h | h | h | h | ⟨k, h1, h2⟩
  · have : t = 0 := h
    omega
  · have : t = 34 := h
    omega
  · have := congrArg Prod.fst h.1
    have : t = 1 := this
    omega
  · have := congrArg Prod.fst h
    have : t = 2 := this
    omega
  · exact h.2
  · obtain ⟨h3, h4⟩ := mj_al_lt h2
    have h5 := (mj_tag k h3).1
    rw [h4] at h5
    have : 5 ≤ t := h5
    omega
theorem mj_slg : ∀ i, i < 13 → (mj_strs.map List.length).getD i 0 = mj_slen i := by decide +kernel
theorem mj_ok34 {X : FX} {n i : Nat} (t : Nat) (ht : t = 3 ∨ t = 4) (h : i < 13) : mj_okr X n (t, i) := Or.inr (Or.inr (Or.inr (Or.inr (Or.inl ⟨ht, h⟩))))
theorem mj_okscr {X : FX} {n : Nat} (h : mj_okr X n (1, 0)) : fx_g X = true := by
  rcases h with h | h | h | h | h | ⟨k, h1, h2⟩
  · exact absurd h (by decide)
  · exact absurd h (by decide)
  · exact h.2
  · exact absurd h (by decide)
  · exact absurd h.1 (by decide)
  · obtain ⟨h3, h4⟩ := mj_al_lt h2
    have h5 := (mj_tag k h3).1
    rw [h4] at h5
    exact absurd h5 (by decide)
theorem mj_srl : mj_srf.length = 13 := rfl
section MSB
variable {l : Launch} {X : FX} {d y : Nat} {p : Program} {e : Env} {R : Room} {st : State} {m : MethodId} {args : Array Value} {below : List Frame} {meth : Method} {c : Code} {H : Heap} {locs : List Loc} {cells slots : Nat} {Q : State → Prop} {ad : Nat → Nat} {lsR : Array Slot}
theorem mj_hp_ii {h : MH} {ii : Nat → Nat → Nat → Int32} {H1 : Heap} (hH : mj_Hp X ad h H) (h1 : ii 1 = h.1 1) (hP : va_P (fx_D X) mj_cl (mj_ws X ad (ii, h.2)) H1) (hD : va_D (fx_P X) (mj_ws X ad (ii, h.2))) : mj_Hp X ad (ii, h.2) H1 :=
  ⟨hP, hD, hH.2.2.1, fun hg => ⟨fun j hj => by show ii 1 0 j = _; rw [h1]; exact (hH.2.2.2.1 hg).1 j hj, by show ii 1 1 0 = _; rw [h1]; exact (hH.2.2.2.1 hg).2.1, (hH.2.2.2.1 hg).2.2⟩, hH.2.2.2.2⟩
theorem mj_hp_jj {h : MH} {jj : Nat → Nat → Nat → Int64} {H1 : Heap} (hH : mj_Hp X ad h H) (hP : va_P (fx_D X) mj_cl (mj_ws X ad (h.1, jj, h.2.2)) H1) (hD : va_D (fx_P X) (mj_ws X ad (h.1, jj, h.2.2))) : mj_Hp X ad (h.1, jj, h.2.2) H1 :=
  ⟨hP, hD, hH.2.2.1, hH.2.2.2.1, hH.2.2.2.2⟩
theorem mj_hp_rr {h : MH} {t i b : Nat} {r : Nat × Nat} {H1 : Heap} (hH : mj_Hp X ad h H) (hr : mj_okr X h.2.2.2 r) (hP : va_P (fx_D X) mj_cl (mj_ws X ad (h.1, h.2.1, up3 h.2.2.1 t i b r, h.2.2.2)) H1) (hD : va_D (fx_P X) (mj_ws X ad (h.1, h.2.1, up3 h.2.2.1 t i b r, h.2.2.2))) : mj_Hp X ad (h.1, h.2.1, up3 h.2.2.1 t i b r, h.2.2.2) H1 :=
  ⟨hP, hD, fun k q h1 h2 j hj => by
    show mj_okr X h.2.2.2 (up3 h.2.2.1 t i b r q.1 q.2 j)
    unfold up3
    split
    · exact hr
    · exact hH.2.2.1 k q h1 h2 j hj, hH.2.2.2.1, hH.2.2.2.2⟩
theorem up3_1 {α : Type} {f : Nat → Nat → Nat → α} {t i k : Nat} {v : α} (h : 5 ≤ t) : up3 f t i k v 1 = f 1 := by
  funext b c
  unfold up3
  rw [if_neg]
  rintro ⟨q, -⟩
  omega
theorem upA_1 {α : Type} {f : Nat → Nat → Nat → α} {t i : Nat} {g : Nat → α} (h : 5 ≤ t) : upA f t i g 1 = f 1 := by
  funext b c
  unfold upA
  rw [if_neg]
  rintro ⟨q, -⟩
  omega
theorem mj_sumR {r : List MV} {X : FX} {ad : Nat → Nat} (h : Nat.ble (r.map mj_cat).sum 8 = true) : ((r.map (mj_tr X ad)).map fun v => v.category).sum ≤ 8 := by
  have h1 := Nat.le_of_ble_eq_true h
  rw [List.map_map, show ((fun v : Value => v.category) ∘ mj_tr X ad) = mj_cat from funext (fun v => mj_cat_tr X ad v)]
  exact h1
set_option maxHeartbeats 4000000 in
set_option maxRecDepth 100000 in
theorem mj_step {q : MI} {s s1 : MS} {cs : List Bool} (C : mj_C X d y p R st m args meth c) (hcc : cells ≤ R.cells) (hss : slots ≤ R.slots) (hi : mj_ins y s.1 = some q) (hs : mj_stp q s = some (cs, s1)) (hc : mj_all cs) (I : mj_I X ad y s st H locs lsR)
    (kk : ∀ (H1 : Heap) (locs1 : List Loc) (lsR1 : Array Slot), s1.2.2.2.2.2.2 = s.2.2.2.2.2.2 → mj_I X ad y s1 st H1 locs1 lsR1 → W p l e R st m args below meth c H1 locs1 cells slots Q (F0 m s1.1 lsR1 (s1.2.2.1.map (mj_tr X ad)))) : W p l e R st m args below meth c H locs cells slots Q (F0 m s.1 lsR (s.2.2.1.map (mj_tr X ad))) := by
  obtain ⟨pc, ls, stk, ii, jj, rr, nn⟩ := s
  have hck := mj_wrd hi
  obtain ⟨hd, hn⟩ := mj_dec hi
  obtain ⟨i, n, w, a, b, cq⟩ := q
  obtain ⟨hx, hb, hml, hown, hts, hmn, hfr, hlo8, hKn, hOut⟩ := id C
  obtain ⟨hH, hS, hL, hl, hok, hlo⟩ := I
  change mj_Hp X ad (ii, jj, rr, nn) H at hH
  change ls.length = mj_L y at hL
  change lv_has lsR (mj_L y) (mj_lv X ad ls) at hl
  change ∀ v ∈ stk, mj_okv X nn v at hok
  change ∀ j v, mj_nth ls j = some v → mj_okv X nn v at hlo
  change decode (mj_B y) pc = _ at hd
  change n = pc + _ at hn
  show W p l e R st m args below meth c H locs cells slots Q (F0 m pc lsR (stk.map (mj_tr X ad)))
  unfold mj_stp at hs
  unfold mj_ck at hck
  cases i with
  | iconst k =>
    obtain rfl : n = pc + 1 := hn
    have hd : decode (mj_B y) pc = .ok (.iconst k, 1) := hd
    dsimp only at hs hck
    cases hs
    exact lv_iconst hx hb hd (of_decide_eq_true hck) (kk _ _ _ rfl ⟨hH, hS, hL, hl, mj_okc trivial hok, hlo⟩)
  | bipush k =>
    obtain rfl : n = pc + 2 := hn
    have hd : decode (mj_B y) pc = .ok (.bipush k, 2) := hd
    dsimp only at hs hck
    cases hs
    exact lv_bipush hx hb hd (of_decide_eq_true hck) (kk _ _ _ rfl ⟨hH, hS, hL, hl, mj_okc trivial hok, hlo⟩)
  | sipush k =>
    obtain rfl : n = pc + 3 := hn
    have hd : decode (mj_B y) pc = .ok (.sipush k, 3) := hd
    dsimp only at hs hck
    cases hs
    exact lv_sipush hx hb hd (of_decide_eq_true hck) (kk _ _ _ rfl ⟨hH, hS, hL, hl, mj_okc trivial hok, hlo⟩)
  | ldc k =>
    obtain rfl : n = pc + 2 := hn
    have hd : decode (mj_B y) pc = .ok (.ldc k, 2) := hd
    dsimp only at hs hck
    cases a with
    | zero =>
      cases hs
      exact lv_ldc hx hb hown (hts _ (mj_inT_mem hck)) hd (kk _ _ _ rfl ⟨hH, hS, hL, hl, mj_okc trivial hok, hlo⟩)
    | succ a =>
      cases hs
      have h1 := of_decide_eq_true hck
      cases hz : mj_srf[b]? with
      | none => rw [hz] at h1; cases h1
      | some z =>
        rw [hz] at h1
        have h2 : (z.1, z.2.1) = ((mj_N y).cls, k) := Option.some.inj h1
        have h3 := hKn.2.2.2.2 b z.1 z.2.1 z.2.2 hz
        rw [show z.1 = (mj_N y).cls from congrArg Prod.fst h2, show z.2.1 = k from congrArg Prod.snd h2] at h3
        have hb13 : b < 13 := by
          have := (List.getElem?_eq_some_iff.mp hz).1
          rw [mj_srl] at this
          exact this
        exact va_ldcS hx hb hown h3 hd (kk _ _ _ rfl ⟨hH, hS, hL, hl, mj_okc (mj_ok34 3 (Or.inl rfl) hb13) hok, hlo⟩)
  | ldc_w k =>
    obtain rfl : n = pc + 3 := hn
    have hd : decode (mj_B y) pc = .ok (.ldc_w k, 3) := hd
    dsimp only at hs hck
    cases hs
    exact lv_ldcw hx hb hown (hts _ (mj_inT_mem hck)) hd (kk _ _ _ rfl ⟨hH, hS, hL, hl, mj_okc trivial hok, hlo⟩)
  | ldc2_w k =>
    obtain rfl : n = pc + 3 := hn
    have hd : decode (mj_B y) pc = .ok (.ldc2_w k, 3) := hd
    dsimp only at hs hck
    cases hs
    exact lv_ldc2 hx hb hown (hts _ (mj_inT_mem hck)) hd (kk _ _ _ rfl ⟨hH, hS, hL, hl, mj_okc trivial hok, hlo⟩)
  | lconst k =>
    obtain rfl : n = pc + 1 := hn
    have hd : decode (mj_B y) pc = .ok (.lconst k, 1) := hd
    dsimp only at hs hck
    cases hs
    exact lv_lconst hx hb hd (of_decide_eq_true hck) (kk _ _ _ rfl ⟨hH, hS, hL, hl, mj_okc trivial hok, hlo⟩)
  | iload_n k =>
    obtain rfl : n = pc + 1 := hn
    have hd : decode (mj_B y) pc = .ok (.iload_n k, 1) := hd
    dsimp only at hs hck
    split at hs
    · rename_i x heq
      cases hs
      exact lv_iload_n hx hb hd (of_decide_eq_true hck) (mj_lvat hl heq) (kk _ _ _ rfl ⟨hH, hS, hL, hl, mj_okc trivial hok, hlo⟩)
    · cases hs
  | iload k =>
    obtain rfl : n = pc + 2 := hn
    have hd : decode (mj_B y) pc = .ok (.iload k, 2) := hd
    dsimp only at hs hck
    split at hs
    · rename_i x heq
      cases hs
      obtain rfl : k = a := of_decide_eq_true hck
      exact lv_iload hx hb hd (mj_lvat hl heq) (kk _ _ _ rfl ⟨hH, hS, hL, hl, mj_okc trivial hok, hlo⟩)
    · cases hs
  | lload_n k =>
    obtain rfl : n = pc + 1 := hn
    have hd : decode (mj_B y) pc = .ok (.lload_n k, 1) := hd
    dsimp only at hs hck
    split at hs
    · rename_i x heq
      cases hs
      exact lv_lload_n hx hb hd (of_decide_eq_true hck) (mj_lvat hl heq) (kk _ _ _ rfl ⟨hH, hS, hL, hl, mj_okc trivial hok, hlo⟩)
    · cases hs
  | lload k =>
    obtain rfl : n = pc + 2 := hn
    have hd : decode (mj_B y) pc = .ok (.lload k, 2) := hd
    dsimp only at hs hck
    split at hs
    · rename_i x heq
      cases hs
      obtain rfl : k = a := of_decide_eq_true hck
      exact lv_lload hx hb hd (mj_lvat hl heq) (kk _ _ _ rfl ⟨hH, hS, hL, hl, mj_okc trivial hok, hlo⟩)
    · cases hs
  | aload_n k =>
    obtain rfl : n = pc + 1 := hn
    have hd : decode (mj_B y) pc = .ok (.aload_n k, 1) := hd
    dsimp only at hs hck
    split at hs
    · rename_i x heq
      cases hs
      have hlv := mj_lvat hl heq
      have hk := kk _ _ _ rfl ⟨hH, hS, hL, hl, mj_okc (hlo _ _ heq) hok, hlo⟩
      rcases mj_trR X ad x with hr | ⟨q, hr⟩
      · rw [hr] at hlv
        refine lv_aload_nN hx hb hd (of_decide_eq_true hck) hlv ?_
        rw [← hr]
        exact hk
      · rw [hr] at hlv
        refine lv_aload_n hx hb hd (of_decide_eq_true hck) hlv ?_
        rw [← hr]
        exact hk
    · cases hs
  | aload k =>
    obtain rfl : n = pc + 2 := hn
    have hd : decode (mj_B y) pc = .ok (.aload k, 2) := hd
    dsimp only at hs hck
    split at hs
    · rename_i x heq
      cases hs
      obtain rfl : k = a := of_decide_eq_true hck
      have hlv := mj_lvat hl heq
      have hk := kk _ _ _ rfl ⟨hH, hS, hL, hl, mj_okc (hlo _ _ heq) hok, hlo⟩
      rcases mj_trR X ad x with hr | ⟨q, hr⟩
      · rw [hr] at hlv
        refine lv_aloadN hx hb hd hlv ?_
        rw [← hr]
        exact hk
      · rw [hr] at hlv
        refine lv_aload hx hb hd hlv ?_
        rw [← hr]
        exact hk
    · cases hs
  | istore_n k =>
    obtain rfl : n = pc + 1 := hn
    have hd : decode (mj_B y) pc = .ok (.istore_n k, 1) := hd
    dsimp only at hs hck
    split at hs
    · rename_i x r
      split at hs
      · rename_i ls2 hst
        cases hs
        obtain ⟨a1, a2, a3, -, -⟩ := mj_stoA_spec hst
        have hlo2 : ∀ j v, mj_nth ls2 j = some v → mj_okv X nn v := fun j v hv => by
          rw [a3] at hv
          split at hv
          · cases hv
            exact trivial
          · exact hlo j v hv
        exact lv_istore_n hx hb hd (of_decide_eq_true hck) hl (hL ▸ a2) rfl (fun ls' h' => kk _ _ _ rfl ⟨hH, hS, a1.trans hL, mj_lvsub h' (mj_lvsto hst), mj_okt hok, hlo2⟩)
      · cases hs
    · cases hs
  | istore k =>
    obtain rfl : n = pc + 2 := hn
    have hd : decode (mj_B y) pc = .ok (.istore k, 2) := hd
    dsimp only at hs hck
    split at hs
    · rename_i x r
      split at hs
      · rename_i ls2 hst
        cases hs
        obtain rfl : k = a := of_decide_eq_true hck
        obtain ⟨a1, a2, a3, -, -⟩ := mj_stoA_spec hst
        have hlo2 : ∀ j v, mj_nth ls2 j = some v → mj_okv X nn v := fun j v hv => by
          rw [a3] at hv
          split at hv
          · cases hv
            exact trivial
          · exact hlo j v hv
        exact lv_istore hx hb hd hl (hL ▸ a2) rfl (fun ls' h' => kk _ _ _ rfl ⟨hH, hS, a1.trans hL, mj_lvsub h' (mj_lvsto hst), mj_okt hok, hlo2⟩)
      · cases hs
    · cases hs
  | astore_n k =>
    obtain rfl : n = pc + 1 := hn
    have hd : decode (mj_B y) pc = .ok (.astore_n k, 1) := hd
    dsimp only at hs hck
    split at hs
    · rename_i x r
      split at hs
      · rename_i ls2 hst
        cases hs
        obtain ⟨a1, a2, a3, -, -⟩ := mj_stoA_spec hst
        have hlo2 : ∀ j v, mj_nth ls2 j = some v → mj_okv X nn v := fun j v hv => by
          rw [a3] at hv
          split at hv
          · cases hv
            exact (mj_okhd hok)
          · exact hlo j v hv
        have hsub := mj_lvsto (X := X) (ad := ad) hst
        show W p l e R st m args below meth c H locs cells slots Q (F0 m pc lsR (mj_tr X ad (.inr (.inr x)) :: r.map (mj_tr X ad)))
        rcases mj_trR X ad x with hr | ⟨q, hr⟩
        · rw [hr] at hsub ⊢
          exact lv_astore_nN hx hb hd (of_decide_eq_true hck) hl (hL ▸ a2) rfl (fun ls' h' => kk _ _ _ rfl ⟨hH, hS, a1.trans hL, mj_lvsub h' hsub, mj_okt hok, hlo2⟩)
        · rw [hr] at hsub ⊢
          exact lv_astore_n hx hb hd (of_decide_eq_true hck) hl (hL ▸ a2) rfl (fun ls' h' => kk _ _ _ rfl ⟨hH, hS, a1.trans hL, mj_lvsub h' hsub, mj_okt hok, hlo2⟩)
      · cases hs
    · cases hs
  | astore k =>
    obtain rfl : n = pc + 2 := hn
    have hd : decode (mj_B y) pc = .ok (.astore k, 2) := hd
    dsimp only at hs hck
    split at hs
    · rename_i x r
      split at hs
      · rename_i ls2 hst
        cases hs
        obtain rfl : k = a := of_decide_eq_true hck
        obtain ⟨a1, a2, a3, -, -⟩ := mj_stoA_spec hst
        have hlo2 : ∀ j v, mj_nth ls2 j = some v → mj_okv X nn v := fun j v hv => by
          rw [a3] at hv
          split at hv
          · cases hv
            exact (mj_okhd hok)
          · exact hlo j v hv
        have hsub := mj_lvsto (X := X) (ad := ad) hst
        show W p l e R st m args below meth c H locs cells slots Q (F0 m pc lsR (mj_tr X ad (.inr (.inr x)) :: r.map (mj_tr X ad)))
        rcases mj_trR X ad x with hr | ⟨q, hr⟩
        · rw [hr] at hsub ⊢
          exact lv_astoreN hx hb hd hl (hL ▸ a2) rfl (fun ls' h' => kk _ _ _ rfl ⟨hH, hS, a1.trans hL, mj_lvsub h' hsub, mj_okt hok, hlo2⟩)
        · rw [hr] at hsub ⊢
          exact lv_astore hx hb hd hl (hL ▸ a2) rfl (fun ls' h' => kk _ _ _ rfl ⟨hH, hS, a1.trans hL, mj_lvsub h' hsub, mj_okt hok, hlo2⟩)
      · cases hs
    · cases hs
  | lstore k =>
    obtain rfl : n = pc + 2 := hn
    have hd : decode (mj_B y) pc = .ok (.lstore k, 2) := hd
    dsimp only at hs hck
    split at hs
    · rename_i x r
      split at hs
      · rename_i ls2 hst
        cases hs
        obtain rfl : k = a := of_decide_eq_true hck
        obtain ⟨a1, a2, a3, -, -⟩ := mj_stoB_spec hst
        have hlo2 : ∀ j v, mj_nth ls2 j = some v → mj_okv X nn v := fun j v hv => by
          rw [a3] at hv
          split at hv
          · cases hv
            exact trivial
          · split at hv
            · cases hv
            · exact hlo j v hv
        exact lv_lstore hx hb hd hl (hL ▸ a2) rfl (fun ls' h' => kk _ _ _ rfl ⟨hH, hS, a1.trans hL, mj_lvsub h' (mj_lvsto2 hst), mj_okt hok, hlo2⟩)
      · cases hs
    · cases hs
  | iinc k z =>
    obtain rfl : n = pc + 3 := hn
    have hd : decode (mj_B y) pc = .ok (.iinc k z, 3) := hd
    dsimp only at hs hck
    split at hs
    · rename_i x heq
      split at hs
      · rename_i ls2 hst
        cases hs
        simp only [Bool.and_eq_true, decide_eq_true_eq] at hck
        obtain ⟨rfl, hw⟩ := hck
        obtain ⟨a1, a2, a3, -, -⟩ := mj_stoA_spec hst
        have hlo2 : ∀ j v, mj_nth ls2 j = some v → mj_okv X nn v := fun j v hv => by
          rw [a3] at hv
          split at hv
          · cases hv
            exact trivial
          · exact hlo j v hv
        obtain ⟨k2, hk2⟩ := List.getElem?_of_mem (mj_lv_mem (X := X) (ad := ad) (q := (k, .int x)).mpr ⟨_, heq, rfl⟩)
        exact lv_iinc hx hb hd hl hk2 (by rw [hw]) (hL ▸ a2) rfl (fun ls' h' => kk _ _ _ rfl ⟨hH, hS, a1.trans hL, mj_lvsub h' (mj_lvsto hst), hok, hlo2⟩)
      · cases hs
    · cases hs
  | iadd =>
    obtain rfl : n = pc + 1 := hn
    have hd : decode (mj_B y) pc = .ok (.iadd, 1) := hd
    dsimp only at hs
    split at hs
    · rename_i v u r
      cases hs
      exact lv_iadd hx hb hd (kk _ _ _ rfl ⟨hH, hS, hL, hl, mj_okc trivial (mj_okt (mj_okt hok)), hlo⟩)
    · cases hs
  | isub =>
    obtain rfl : n = pc + 1 := hn
    have hd : decode (mj_B y) pc = .ok (.isub, 1) := hd
    dsimp only at hs
    split at hs
    · rename_i v u r
      cases hs
      exact lv_isub hx hb hd (kk _ _ _ rfl ⟨hH, hS, hL, hl, mj_okc trivial (mj_okt (mj_okt hok)), hlo⟩)
    · cases hs
  | imul =>
    obtain rfl : n = pc + 1 := hn
    have hd : decode (mj_B y) pc = .ok (.imul, 1) := hd
    dsimp only at hs
    split at hs
    · rename_i v u r
      cases hs
      exact lv_imul hx hb hd (kk _ _ _ rfl ⟨hH, hS, hL, hl, mj_okc trivial (mj_okt (mj_okt hok)), hlo⟩)
    · cases hs
  | iand =>
    obtain rfl : n = pc + 1 := hn
    have hd : decode (mj_B y) pc = .ok (.iand, 1) := hd
    dsimp only at hs
    split at hs
    · rename_i v u r
      cases hs
      exact lv_iand hx hb hd (kk _ _ _ rfl ⟨hH, hS, hL, hl, mj_okc trivial (mj_okt (mj_okt hok)), hlo⟩)
    · cases hs
  | ior =>
    obtain rfl : n = pc + 1 := hn
    have hd : decode (mj_B y) pc = .ok (.ior, 1) := hd
    dsimp only at hs
    split at hs
    · rename_i v u r
      cases hs
      exact lv_ior hx hb hd (kk _ _ _ rfl ⟨hH, hS, hL, hl, mj_okc trivial (mj_okt (mj_okt hok)), hlo⟩)
    · cases hs
  | ixor =>
    obtain rfl : n = pc + 1 := hn
    have hd : decode (mj_B y) pc = .ok (.ixor, 1) := hd
    dsimp only at hs
    split at hs
    · rename_i v u r
      cases hs
      exact lv_ixor hx hb hd (kk _ _ _ rfl ⟨hH, hS, hL, hl, mj_okc trivial (mj_okt (mj_okt hok)), hlo⟩)
    · cases hs
  | ishl =>
    obtain rfl : n = pc + 1 := hn
    have hd : decode (mj_B y) pc = .ok (.ishl, 1) := hd
    dsimp only at hs
    split at hs
    · rename_i v u r
      cases hs
      exact lv_ishl hx hb hd (kk _ _ _ rfl ⟨hH, hS, hL, hl, mj_okc trivial (mj_okt (mj_okt hok)), hlo⟩)
    · cases hs
  | ishr =>
    obtain rfl : n = pc + 1 := hn
    have hd : decode (mj_B y) pc = .ok (.ishr, 1) := hd
    dsimp only at hs
    split at hs
    · rename_i v u r
      cases hs
      exact lv_ishr hx hb hd (kk _ _ _ rfl ⟨hH, hS, hL, hl, mj_okc trivial (mj_okt (mj_okt hok)), hlo⟩)
    · cases hs
  | land =>
    obtain rfl : n = pc + 1 := hn
    have hd : decode (mj_B y) pc = .ok (.land, 1) := hd
    dsimp only at hs
    split at hs
    · rename_i v u r
      cases hs
      exact lv_land hx hb hd (kk _ _ _ rfl ⟨hH, hS, hL, hl, mj_okc trivial (mj_okt (mj_okt hok)), hlo⟩)
    · cases hs
  | lor =>
    obtain rfl : n = pc + 1 := hn
    have hd : decode (mj_B y) pc = .ok (.lor, 1) := hd
    dsimp only at hs
    split at hs
    · rename_i v u r
      cases hs
      exact lv_lor hx hb hd (kk _ _ _ rfl ⟨hH, hS, hL, hl, mj_okc trivial (mj_okt (mj_okt hok)), hlo⟩)
    · cases hs
  | idiv =>
    obtain rfl : n = pc + 1 := hn
    have hd : decode (mj_B y) pc = .ok (.idiv, 1) := hd
    dsimp only at hs
    split at hs
    · rename_i v u r
      cases hs
      exact lv_idiv hx hb hd (of_decide_eq_true hc.1) (kk _ _ _ rfl ⟨hH, hS, hL, hl, mj_okc trivial (mj_okt (mj_okt hok)), hlo⟩)
    · cases hs
  | irem =>
    obtain rfl : n = pc + 1 := hn
    have hd : decode (mj_B y) pc = .ok (.irem, 1) := hd
    dsimp only at hs
    split at hs
    · rename_i v u r
      cases hs
      exact lv_irem hx hb hd (of_decide_eq_true hc.1) (kk _ _ _ rfl ⟨hH, hS, hL, hl, mj_okc trivial (mj_okt (mj_okt hok)), hlo⟩)
    · cases hs
  | iushr =>
    obtain rfl : n = pc + 1 := hn
    have hd : decode (mj_B y) pc = .ok (.iushr, 1) := hd
    dsimp only at hs
    split at hs
    · rename_i v u r
      cases hs
      exact lv_iushr hx hb hd rfl (kk _ _ _ rfl ⟨hH, hS, hL, hl, mj_okc trivial (mj_okt (mj_okt hok)), hlo⟩)
    · cases hs
  | lshl =>
    obtain rfl : n = pc + 1 := hn
    have hd : decode (mj_B y) pc = .ok (.lshl, 1) := hd
    dsimp only at hs
    split at hs
    · rename_i v u r
      cases hs
      exact lv_lshl hx hb hd rfl (kk _ _ _ rfl ⟨hH, hS, hL, hl, mj_okc trivial (mj_okt (mj_okt hok)), hlo⟩)
    · cases hs
  | lcmp =>
    obtain rfl : n = pc + 1 := hn
    have hd : decode (mj_B y) pc = .ok (.lcmp, 1) := hd
    dsimp only at hs
    split at hs
    · rename_i v u r
      cases hs
      exact W.lcmp hx hb hd (kk _ _ _ rfl ⟨hH, hS, hL, hl, mj_okc trivial (mj_okt (mj_okt hok)), hlo⟩)
    · cases hs
  | ineg =>
    obtain rfl : n = pc + 1 := hn
    have hd : decode (mj_B y) pc = .ok (.ineg, 1) := hd
    dsimp only at hs
    split at hs
    · rename_i v r
      cases hs
      exact lv_ineg hx hb hd (kk _ _ _ rfl ⟨hH, hS, hL, hl, mj_okc trivial (mj_okt hok), hlo⟩)
    · cases hs
  | i2l =>
    obtain rfl : n = pc + 1 := hn
    have hd : decode (mj_B y) pc = .ok (.i2l, 1) := hd
    dsimp only at hs
    split at hs
    · rename_i v r
      cases hs
      exact lv_i2l hx hb hd rfl (kk _ _ _ rfl ⟨hH, hS, hL, hl, mj_okc trivial (mj_okt hok), hlo⟩)
    · cases hs
  | l2i =>
    obtain rfl : n = pc + 1 := hn
    have hd : decode (mj_B y) pc = .ok (.l2i, 1) := hd
    dsimp only at hs
    split at hs
    · rename_i v r
      cases hs
      exact lv_l2i hx hb hd rfl (kk _ _ _ rfl ⟨hH, hS, hL, hl, mj_okc trivial (mj_okt hok), hlo⟩)
    · cases hs
  | i2b =>
    obtain rfl : n = pc + 1 := hn
    have hd : decode (mj_B y) pc = .ok (.i2b, 1) := hd
    dsimp only at hs
    split at hs
    · rename_i v r
      cases hs
      exact lv_i2b hx hb hd rfl (kk _ _ _ rfl ⟨hH, hS, hL, hl, mj_okc trivial (mj_okt hok), hlo⟩)
    · cases hs
  | i2s =>
    obtain rfl : n = pc + 1 := hn
    have hd : decode (mj_B y) pc = .ok (.i2s, 1) := hd
    dsimp only at hs
    split at hs
    · rename_i v r
      cases hs
      exact lv_i2s hx hb hd rfl (kk _ _ _ rfl ⟨hH, hS, hL, hl, mj_okc trivial (mj_okt hok), hlo⟩)
    · cases hs
  | i2c =>
    obtain rfl : n = pc + 1 := hn
    have hd : decode (mj_B y) pc = .ok (.i2c, 1) := hd
    dsimp only at hs
    split at hs
    · rename_i v r
      cases hs
      exact lv_i2c hx hb hd rfl (kk _ _ _ rfl ⟨hH, hS, hL, hl, mj_okc trivial (mj_okt hok), hlo⟩)
    · cases hs
  | dup =>
    obtain rfl : n = pc + 1 := hn
    have hd : decode (mj_B y) pc = .ok (.dup, 1) := hd
    dsimp only at hs
    split at hs
    · rename_i v r
      cases hv : mj_c1 v with
      | false => rw [hv] at hs; cases hs
      | true =>
        rw [hv] at hs
        cases hs
        exact lv_dup hx hb hd (by rw [mj_cat_tr, mj_cat, hv]; rfl) (kk _ _ _ rfl ⟨hH, hS, hL, hl, mj_okc (mj_okhd hok) hok, hlo⟩)
    · cases hs
  | pop =>
    obtain rfl : n = pc + 1 := hn
    have hd : decode (mj_B y) pc = .ok (.pop, 1) := hd
    dsimp only at hs
    split at hs
    · rename_i v r
      cases hv : mj_c1 v with
      | false => rw [hv] at hs; cases hs
      | true =>
        rw [hv] at hs
        cases hs
        exact lv_pop hx hb hd (by rw [mj_cat_tr, mj_cat, hv]; rfl) (kk _ _ _ rfl ⟨hH, hS, hL, hl, mj_okt hok, hlo⟩)
    · cases hs
  | dup2 =>
    obtain rfl : n = pc + 1 := hn
    have hd : decode (mj_B y) pc = .ok (.dup2, 1) := hd
    dsimp only at hs
    split at hs
    · rename_i v u r
      cases hv : mj_c1 v with
      | false => rw [hv] at hs; cases hs
      | true =>
        cases hu : mj_c1 u with
        | false => rw [hv, hu] at hs; cases hs
        | true =>
          rw [hv, hu] at hs
          cases hs
          exact lv_dup2_11 hx hb hd (by rw [mj_cat_tr, mj_cat, hv]; rfl) (by rw [mj_cat_tr, mj_cat, hu]; rfl) (kk _ _ _ rfl ⟨hH, hS, hL, hl, mj_okc (mj_okhd hok) (mj_okc (mj_okhd (mj_okt hok)) hok), hlo⟩)
    · cases hs
  | goto k =>
    obtain rfl : n = pc + 3 := hn
    have hd : decode (mj_B y) pc = .ok (.goto k, 3) := hd
    dsimp only at hs hck
    cases hs
    exact lv_goto hx hb hd (of_decide_eq_true hck) (kk _ _ _ rfl ⟨hH, hS, hL, hl, hok, hlo⟩)
  | getfield x =>
    obtain rfl : n = pc + 3 := hn
    have hd : decode (mj_B y) pc = .ok (.getfield x, 3) := hd
    dsimp only at hs hck
    split at hs
    · rename_i t i r
      split at hs
      · cases ht : Nat.beq t 3 with
        | false => rw [ht] at hs; cases hs
        | true =>
          rw [ht] at hs
          obtain rfl := Nat.eq_of_beq_eq_true ht
          have hi13 := mj_ok3 (Or.inl rfl) (mj_okhd hok)
          have hE := hOut.1.1 i hi13
          cases b with
          | zero =>
            dsimp only [cond_true] at hs hck
            cases hs
            exact vk_getf hx hb hE.2.2.1 hS hown (hts _ (mj_inT_mem hck)) (fun _ h9 => h9) hd (kk _ _ _ rfl ⟨hH, hS, hL, hl, mj_okc (mj_ok34 4 (Or.inr rfl) hi13) (mj_okt hok), hlo⟩)
          | succ b =>
            dsimp only [cond_true] at hs hck
            cases hs
            exact vk_getf hx hb hE.2.1 hS hown (hts _ (mj_inT_mem hck)) (fun _ h9 => h9) hd (kk _ _ _ rfl ⟨hH, hS, hL, hl, mj_okc trivial (mj_okt hok), hlo⟩)
      · rename_i ha3
        split at hck
        · exact absurd rfl ha3
        · cases hf : mj_fok t a with
          | false => rw [hf] at hs; cases hs
          | true =>
            rw [hf] at hs
            obtain ⟨f1, f2, f3⟩ := mj_fokT hf
            have hck0 := hck
            unfold mj_ckf at hck0
            simp only [Bool.and_eq_true, decide_eq_true_eq] at hck0
            obtain ⟨⟨⟨-, ha1⟩, hbl⟩, hty⟩ := hck0
            have hbl : b < (mj_tk a).2.2 := Nat.blt_eq.mp hbl
            obtain ⟨q1, q2⟩ := mj_tk_obj ha1
            have hfr2 := mj_frty _ q1 b (q2 ▸ hbl)
            refine mj_s_get C hH hd hck hf (mj_okhd hok) ?_
            dsimp only [cond_true] at hs
            have hkr := mj_okhd hok
            split at hs
            · have hfrt : mj_fr (mj_tk t).2.1 b = true := by rw [(f3 b hbl).2.1]; exact hfr2.1.mpr hty
              have hfv : mj_fv X ad (ii, jj, rr, nn) (mj_tk t).2.1 (t, i) b = mj_tr X ad (.inr (.inr (rr t i b))) := by
                unfold mj_fv
                rw [hfrt]
                rfl
              rw [hfv]
              cases hs
              obtain ⟨k, g1, g2, g3, -⟩ := mj_trO (X := X) (ad := ad) hkr (by omega)
              have hokr := hH.2.2.1 k (t, i) g1 (g3 ▸ mj_al_at g2) b (by show b < (mj_tk t).2.2; omega)
              exact kk _ _ _ rfl ⟨hH, hS, hL, hl, mj_okc hokr (mj_okt hok), hlo⟩
            · rename_i hc1
              have hfrt : mj_fr (mj_tk t).2.1 b = false := by
                rw [(f3 b hbl).2.1]
                cases hz : mj_fr (mj_tk a).2.1 b with
                | false => rfl
                | true => exact absurd ((hfr2.1.mp hz).symm.trans hty).symm hc1
              have hfv : mj_fv X ad (ii, jj, rr, nn) (mj_tk t).2.1 (t, i) b = .int (ii t i b) := by
                unfold mj_fv
                rw [hfrt]
              rw [hfv]
              cases hs
              exact kk _ _ _ rfl ⟨hH, hS, hL, hl, mj_okc trivial (mj_okt hok), hlo⟩
    · cases hs
  | putfield x0 =>
    obtain rfl : n = pc + 3 := hn
    have hd : decode (mj_B y) pc = .ok (.putfield x0, 3) := hd
    dsimp only at hs hck
    split at hs
    · rename_i x t i r
      cases hf : mj_fok t a with
      | false => rw [hf] at hs; cases hs
      | true =>
        rw [hf] at hs
        dsimp only [cond_true] at hs
        simp only [Bool.and_eq_true] at hck
        obtain ⟨⟨hckf, -⟩, hfn⟩ := hck
        have hck0 := hckf
        unfold mj_ckf at hck0
        simp only [Bool.and_eq_true, decide_eq_true_eq] at hck0
        obtain ⟨⟨⟨-, ha1⟩, hbl⟩, hty⟩ := hck0
        have hbl : b < (mj_tk a).2.2 := Nat.blt_eq.mp hbl
        obtain ⟨q1, q2⟩ := mj_tk_obj ha1
        have hfr2 := mj_frty _ q1 b (q2 ▸ hbl)
        obtain ⟨f1, f2, f3⟩ := mj_fokT hf
        obtain ⟨t5, -⟩ := mj_tk_own (t := t) (by omega)
        split at hs
        · cases hs
          have hTy : mj_Ty (mj_tk a).2.1 b = .int := by
            revert hty
            cases mj_Ty (mj_tk a).2.1 b <;> intro hty <;> first | rfl | (exact absurd hty (by decide)) | (cases hty)
          have hfrt : mj_fr (mj_tk t).2.1 b = false := by rw [(f3 b hbl).2.1]; exact hfr2.2.mpr (Or.inl hty)
          refine mj_s_put (h' := (up3 ii t i b x, jj, rr, nn)) C hH hS hd hckf hfn hf (mj_okhd (mj_okt hok)) (by rw [hTy]; rfl) (by rw [hTy]; rfl) rfl (fun r hr => mj_celc (up3_ne hr) rfl rfl) ?_ ?_ (fun H1 locs1 g1 g2 g3 => kk _ _ _ rfl ⟨mj_hp_ii hH (up3_1 t5) g1 g2, g3, hL, hl, mj_okt (mj_okt hok), hlo⟩)
          · unfold mj_fv
            rw [hfrt]
            simp [up3, mj_tr]
          · intro j hj
            unfold mj_fv
            have : up3 ii t i b x t i j = ii t i j := by simp [up3, hj]
            simp only [this]
        · cases hs
          have hTy : mj_Ty (mj_tk a).2.1 b = .boolean := by
            revert hty
            cases mj_Ty (mj_tk a).2.1 b <;> intro hty <;> first | rfl | (exact absurd hty (by decide)) | (cases hty)
          have hx01 : x = 0 ∨ x = 1 := of_decide_eq_true hc.1
          have hfrt : mj_fr (mj_tk t).2.1 b = false := by rw [(f3 b hbl).2.1]; exact hfr2.2.mpr (Or.inr hty)
          refine mj_s_put (h' := (up3 ii t i b x, jj, rr, nn)) C hH hS hd hckf hfn hf (mj_okhd (mj_okt hok)) (by rw [hTy]; rcases hx01 with rfl | rfl <;> rfl) (by rw [hTy]; rcases hx01 with rfl | rfl <;> rfl) rfl (fun r hr => mj_celc (up3_ne hr) rfl rfl) ?_ ?_ (fun H1 locs1 g1 g2 g3 => kk _ _ _ rfl ⟨mj_hp_ii hH (up3_1 t5) g1 g2, g3, hL, hl, mj_okt (mj_okt hok), hlo⟩)
          · unfold mj_fv
            rw [hfrt]
            simp [up3, mj_tr]
          · intro j hj
            unfold mj_fv
            have : up3 ii t i b x t i j = ii t i j := by simp [up3, hj]
            simp only [this]
        · cases hs
    · rename_i t' i' t i r
      cases hf : mj_fok t a with
      | false => rw [hf] at hs; cases hs
      | true =>
        cases hcq : Nat.beq cq 1 with
        | false => rw [hf, hcq] at hs; cases hs
        | true =>
          rw [hf, hcq] at hs
          cases hs
          obtain rfl := Nat.eq_of_beq_eq_true hcq
          simp only [Bool.and_eq_true] at hck
          obtain ⟨⟨hckf, -⟩, hfn⟩ := hck
          have hck0 := hckf
          unfold mj_ckf at hck0
          simp only [Bool.and_eq_true, decide_eq_true_eq] at hck0
          obtain ⟨⟨⟨-, ha1⟩, hbl⟩, hty⟩ := hck0
          have hbl : b < (mj_tk a).2.2 := Nat.blt_eq.mp hbl
          obtain ⟨q1, q2⟩ := mj_tk_obj ha1
          have hfr2 := mj_frty _ q1 b (q2 ▸ hbl)
          obtain ⟨f1, f2, f3⟩ := mj_fokT hf
          obtain ⟨t5, -⟩ := mj_tk_own (t := t) (by omega)
          have hfrt : mj_fr (mj_tk t).2.1 b = true := by rw [(f3 b hbl).2.1]; exact hfr2.1.mpr hty
          have hv : ∀ z : Option Nat, narrow (mj_Ty (mj_tk a).2.1 b) (va_rf z) = va_rf z ∧ fits (mj_Ty (mj_tk a).2.1 b) (va_rf z) = true := by
            intro z
            revert hty
            cases mj_Ty (mj_tk a).2.1 b <;> intro hty <;> first | (cases z <;> exact ⟨rfl, rfl⟩) | (exact absurd hty (by decide)) | (cases hty)
          refine mj_s_put (v := mj_tr X ad (vR t' i')) (h' := (ii, jj, up3 rr t i b (t', i'), nn)) C hH hS hd hckf hfn hf (mj_okhd (mj_okt hok)) (hv _).1 (hv _).2 rfl (fun r hr => mj_celc rfl rfl (up3_ne hr)) ?_ ?_ (fun H1 locs1 g1 g2 g3 => kk _ _ _ rfl ⟨mj_hp_rr hH (mj_okhd hok) g1 g2, g3, hL, hl, mj_okt (mj_okt hok), hlo⟩)
          · unfold mj_fv
            rw [hfrt]
            simp [up3, mj_tr]
          · intro j hj
            unfold mj_fv
            have : up3 rr t i b (t', i') t i j = rr t i j := by simp [up3, hj]
            simp only [this]
    · cases hs
  | getstatic x =>
    obtain rfl : n = pc + 3 := hn
    have hd : decode (mj_B y) pc = .ok (.getstatic x, 3) := hd
    dsimp only at hs hck
    split at hs
    · cases hs
      simp only [Bool.and_eq_true, decide_eq_true_eq] at hck
      obtain ⟨hck, rfl⟩ := hck
      exact va_gets hx hb hOut.2.2.2.2.1 hS hown (hts _ (mj_inT_mem hck)) (fun _ h9 => h9) hd (kk _ _ _ rfl ⟨hH, hS, hL, hl, mj_okc trivial hok, hlo⟩)
    · cases hs
      exact va_gets hx hb hOut.2.2.2.1 hS hown (hts _ (mj_inT_mem hck)) (fun _ h9 => h9) hd (kk _ _ _ rfl ⟨hH, hS, hL, hl, mj_okc (Or.inr (Or.inr (Or.inr (Or.inl rfl)))) hok, hlo⟩)
    · rename_i h0 h1
      cases hs
      split at hck
      · exact absurd rfl h0
      · exact absurd rfl h1
      · exact va_gets hx hb hOut.2.2.2.2.2.1 hS hown (hts _ (mj_inT_mem hck)) (fun _ h9 => h9) hd (kk _ _ _ rfl ⟨hH, hS, hL, hl, mj_okc (Or.inr (Or.inl rfl)) hok, hlo⟩)
  | iaload =>
    obtain rfl : n = pc + 1 := hn
    have hd : decode (mj_B y) pc = .ok (.iaload, 1) := hd
    dsimp only at hs
    split at hs
    · rename_i j t i r
      split at hs
      · split at hs
        · cases hs
          have hj := mj_vin_in hc.1
          have hg := mj_okscr (mj_okhd (mj_okt hok))
          have hsc := hH.2.2.2.1 hg
          have hOs := hOut.2.1 hg
          have hLL : (ii 1 1 0).toNatClampNeg = fx_L X := by
            rw [show ii 1 1 0 = Int32.ofNat (fx_L X) from hsc.2.1]
            exact nI_clamp hsc.2.2
          rw [hLL] at hj
          refine va_sld hx hb hOs.1 hOs.2.1 hOs.2.2 hS hj hd ?_
          have hlt : j.toNatClampNeg < fx_L X := Nat.not_le.mp fun q => hj (Or.inr q)
          rw [← hsc.1 _ hlt]
          exact kk _ _ _ rfl ⟨hH, hS, hL, hl, mj_okc trivial (mj_okt (mj_okt hok)), hlo⟩
        · cases hs
      · cases hs
        exact va_ti hx hb hOut.2.2.1 hS (mj_vin_in hc.1) rfl hd (kk _ _ _ rfl ⟨hH, hS, hL, hl, mj_okc trivial (mj_okt (mj_okt hok)), hlo⟩)
      · split at hs
        · rename_i z1 z2 len htk
          have h1 : (mj_tk t).1 = 2 := by rw [htk]
          have h2 : len = (mj_tk t).2.2 := by rw [htk]
          subst h2
          cases hs
          exact mj_s_iald C hH hd h1 (mj_okhd (mj_okt hok)) (mj_vin_in hc.1) (kk _ _ _ rfl ⟨hH, hS, hL, hl, mj_okc trivial (mj_okt (mj_okt hok)), hlo⟩)
        · cases hs
    · cases hs
  | baload =>
    obtain rfl : n = pc + 1 := hn
    have hd : decode (mj_B y) pc = .ok (.baload, 1) := hd
    dsimp only at hs
    split at hs
    · rename_i j t i r
      cases ht : Nat.beq t 4 with
      | false => rw [ht] at hs; cases hs
      | true =>
        rw [ht] at hs
        cases hs
        obtain rfl := Nat.eq_of_beq_eq_true ht
        have hi13 := mj_ok3 (Or.inr rfl) (mj_okhd (mj_okt hok))
        exact va_tb hx hb (hOut.1.1 i hi13).2.2.2 hS (by rw [mj_slg i hi13]; exact (mj_vin_in hc.1)) rfl hd (kk _ _ _ rfl ⟨hH, hS, hL, hl, mj_okc trivial (mj_okt (mj_okt hok)), hlo⟩)
    · cases hs
  | laload =>
    obtain rfl : n = pc + 1 := hn
    have hd : decode (mj_B y) pc = .ok (.laload, 1) := hd
    dsimp only at hs
    split at hs
    · rename_i j t i r
      split at hs
      · rename_i z1 z2 len htk
        have h1 : (mj_tk t).1 = 3 := by rw [htk]
        have h2 : len = (mj_tk t).2.2 := by rw [htk]
        subst h2
        cases hs
        exact mj_s_lald C hH hd h1 (mj_okhd (mj_okt hok)) (mj_vin_in hc.1) (kk _ _ _ rfl ⟨hH, hS, hL, hl, mj_okc trivial (mj_okt (mj_okt hok)), hlo⟩)
      · cases hs
    · cases hs
  | aaload =>
    obtain rfl : n = pc + 1 := hn
    have hd : decode (mj_B y) pc = .ok (.aaload, 1) := hd
    dsimp only at hs
    split at hs
    · rename_i j t i r
      split at hs
      · rename_i z1 z2 len htk
        have h1 : (mj_tk t).1 = 4 := by rw [htk]
        have h2 : len = (mj_tk t).2.2 := by rw [htk]
        subst h2
        cases hs
        have hj := (mj_vin_in hc.1)
        have hkr := mj_okhd (mj_okt hok)
        obtain ⟨k, g1, g2, g3, -⟩ := mj_trO (X := X) (ad := ad) hkr (by omega)
        have hokr := hH.2.2.1 k (t, i) g1 (g3 ▸ mj_al_at g2) j.toNatClampNeg (Nat.not_le.mp fun q => hj (Or.inr q))
        exact mj_s_aald C hH hd h1 hkr hj (kk _ _ _ rfl ⟨hH, hS, hL, hl, mj_okc hokr (mj_okt (mj_okt hok)), hlo⟩)
      · cases hs
    · cases hs
  | iastore =>
    obtain rfl : n = pc + 1 := hn
    have hd : decode (mj_B y) pc = .ok (.iastore, 1) := hd
    dsimp only at hs
    split at hs
    · rename_i x j t i r
      split at hs
      · rename_i z1 z2 len htk
        have h1 : (mj_tk t).1 = 2 := by rw [htk]
        have h2 : len = (mj_tk t).2.2 := by rw [htk]
        subst h2
        cases hs
        exact mj_s_iast C hH hS hd h1 (mj_okhd (mj_okt (mj_okt hok))) (mj_vin_in hc.1) rfl (fun H1 locs1 g1 g2 g3 => kk _ _ _ rfl ⟨mj_hp_ii hH (up3_1 (mj_tk_own (t := t) (by omega)).1) g1 g2, g3, hL, hl, mj_okt (mj_okt (mj_okt hok)), hlo⟩)
      · cases hs
    · cases hs
  | lastore =>
    obtain rfl : n = pc + 1 := hn
    have hd : decode (mj_B y) pc = .ok (.lastore, 1) := hd
    dsimp only at hs
    split at hs
    · rename_i x j t i r
      split at hs
      · rename_i z1 z2 len htk
        have h1 : (mj_tk t).1 = 3 := by rw [htk]
        have h2 : len = (mj_tk t).2.2 := by rw [htk]
        subst h2
        cases hs
        exact mj_s_last C hH hS hd h1 (mj_okhd (mj_okt (mj_okt hok))) (mj_vin_in hc.1) rfl (fun H1 locs1 g1 g2 g3 => kk _ _ _ rfl ⟨mj_hp_jj hH g1 g2, g3, hL, hl, mj_okt (mj_okt (mj_okt hok)), hlo⟩)
      · cases hs
    · cases hs
  | aastore =>
    obtain rfl : n = pc + 1 := hn
    have hd : decode (mj_B y) pc = .ok (.aastore, 1) := hd
    dsimp only at hs
    split at hs
    · rename_i t' i' j t i r
      split at hs
      · rename_i z1 z2 len htk
        have h1 : (mj_tk t).1 = 4 := by rw [htk]
        have h2 : len = (mj_tk t).2.2 := by rw [htk]
        have h3 : z2 = (mj_tk t).2.1 := by rw [htk]
        subst h2
        subst h3
        cases hasg : mj_asg (mj_tk t).2.1 t' with
        | false => rw [hasg] at hs; cases hs
        | true =>
          rw [hasg] at hs
          cases hs
          exact mj_s_aast C hH hS hd h1 (mj_okhd (mj_okt (mj_okt hok))) (mj_vin_in hc.1) hasg (mj_okhd hok) rfl (fun H1 locs1 g1 g2 g3 => kk _ _ _ rfl ⟨mj_hp_rr hH (mj_okhd hok) g1 g2, g3, hL, hl, mj_okt (mj_okt (mj_okt hok)), hlo⟩)
      · cases hs
    · cases hs
  | arraylength =>
    obtain rfl : n = pc + 1 := hn
    have hd : decode (mj_B y) pc = .ok (.arraylength, 1) := hd
    dsimp only at hs
    split at hs
    · rename_i t i r
      split at hs
      · split at hs
        · cases hs
          have hg := mj_okscr (mj_okhd hok)
          have hOs := hOut.2.1 hg
          refine va_slen hx hb hOs.1 hOs.2.1 hOs.2.2 hS hd ?_
          rw [← show ii 1 1 0 = Int32.ofNat (fx_L X) from (hH.2.2.2.1 hg).2.1]
          exact kk _ _ _ rfl ⟨hH, hS, hL, hl, mj_okc trivial (mj_okt hok), hlo⟩
        · cases hs
      · cases hs
        have hi13 := mj_ok3 (Or.inr rfl) (mj_okhd hok)
        exact va_tlen hx hb (hOut.1.1 i hi13).2.2.2 hS (by rw [mj_slg i hi13]; rfl) hd (kk _ _ _ rfl ⟨hH, hS, hL, hl, mj_okc trivial (mj_okt hok), hlo⟩)
      · cases hz : Nat.blt 1 (mj_tk t).1 with
        | false => rw [hz] at hs; cases hs
        | true =>
          rw [hz] at hs
          have hz := Nat.blt_eq.mp hz
          cases hs
          exact mj_s_alen C hH hd (by omega) (mj_okhd hok) (kk _ _ _ rfl ⟨hH, hS, hL, hl, mj_okc trivial (mj_okt hok), hlo⟩)
    · cases hs
  | invokespecial x =>
    obtain rfl : n = pc + 3 := hn
    have hd : decode (mj_B y) pc = .ok (.invokespecial x, 3) := hd
    dsimp only at hs
    split at hs
    · split at hs
      · rename_i t i0 r
        cases hz : Nat.blt 0 (mj_tk t).1 with
        | false => rw [hz] at hs; cases hs
        | true =>
          cases hz2 : Nat.ble (r.map mj_cat).sum 8 with
          | false => rw [hz, hz2] at hs; cases hs
          | true =>
            rw [hz, hz2] at hs
            cases hs
            dsimp only at hck
            simp only [Bool.and_eq_true] at hck
            obtain ⟨k, g1, g2, g3, htr⟩ := mj_trO (X := X) (ad := ad) (mj_okhd hok) (Nat.blt_eq.mp hz)
            have hsum := mj_sumR (X := X) (ad := ad) hz2
            show W p l e R st m args below meth c H locs cells slots Q (F0 m pc lsR (mj_tr X ad (vR t i0) :: r.map (mj_tr X ad)))
            rw [htr]
            refine W.objInit hx hb hown (hts _ (mj_inT_mem hck.1.1)) (hts _ (mj_inT_mem hck.1.2)) (hts _ (mj_inT_mem hck.2)) rfl (by rw [hml]; exact hl.1) rfl hd (by omega) (by show 2 * 0 + _ + 12 ≤ _; omega) ?_
            exact kk _ _ _ rfl ⟨hH, hS, hL, hl, mj_okt hok, hlo⟩
      · cases hs
    · cases hs
  | invokestatic x =>
    obtain rfl : n = pc + 3 := hn
    have hd : decode (mj_B y) pc = .ok (.invokestatic x, 3) := hd
    dsimp only at hs
    split at hs
    · dsimp only at hck
      split at hs
      · rename_i k dp t1 i1 sp t0 i0 r
        split at hs
        · rename_i z1 z2 n0 htk0
          split at hs
          · rename_i y1 y2 n1 htk1
            cases hz2 : Nat.ble (r.map mj_cat).sum 8 with
            | false => rw [hz2] at hs; cases hs
            | true =>
              rw [hz2] at hs
              cases hs
              have e0 : (mj_tk t0).1 = 2 := by rw [htk0]
              have e1 : (mj_tk t1).1 = 2 := by rw [htk1]
              have e2 : n0 = (mj_tk t0).2.2 := by rw [htk0]
              have e3 : n1 = (mj_tk t1).2.2 := by rw [htk1]
              subst e2
              subst e3
              obtain ⟨c1, c2, c3, c4, c5, -⟩ := hc
              have hsum := mj_sumR (X := X) (ad := ad) hz2
              exact mj_s_cpi C hH hS (hml.trans hl.1.symm) hd hck e0 e1 (mj_okhd (mj_okt (mj_okt (mj_okt (mj_okt hok))))) (mj_okhd (mj_okt (mj_okt hok))) (of_decide_eq_true c1) (of_decide_eq_true c2) (of_decide_eq_true c3) (of_decide_eq_true c4) (of_decide_eq_true c5) hsum rfl (fun H1 locs1 g1 g2 g3 => kk _ _ _ rfl ⟨mj_hp_ii hH (upA_1 (mj_tk_own (t := t1) (by omega)).1) g1 g2, g3, hL, hl, mj_okt (mj_okt (mj_okt (mj_okt (mj_okt hok)))), hlo⟩)
          · cases hs
        · rename_i z1 z2 n0 htk0
          split at hs
          · rename_i y1 y2 n1 htk1
            cases hz2 : Nat.ble (r.map mj_cat).sum 8 with
            | false => rw [hz2] at hs; cases hs
            | true =>
              rw [hz2] at hs
              cases hs
              have e0 : (mj_tk t0).1 = 3 := by rw [htk0]
              have e1 : (mj_tk t1).1 = 3 := by rw [htk1]
              have e2 : n0 = (mj_tk t0).2.2 := by rw [htk0]
              have e3 : n1 = (mj_tk t1).2.2 := by rw [htk1]
              subst e2
              subst e3
              obtain ⟨c1, c2, c3, c4, c5, -⟩ := hc
              have hsum := mj_sumR (X := X) (ad := ad) hz2
              exact mj_s_cpl C hH hS (hml.trans hl.1.symm) hd hck e0 e1 (mj_okhd (mj_okt (mj_okt (mj_okt (mj_okt hok))))) (mj_okhd (mj_okt (mj_okt hok))) (of_decide_eq_true c1) (of_decide_eq_true c2) (of_decide_eq_true c3) (of_decide_eq_true c4) (of_decide_eq_true c5) hsum rfl (fun H1 locs1 g1 g2 g3 => kk _ _ _ rfl ⟨mj_hp_jj hH g1 g2, g3, hL, hl, mj_okt (mj_okt (mj_okt (mj_okt (mj_okt hok)))), hlo⟩)
          · cases hs
        · cases hs
      · cases hs
    · split at hs
      · rename_i v u r
        cases hz2 : Nat.ble (r.map mj_cat).sum 8 with
        | false => rw [hz2] at hs; cases hs
        | true =>
          rw [hz2] at hs
          cases hs
          dsimp only at hck
          simp only [Bool.and_eq_true] at hck
          have hsum := mj_sumR (X := X) (ad := ad) hz2
          exact va_mmax hx hb (hml.trans hl.1.symm) hown (hts _ (mj_inT_mem hck.1.1.1)) (hts _ (mj_inT_mem hck.1.1.2)) (hts _ (mj_inT_mem hck.1.2)) (hts _ (mj_inT_mem hck.2)) (by omega) (by omega) hcc hss hd (kk _ _ _ rfl ⟨hH, hS, hL, hl, mj_okc trivial (mj_okt (mj_okt hok)), hlo⟩)
      · cases hs
    · split at hs
      · rename_i v u r
        cases hz2 : Nat.ble (r.map mj_cat).sum 8 with
        | false => rw [hz2] at hs; cases hs
        | true =>
          rw [hz2] at hs
          cases hs
          dsimp only at hck
          simp only [Bool.and_eq_true] at hck
          have hsum := mj_sumR (X := X) (ad := ad) hz2
          exact va_mmin hx hb (hml.trans hl.1.symm) hown (hts _ (mj_inT_mem hck.1.1.1)) (hts _ (mj_inT_mem hck.1.1.2)) (hts _ (mj_inT_mem hck.1.2)) (hts _ (mj_inT_mem hck.2)) (by omega) (by omega) hcc hss hd (kk _ _ _ rfl ⟨hH, hS, hL, hl, mj_okc trivial (mj_okt (mj_okt hok)), hlo⟩)
      · cases hs
    · cases hs
  | _ => exact nomatch (show (none : Option (List Bool × MS)) = some (cs, s1) from hs)
end MSB
