/-! ONE INSTRUCTION THAT READS OR WRITES A CELL -/
section MSA
variable {l : Launch} {X : FX} {d y : Nat} {p : Program} {e : Env} {R : Room} {st : State} {m : MethodId} {args : Array Value} {below : List Frame} {meth : Method} {c : Code} {H : Heap} {locs : List Loc} {cells slots : Nat} {Q : State → Prop} {ad : Nat → Nat} {lsR : Array Slot} {pc : Nat} {rest : List Value} {h : MH}
theorem mj_trO {n t i : Nat} (hr : mj_okr X n (t, i)) (hk : 0 < (mj_tk t).1) : ∃ k, k < n ∧ k < 108 ∧ mj_at k = (t, i) ∧ mj_tr X ad (vR t i) = .ref (ad k) := by
  obtain ⟨h1, h2⟩ := mj_tk_own hk
  obtain ⟨k, g1, g2, g3⟩ := mj_okown hr h1 h2
  refine ⟨k, g1, g2, g3, ?_⟩
  show va_rf (mj_orf X ad (t, i)) = _
  rw [← g3, mj_orf_own X ad g2]
  rfl
theorem mj_s_get (C : mj_C X d y p R st m args meth c) (hH : mj_Hp X ad h H) {t i a b cc x : Nat} {ps : List Nat} (hd : decode (mj_B y) pc = .ok (.getfield x, 3)) (hck : mj_ckf (mj_N y).cls x a b cc ps = true) (hf : mj_fok t a = true) (hr : mj_okr X h.2.2.2 (t, i))
    (kk : W p l e R st m args below meth c H locs cells slots Q (F0 m (pc + 3) lsR (mj_fv X ad h (mj_tk t).2.1 (t, i) b :: rest))) : W p l e R st m args below meth c H locs cells slots Q (F0 m pc lsR (mj_tr X ad (vR t i) :: rest)) := by
  obtain ⟨hx, hb, -, hown, hts, -, -, -, hKn, -⟩ := C
  obtain ⟨hP, -⟩ := hH
  obtain ⟨f1, f2, f3⟩ := mj_fokT hf
  unfold mj_ckf at hck
  simp only [Bool.and_eq_true, decide_eq_true_eq] at hck
  obtain ⟨⟨⟨hlk, ha1⟩, hbl⟩, hty⟩ := hck
  have hbl : b < (mj_tk a).2.2 := Nat.blt_eq.mp hbl
  obtain ⟨g1, g2⟩ := mj_tk_obj f1
  obtain ⟨k, hk, hk8, hat, htr⟩ := mj_trO (X := X) (ad := ad) hr (by omega)
  have hT := (f3 b hbl).1
  have hbN : b < mj_cf (mj_tk t).2.1 := by rw [← g2, f2]; exact hbl
  have he : (mj_ws X ad h)[k]? = some (ad k, .inr ((mj_tk t).2.1, (List.range (mj_tk t).2.2).map (mj_fv X ad h (mj_tk t).2.1 (t, i)))) := by
    rw [mj_wsg hk, hat, mj_cel1 f1]
  have hv : ((List.range (mj_tk t).2.2).map (mj_fv X ad h (mj_tk t).2.1 (t, i)))[b]? = some (mj_fv X ad h (mj_tk t).2.1 (t, i) b) := by
    simp [f2, hbl]
  rw [htr]
  cases hz : ps.getD 1 0 with
  | zero =>
    rw [hz] at hlk
    have hl := hts _ (mj_inT_mem hlk)
    rw [← hT] at hl
    exact va_get (C := mj_cn (mj_tk t).2.1) (T := mj_T (mj_tk t).2.1) (N := mj_cf (mj_tk t).2.1) (ref := (mj_T (mj_tk t).2.1 b).1) hx hb hts (mj_clw g1) hown hKn.1 hP k he (mj_clg g1) b hbN hl (fun _ h9 => h9) hv hd kk
  | succ z =>
    rw [hz] at hlk
    have hl := hKn.2.1 _ (List.mem_of_getElem? (of_decide_eq_true hlk))
    rw [← hT] at hl
    exact va_getN (C := mj_cn (mj_tk t).2.1) (T := mj_T (mj_tk t).2.1) (N := mj_cf (mj_tk t).2.1) (ref := (mj_T (mj_tk t).2.1 b).1) (host := "HeadHats") hx hb hts (mj_clw g1) hown hKn.1 hP k he (mj_clg g1) b hbN (va_Nw.use rfl hl) (fun _ h9 => h9) hv hd kk
theorem mj_mapset {α : Type} {f f' : Nat → α} {n b : Nat} {v : α} (h1 : f' b = v) (h2 : ∀ j, j ≠ b → f' j = f j) : (List.range n).map f' = ((List.range n).map f).set b v := by
  apply List.ext_getElem?
  intro j
  by_cases hj : j < n
  · by_cases e : j = b
    · subst e
      rw [List.getElem?_set_self (by simp; exact hj)]
      simp [hj, h1]
    · rw [List.getElem?_set_ne (fun q => e q.symm)]
      simp [hj, h2 j e]
  · rw [List.getElem?_eq_none (by simp; omega), List.getElem?_eq_none (by simp; omega)]
theorem mj_s_put (C : mj_C X d y p R st m args meth c) (hH : mj_Hp X ad h H) (hS : va_S (fx_P X) st.heap H locs) {h' : MH} {t i a b cc x : Nat} {v : Value} {ps : List Nat} (hd : decode (mj_B y) pc = .ok (.putfield x, 3)) (hck : mj_ckf (mj_N y).cls x a b cc ps = true)
    (hfn : (match (mj_T (mj_tk a).2.1 b).2.2.2 with
      | true => decide ((mj_N y).name = "<init>") && decide ((mj_T (mj_tk a).2.1 b).1 = (mj_N y).cls) && decide (ps.getD 1 0 = 0)
      | false => true) = true)
    (hf : mj_fok t a = true) (hr : mj_okr X h.2.2.2 (t, i)) (hn : narrow (mj_Ty (mj_tk a).2.1 b) v = v) (hft : fits (mj_Ty (mj_tk a).2.1 b) v = true)
    (hnn : h'.2.2.2 = h.2.2.2) (ho : ∀ r, r ≠ (t, i) → mj_cel X ad h' r = mj_cel X ad h r) (h1 : mj_fv X ad h' (mj_tk t).2.1 (t, i) b = v) (h2 : ∀ j, j ≠ b → mj_fv X ad h' (mj_tk t).2.1 (t, i) j = mj_fv X ad h (mj_tk t).2.1 (t, i) j)
    (kk : ∀ (H1 : Heap) (locs1 : List Loc), va_P (fx_D X) mj_cl (mj_ws X ad h') H1 → va_D (fx_P X) (mj_ws X ad h') → va_S (fx_P X) st.heap H1 locs1 → W p l e R st m args below meth c H1 locs1 cells slots Q (F0 m (pc + 3) lsR rest)) : W p l e R st m args below meth c H locs cells slots Q (F0 m pc lsR (v :: mj_tr X ad (vR t i) :: rest)) := by
  obtain ⟨hx, hb, -, hown, hts, hmn, -, -, hKn, -⟩ := C
  obtain ⟨hP, hD, -, -, h108⟩ := hH
  obtain ⟨f1, f2, f3⟩ := mj_fokT hf
  unfold mj_ckf at hck
  simp only [Bool.and_eq_true, decide_eq_true_eq] at hck
  obtain ⟨⟨⟨hlk, ha1⟩, hbl⟩, hty⟩ := hck
  have hbl : b < (mj_tk a).2.2 := Nat.blt_eq.mp hbl
  obtain ⟨g1, g2⟩ := mj_tk_obj f1
  obtain ⟨k, hk, hk8, hat, htr⟩ := mj_trO (X := X) (ad := ad) hr (by omega)
  obtain ⟨hT, -, hTy⟩ := f3 b hbl
  have hbN : b < mj_cf (mj_tk t).2.1 := by rw [← g2, f2]; exact hbl
  have he : (mj_ws X ad h)[k]? = some (ad k, .inr ((mj_tk t).2.1, (List.range (mj_tk t).2.2).map (mj_fv X ad h (mj_tk t).2.1 (t, i)))) := by
    rw [mj_wsg hk, hat, mj_cel1 f1]
  have hnew : (mj_ws X ad h).set k (ad k, .inr ((mj_tk t).2.1, ((List.range (mj_tk t).2.2).map (mj_fv X ad h (mj_tk t).2.1 (t, i))).set b v)) = mj_ws X ad h' := by
    refine mj_wset hnn hk ?_ (fun j hj hjk => ho _ (fun q => hjk (mj_at_inj (by omega) hk8 (q.trans hat.symm))))
    rw [hat, mj_cel1 f1, mj_mapset h1 h2]
  have hpd : parseFieldDescriptor (mj_T (mj_tk t).2.1 b).2.2.1 = some (mj_Ty (mj_tk t).2.1 b) := mj_clt _ g1 b hbN
  have hlen : b < ((List.range (mj_tk t).2.2).map (mj_fv X ad h (mj_tk t).2.1 (t, i))).length := by simp; omega
  rw [← hTy] at hn hft
  rw [htr]
  have kk2 : ∀ (H1 : Heap) (locs1 : List Loc), va_P (fx_D X) mj_cl ((mj_ws X ad h).set k (ad k, .inr ((mj_tk t).2.1, ((List.range (mj_tk t).2.2).map (mj_fv X ad h (mj_tk t).2.1 (t, i))).set b v))) H1 → va_D (fx_P X) ((mj_ws X ad h).set k (ad k, .inr ((mj_tk t).2.1, ((List.range (mj_tk t).2.2).map (mj_fv X ad h (mj_tk t).2.1 (t, i))).set b v))) → va_S (fx_P X) st.heap H1 locs1 → W p l e R st m args below meth c H1 locs1 cells slots Q (F0 m (pc + 3) lsR rest) := by
    rw [hnew]
    exact kk
  cases hfin : (mj_T (mj_tk a).2.1 b).2.2.2 with
  | true =>
    rw [hfin] at hfn
    simp only [Bool.and_eq_true, decide_eq_true_eq] at hfn
    obtain ⟨⟨hni, hdecl⟩, hz⟩ := hfn
    rw [hz] at hlk
    have hl := hts _ (mj_inT_mem hlk)
    rw [← hT] at hl hfin hdecl
    exact va_putF (C := mj_cn (mj_tk t).2.1) (T := mj_T (mj_tk t).2.1) (N := mj_cf (mj_tk t).2.1) (ref := (mj_T (mj_tk t).2.1 b).1) hx hb hts (mj_clw g1) (mj_Ty (mj_tk t).2.1) (mj_clt _ g1) (mj_cln _ g1) hown hKn.1 hP hD hS k he (mj_clg g1) b hbN hl (fun _ h9 => h9) hfin (hmn hni) hdecl hpd hn hft hlen hd kk2
  | false =>
    cases hz : ps.getD 1 0 with
    | zero =>
      rw [hz] at hlk
      have hl := hts _ (mj_inT_mem hlk)
      rw [← hT] at hl hfin
      exact va_put (C := mj_cn (mj_tk t).2.1) (T := mj_T (mj_tk t).2.1) (N := mj_cf (mj_tk t).2.1) (ref := (mj_T (mj_tk t).2.1 b).1) hx hb hts (mj_clw g1) (mj_Ty (mj_tk t).2.1) (mj_clt _ g1) (mj_cln _ g1) hown hKn.1 hP hD hS k he (mj_clg g1) b hbN hl (fun _ h9 => h9) hfin hpd hn hft hlen hd kk2
    | succ z =>
      rw [hz] at hlk
      have hl := hKn.2.1 _ (List.mem_of_getElem? (of_decide_eq_true hlk))
      rw [← hT] at hl hfin
      exact va_putN (C := mj_cn (mj_tk t).2.1) (T := mj_T (mj_tk t).2.1) (N := mj_cf (mj_tk t).2.1) (ref := (mj_T (mj_tk t).2.1 b).1) (host := "HeadHats") hx hb hts (mj_clw g1) (mj_Ty (mj_tk t).2.1) (mj_clt _ g1) (mj_cln _ g1) hown hKn.1 hP hD hS k he (mj_clg g1) b hbN (va_Nw.use rfl hl) (fun _ h9 => h9) hfin hpd hn hft hlen hd kk2
theorem mj_vin_in {j : Int32} {n : Nat} (h : mj_vin j n = true) : vp_in j n := by
  have h2 : ¬ (j < 0 ∨ n ≤ j.toNatClampNeg) := of_decide_eq_true h
  exact h2
theorem mj_s_iald (C : mj_C X d y p R st m args meth c) (hH : mj_Hp X ad h H) {t i : Nat} {j : Int32} (hd : decode (mj_B y) pc = .ok (.iaload, 1)) (ht : (mj_tk t).1 = 2) (hr : mj_okr X h.2.2.2 (t, i)) (hj : vp_in j (mj_tk t).2.2)
    (kk : W p l e R st m args below meth c H locs cells slots Q (F0 m (pc + 1) lsR (.int (h.1 t i j.toNatClampNeg) :: rest))) : W p l e R st m args below meth c H locs cells slots Q (F0 m pc lsR (.int j :: mj_tr X ad (vR t i) :: rest)) := by
  obtain ⟨hx, hb, -, -, -, -, -, -, hKn, -⟩ := C
  obtain ⟨k, hk, hk8, hat, htr⟩ := mj_trO (X := X) (ad := ad) hr (by omega)
  rw [htr]
  exact va_iald hx hb hKn.1 hH.1 k 0 (by rw [mj_wsg hk, hat, mj_cel2 ht]) rfl hj hd kk
theorem mj_s_lald (C : mj_C X d y p R st m args meth c) (hH : mj_Hp X ad h H) {t i : Nat} {j : Int32} (hd : decode (mj_B y) pc = .ok (.laload, 1)) (ht : (mj_tk t).1 = 3) (hr : mj_okr X h.2.2.2 (t, i)) (hj : vp_in j (mj_tk t).2.2)
    (kk : W p l e R st m args below meth c H locs cells slots Q (F0 m (pc + 1) lsR (.long (h.2.1 t i j.toNatClampNeg) :: rest))) : W p l e R st m args below meth c H locs cells slots Q (F0 m pc lsR (.int j :: mj_tr X ad (vR t i) :: rest)) := by
  obtain ⟨hx, hb, -, -, -, -, -, -, hKn, -⟩ := C
  obtain ⟨k, hk, hk8, hat, htr⟩ := mj_trO (X := X) (ad := ad) hr (by omega)
  rw [htr]
  exact va_lald hx hb hKn.1 hH.1 k 1 (by rw [mj_wsg hk, hat, mj_cel3 ht]) rfl hj hd kk
theorem mj_tysg (X : FX) {e : Nat} (h1 : 2 ≤ e) (h2 : e ≤ 5) : (mj_tys X)[e]? = some (fx_A X e, .object (mj_en e)) := by
  match e, h1, h2 with
  | 2, _, _ => rfl
  | 3, _, _ => rfl
  | 4, _, _ => rfl
  | 5, _, _ => rfl
theorem mj_s_aald (C : mj_C X d y p R st m args meth c) (hH : mj_Hp X ad h H) {t i : Nat} {j : Int32} (hd : decode (mj_B y) pc = .ok (.aaload, 1)) (ht : (mj_tk t).1 = 4) (hr : mj_okr X h.2.2.2 (t, i)) (hj : vp_in j (mj_tk t).2.2)
    (kk : W p l e R st m args below meth c H locs cells slots Q (F0 m (pc + 1) lsR (mj_tr X ad (.inr (.inr (h.2.2.1 t i j.toNatClampNeg))) :: rest))) : W p l e R st m args below meth c H locs cells slots Q (F0 m pc lsR (.int j :: mj_tr X ad (vR t i) :: rest)) := by
  obtain ⟨hx, hb, -, -, -, -, -, -, hKn, -⟩ := C
  obtain ⟨k, hk, hk8, hat, htr⟩ := mj_trO (X := X) (ad := ad) hr (by omega)
  obtain ⟨q1, q2⟩ := mj_tk_ref ht
  rw [htr]
  exact va_aldq (f := fun j => mj_orf X ad (h.2.2.1 t i j)) hx hb hKn.1 hH.1 k (mj_tk t).2.1 (by rw [mj_wsg hk, hat, mj_cel4 ht]) (mj_tysg X q1 q2) hj hd kk
theorem mj_s_iast (C : mj_C X d y p R st m args meth c) (hH : mj_Hp X ad h H) (hS : va_S (fx_P X) st.heap H locs) {h' : MH} {t i : Nat} {j x : Int32} (hd : decode (mj_B y) pc = .ok (.iastore, 1)) (ht : (mj_tk t).1 = 2) (hr : mj_okr X h.2.2.2 (t, i)) (hj : vp_in j (mj_tk t).2.2) (hh : h' = (up3 h.1 t i j.toNatClampNeg x, h.2))
    (kk : ∀ (H1 : Heap) (locs1 : List Loc), va_P (fx_D X) mj_cl (mj_ws X ad h') H1 → va_D (fx_P X) (mj_ws X ad h') → va_S (fx_P X) st.heap H1 locs1 → W p l e R st m args below meth c H1 locs1 cells slots Q (F0 m (pc + 1) lsR rest)) : W p l e R st m args below meth c H locs cells slots Q (F0 m pc lsR (.int x :: .int j :: mj_tr X ad (vR t i) :: rest)) := by
  obtain ⟨hx, hb, -, -, -, -, -, -, hKn, -⟩ := C
  obtain ⟨k, hk, hk8, hat, htr⟩ := mj_trO (X := X) (ad := ad) hr (by omega)
  rw [htr]
  have hnew : (mj_ws X ad h).set k (ad k, .inl (fx_A X 0, (mj_tk t).2.2, .inl (upd (h.1 t i) j.toNatClampNeg x))) = mj_ws X ad h' := by
    subst hh
    refine mj_wset rfl hk ?_ (fun q hq hqk => mj_celc (up3_ne (fun z => hqk (mj_at_inj (by have := hH.2.2.2.2; omega) hk8 (z.trans hat.symm)))) rfl rfl)
    rw [hat, mj_cel2 ht]
    show (Sum.inl (fx_A X 0, (mj_tk t).2.2, Sum.inl (up3 h.1 t i j.toNatClampNeg x t i)) : va_E) = _
    rw [up3_at]
    rfl
  refine va_iast hx hb hKn.1 hH.1 hH.2.1 hS k 0 (by rw [mj_wsg hk, hat, mj_cel2 ht]) rfl hj hd ?_
  rw [hnew]
  exact kk
theorem mj_s_last (C : mj_C X d y p R st m args meth c) (hH : mj_Hp X ad h H) (hS : va_S (fx_P X) st.heap H locs) {h' : MH} {t i : Nat} {j : Int32} {x : Int64} (hd : decode (mj_B y) pc = .ok (.lastore, 1)) (ht : (mj_tk t).1 = 3) (hr : mj_okr X h.2.2.2 (t, i)) (hj : vp_in j (mj_tk t).2.2) (hh : h' = (h.1, up3 h.2.1 t i j.toNatClampNeg x, h.2.2))
    (kk : ∀ (H1 : Heap) (locs1 : List Loc), va_P (fx_D X) mj_cl (mj_ws X ad h') H1 → va_D (fx_P X) (mj_ws X ad h') → va_S (fx_P X) st.heap H1 locs1 → W p l e R st m args below meth c H1 locs1 cells slots Q (F0 m (pc + 1) lsR rest)) : W p l e R st m args below meth c H locs cells slots Q (F0 m pc lsR (.long x :: .int j :: mj_tr X ad (vR t i) :: rest)) := by
  obtain ⟨hx, hb, -, -, -, -, -, -, hKn, -⟩ := C
  obtain ⟨k, hk, hk8, hat, htr⟩ := mj_trO (X := X) (ad := ad) hr (by omega)
  rw [htr]
  have hnew : (mj_ws X ad h).set k (ad k, .inl (fx_A X 1, (mj_tk t).2.2, .inr (.inl (vp_updL (h.2.1 t i) j.toNatClampNeg x)))) = mj_ws X ad h' := by
    subst hh
    refine mj_wset rfl hk ?_ (fun q hq hqk => mj_celc rfl (up3_ne (fun z => hqk (mj_at_inj (by have := hH.2.2.2.2; omega) hk8 (z.trans hat.symm)))) rfl)
    rw [hat, mj_cel3 ht]
    show (Sum.inl (fx_A X 1, (mj_tk t).2.2, Sum.inr (Sum.inl (up3 h.2.1 t i j.toNatClampNeg x t i))) : va_E) = _
    rw [up3_at]
    rfl
  refine va_last hx hb hKn.1 hH.1 hH.2.1 hS k 1 (by rw [mj_wsg hk, hat, mj_cel3 ht]) rfl hj hd ?_
  rw [hnew]
  exact kk
theorem mj_s_alen (C : mj_C X d y p R st m args meth c) (hH : mj_Hp X ad h H) {t i : Nat} (hd : decode (mj_B y) pc = .ok (.arraylength, 1)) (ht : 1 < (mj_tk t).1) (hr : mj_okr X h.2.2.2 (t, i))
    (kk : W p l e R st m args below meth c H locs cells slots Q (F0 m (pc + 1) lsR (.int (nI (mj_tk t).2.2) :: rest))) : W p l e R st m args below meth c H locs cells slots Q (F0 m pc lsR (mj_tr X ad (vR t i) :: rest)) := by
  obtain ⟨hx, hb, -, -, -, -, -, -, hKn, -⟩ := C
  obtain ⟨k, hk, hk8, hat, htr⟩ := mj_trO (X := X) (ad := ad) hr (by omega)
  rw [htr]
  have h4 := (mj_tag k hk8).2.2.2.1
  rw [hat] at h4
  have h4 : (mj_tk t).1 ≤ 4 := h4
  rcases (show (mj_tk t).1 = 2 ∨ (mj_tk t).1 = 3 ∨ (mj_tk t).1 = 4 by omega) with h2 | h2 | h2
  · exact va_alen (x := ((mj_tk t).2.2, .inl (h.1 t i))) hx hb hKn.1 hH.1 k 0 (by rw [mj_wsg hk, hat, mj_cel2 h2]) (ty := .int) rfl rfl hd kk
  · exact va_alen (x := ((mj_tk t).2.2, .inr (.inl (h.2.1 t i)))) hx hb hKn.1 hH.1 k 1 (by rw [mj_wsg hk, hat, mj_cel3 h2]) (ty := .long) rfl rfl hd kk
  · obtain ⟨q1, q2⟩ := mj_tk_ref h2
    exact va_alen (x := ((mj_tk t).2.2, .inr (.inr (.inr (.inr (fun j => mj_orf X ad (h.2.2.1 t i j))))))) hx hb hKn.1 hH.1 k (mj_tk t).2.1 (by rw [mj_wsg hk, hat, mj_cel4 h2]) (mj_tysg X q1 q2) rfl hd kk
set_option maxRecDepth 100000 in
theorem mj_asgc : (List.range 6).all (fun e => (List.range 34).all (fun t => !mj_asg e t || (decide ((mj_tk t).1 = 1) && (decide (mj_cn (mj_tk t).2.1 = mj_en e) || (mj_cst.contains (mj_cn (mj_tk t).2.1) && decide (mj_en e = "HeadHats$HatKind")))))) = true := by decide +kernel
theorem mj_asg0 (e : Nat) (he : e < 6) (t : Nat) (ht : t < 34) (h : mj_asg e t = true) : (mj_tk t).1 = 1 ∧ (mj_cn (mj_tk t).2.1 = mj_en e ∨ (mj_cn (mj_tk t).2.1 ∈ mj_cst ∧ mj_en e = "HeadHats$HatKind")) := by
  have h1 := List.all_eq_true.mp (List.all_eq_true.mp mj_asgc e (List.mem_range.mpr he)) t (List.mem_range.mpr ht)
  rw [h] at h1
  simp only [Bool.not_true, Bool.false_or, Bool.and_eq_true, Bool.or_eq_true, decide_eq_true_eq, List.contains_iff_mem] at h1
  exact h1
theorem mj_asgb {e t : Nat} (h : mj_asg e t = true) : t < 34 := by
  by_cases hb : t < 34
  · exact hb
  · unfold mj_asg at h
    have h16 : Nat.ble t 16 = false := by
      rw [Bool.eq_false_iff]
      intro q
      have := Nat.le_of_ble_eq_true q
      omega
    rw [h16, mj_beq (show t ≠ 23 by omega), mj_beq (show t ≠ 20 by omega), mj_beq (show t ≠ 22 by omega)] at h
    simp at h
theorem mj_s_aast (C : mj_C X d y p R st m args meth c) (hH : mj_Hp X ad h H) (hS : va_S (fx_P X) st.heap H locs) {h' : MH} {t i t' i' : Nat} {j : Int32} (hd : decode (mj_B y) pc = .ok (.aastore, 1)) (ht : (mj_tk t).1 = 4) (hr : mj_okr X h.2.2.2 (t, i)) (hj : vp_in j (mj_tk t).2.2) (hasg : mj_asg (mj_tk t).2.1 t' = true) (hr' : mj_okr X h.2.2.2 (t', i')) (hh : h' = (h.1, h.2.1, up3 h.2.2.1 t i j.toNatClampNeg (t', i'), h.2.2.2))
    (kk : ∀ (H1 : Heap) (locs1 : List Loc), va_P (fx_D X) mj_cl (mj_ws X ad h') H1 → va_D (fx_P X) (mj_ws X ad h') → va_S (fx_P X) st.heap H1 locs1 → W p l e R st m args below meth c H1 locs1 cells slots Q (F0 m (pc + 1) lsR rest)) : W p l e R st m args below meth c H locs cells slots Q (F0 m pc lsR (mj_tr X ad (vR t' i') :: .int j :: mj_tr X ad (vR t i) :: rest)) := by
  obtain ⟨hx, hb, -, -, -, -, -, -, hKn, -⟩ := C
  obtain ⟨k, hk, hk8, hat, htr⟩ := mj_trO (X := X) (ad := ad) hr (by omega)
  obtain ⟨q1, q2⟩ := mj_tk_ref ht
  obtain ⟨a1, a2⟩ := mj_asg0 _ (by omega) _ (mj_asgb hasg) hasg
  obtain ⟨k', hk', hk8', hat', htr'⟩ := mj_trO (X := X) (ad := ad) hr' (by omega)
  obtain ⟨g1, g2⟩ := mj_tk_obj a1
  rw [htr, htr']
  have hAny : va_Any (mj_en (mj_tk t).2.1) st H (ad k') := by
    refine va_rAny hKn.1 hH.1 (by rw [mj_wsg hk', hat', mj_cel1 a1]) (mj_clg g1) (fun comp c0 f1 f2 => ?_)
    rcases a2 with a2 | ⟨a2, a3⟩
    · rw [show (mj_cn (mj_tk t').2.1, mj_T (mj_tk t').2.1, mj_cf (mj_tk t').2.1).1 = mj_en (mj_tk t).2.1 from a2] at f2
      cases f1.symm.trans f2
      exact va_asg _ _
    · obtain ⟨c1, t1, w1, w2, w3⟩ := Cond.castable_spec (va_Nw.use (A := args) rfl (hKn.2.2.1 _ a2))
      rw [a3] at f1
      cases f1.symm.trans w2
      cases f2.symm.trans w1
      exact w3
  have hnew : (mj_ws X ad h).set k (ad k, .inl (fx_A X (mj_tk t).2.1, (mj_tk t).2.2, .inr (.inr (.inr (.inr (va_up (fun q => mj_orf X ad (h.2.2.1 t i q)) j.toNatClampNeg (some (ad k')))))))) = mj_ws X ad h' := by
    subst hh
    refine mj_wset rfl hk ?_ (fun q hq hqk => mj_celc rfl rfl (up3_ne (fun z => hqk (mj_at_inj (by have := hH.2.2.2.2; omega) hk8 (z.trans hat.symm)))))
    rw [hat, mj_cel4 ht]
    congr 7
    funext q
    show mj_orf X ad (up3 h.2.2.1 t i j.toNatClampNeg (t', i') t i q) = _
    rw [up3_at]
    unfold va_up
    dsimp only
    by_cases hq : q = j.toNatClampNeg
    · rw [if_pos hq, if_pos hq, ← hat', mj_orf_own X ad hk8']
    · rw [if_neg hq, if_neg hq]
  refine va_astqM hx hb hKn.1 hH.1 hH.2.1 hS k (mj_tk t).2.1 (by rw [mj_wsg hk, hat, mj_cel4 ht]) (mj_tysg X q1 q2) hAny hj hd ?_
  rw [hnew]
  exact kk
theorem mj_nfw : nativeFrameWords "java/lang/System" "arraycopy" 5 ≤ 100 := by decide +kernel
theorem mj_s_cpi (C : mj_C X d y p R st m args meth c) (hH : mj_Hp X ad h H) (hS : va_S (fx_P X) st.heap H locs) (hml : c.maxLocals = lsR.size) {h' : MH} {x t0 i0 t1 i1 : Nat} {sp dp n : Int32} {ps : List Nat} (hd : decode (mj_B y) pc = .ok (.invokestatic x, 3))
    (hck : (mj_inT (ps.getD 0 0) (.methodLink (mj_N y).cls x arraycopyName) && mj_inT (ps.getD 1 0) (.native arraycopyName) && mj_inT (ps.getD 2 0) (.static arraycopyName) && mj_inT (ps.getD 3 0) (.initialized "java/lang/System")) = true)
    (ht0 : (mj_tk t0).1 = 2) (ht1 : (mj_tk t1).1 = 2) (hr0 : mj_okr X h.2.2.2 (t0, i0)) (hr1 : mj_okr X h.2.2.2 (t1, i1)) (h1 : ¬ sp < 0) (h2 : ¬ dp < 0) (h3 : ¬ n < 0) (h4 : sp.toNatClampNeg + n.toNatClampNeg ≤ (mj_tk t0).2.2) (h5 : dp.toNatClampNeg + n.toNatClampNeg ≤ (mj_tk t1).2.2)
    (hsum : (rest.map fun v => v.category).sum ≤ 8) (hh : h' = (upA h.1 t1 i1 (va_cpy (h.1 t0 i0) (h.1 t1 i1) sp.toNatClampNeg dp.toNatClampNeg n.toNatClampNeg), h.2))
    (kk : ∀ (H1 : Heap) (locs1 : List Loc), va_P (fx_D X) mj_cl (mj_ws X ad h') H1 → va_D (fx_P X) (mj_ws X ad h') → va_S (fx_P X) st.heap H1 locs1 → W p l e R st m args below meth c H1 locs1 cells slots Q (F0 m (pc + 3) lsR rest)) : W p l e R st m args below meth c H locs cells slots Q (F0 m pc lsR (.int n :: .int dp :: mj_tr X ad (vR t1 i1) :: .int sp :: mj_tr X ad (vR t0 i0) :: rest)) := by
  obtain ⟨hx, hb, -, hown, hts, -, hfr, hlo8, hKn, -⟩ := C
  obtain ⟨k, hk, hk8, hat, htr⟩ := mj_trO (X := X) (ad := ad) hr1 (by omega)
  obtain ⟨k', hk', hk8', hat', htr'⟩ := mj_trO (X := X) (ad := ad) hr0 (by omega)
  simp only [Bool.and_eq_true] at hck
  have hw := mj_nfw
  rw [htr, htr']
  have hnew : (mj_ws X ad h).set k (ad k, .inl (fx_A X 0, (mj_tk t1).2.2, .inl (va_cpy (h.1 t0 i0) (h.1 t1 i1) sp.toNatClampNeg dp.toNatClampNeg n.toNatClampNeg))) = mj_ws X ad h' := by
    subst hh
    refine mj_wset rfl hk ?_ (fun q hq hqk => mj_celc (upA_ne (fun z => hqk (mj_at_inj (by have := hH.2.2.2.2; omega) hk8 (z.trans hat.symm)))) rfl rfl)
    rw [hat, mj_cel2 ht1]
    show (Sum.inl (fx_A X 0, (mj_tk t1).2.2, Sum.inl (upA h.1 t1 i1 _ t1 i1)) : va_E) = _
    rw [upA_at]
  refine va_copyi hx hb hml hown (hts _ (mj_inT_mem hck.1.1.1)) (hts _ (mj_inT_mem hck.1.1.2)) (hts _ (mj_inT_mem hck.1.2)) (hts _ (mj_inT_mem hck.2)) hKn.1 hH.1 hH.2.1 hS k' k 0 0 (ty := .int) (by rw [mj_wsg hk', hat', mj_cel2 ht0]) (by rw [mj_wsg hk, hat, mj_cel2 ht1]) rfl rfl rfl h1 h2 h3 h4 h5 (fun _ _ => rfl) (by omega) (by omega) hd ?_
  rw [hnew]
  exact kk
theorem mj_s_cpl (C : mj_C X d y p R st m args meth c) (hH : mj_Hp X ad h H) (hS : va_S (fx_P X) st.heap H locs) (hml : c.maxLocals = lsR.size) {h' : MH} {x t0 i0 t1 i1 : Nat} {sp dp n : Int32} {ps : List Nat} (hd : decode (mj_B y) pc = .ok (.invokestatic x, 3))
    (hck : (mj_inT (ps.getD 0 0) (.methodLink (mj_N y).cls x arraycopyName) && mj_inT (ps.getD 1 0) (.native arraycopyName) && mj_inT (ps.getD 2 0) (.static arraycopyName) && mj_inT (ps.getD 3 0) (.initialized "java/lang/System")) = true)
    (ht0 : (mj_tk t0).1 = 3) (ht1 : (mj_tk t1).1 = 3) (hr0 : mj_okr X h.2.2.2 (t0, i0)) (hr1 : mj_okr X h.2.2.2 (t1, i1)) (h1 : ¬ sp < 0) (h2 : ¬ dp < 0) (h3 : ¬ n < 0) (h4 : sp.toNatClampNeg + n.toNatClampNeg ≤ (mj_tk t0).2.2) (h5 : dp.toNatClampNeg + n.toNatClampNeg ≤ (mj_tk t1).2.2)
    (hsum : (rest.map fun v => v.category).sum ≤ 8) (hh : h' = (h.1, upA h.2.1 t1 i1 (va_cpy (h.2.1 t0 i0) (h.2.1 t1 i1) sp.toNatClampNeg dp.toNatClampNeg n.toNatClampNeg), h.2.2))
    (kk : ∀ (H1 : Heap) (locs1 : List Loc), va_P (fx_D X) mj_cl (mj_ws X ad h') H1 → va_D (fx_P X) (mj_ws X ad h') → va_S (fx_P X) st.heap H1 locs1 → W p l e R st m args below meth c H1 locs1 cells slots Q (F0 m (pc + 3) lsR rest)) : W p l e R st m args below meth c H locs cells slots Q (F0 m pc lsR (.int n :: .int dp :: mj_tr X ad (vR t1 i1) :: .int sp :: mj_tr X ad (vR t0 i0) :: rest)) := by
  obtain ⟨hx, hb, -, hown, hts, -, hfr, hlo8, hKn, -⟩ := C
  obtain ⟨k, hk, hk8, hat, htr⟩ := mj_trO (X := X) (ad := ad) hr1 (by omega)
  obtain ⟨k', hk', hk8', hat', htr'⟩ := mj_trO (X := X) (ad := ad) hr0 (by omega)
  simp only [Bool.and_eq_true] at hck
  have hw := mj_nfw
  rw [htr, htr']
  have hnew : (mj_ws X ad h).set k (ad k, .inl (fx_A X 1, (mj_tk t1).2.2, .inr (.inl (va_cpy (h.2.1 t0 i0) (h.2.1 t1 i1) sp.toNatClampNeg dp.toNatClampNeg n.toNatClampNeg)))) = mj_ws X ad h' := by
    subst hh
    refine mj_wset rfl hk ?_ (fun q hq hqk => mj_celc rfl (upA_ne (fun z => hqk (mj_at_inj (by have := hH.2.2.2.2; omega) hk8 (z.trans hat.symm)))) rfl)
    rw [hat, mj_cel3 ht1]
    show (Sum.inl (fx_A X 1, (mj_tk t1).2.2, Sum.inr (Sum.inl (upA h.2.1 t1 i1 _ t1 i1))) : va_E) = _
    rw [upA_at]
  refine va_copyl hx hb hml hown (hts _ (mj_inT_mem hck.1.1.1)) (hts _ (mj_inT_mem hck.1.1.2)) (hts _ (mj_inT_mem hck.1.2)) (hts _ (mj_inT_mem hck.2)) hKn.1 hH.1 hH.2.1 hS k' k 1 1 (ty := .long) (by rw [mj_wsg hk', hat', mj_cel3 ht0]) (by rw [mj_wsg hk, hat, mj_cel3 ht1]) rfl rfl rfl h1 h2 h3 h4 h5 (fun _ _ => rfl) (by omega) (by omega) hd ?_
  rw [hnew]
  exact kk
end MSA
