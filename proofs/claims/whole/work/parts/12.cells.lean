/-! ONE INSTRUCTION THAT READS OR WRITES A CELL -/
section MSA
variable {l : Launch} {X : FX} {d y : Nat} {p : Program} {e : Env} {R : Room} {st : State} {m : MethodId} {args : Array Value} {below : List Frame} {meth : Method} {c : Code} {H : Heap} {locs : List Loc} {cells slots : Nat} {Q : State → Prop} {ad : Nat → Nat} {lsR : Array Slot} {pc : Nat} {rest : List Value} {h : MH}
theorem mj_trO {n t i : Nat} (hr : mj_okr n (t, i)) (hk : 0 < (mj_tk t).1) : ∃ k, k < n ∧ k < 108 ∧ mj_at k = (t, i) ∧ mj_tr X ad (vR t i) = .ref (ad k) := by
  obtain ⟨h1, h2⟩ := mj_tk_own hk
  obtain ⟨k, g1, g2, g3⟩ := mj_okown hr h1 h2
  refine ⟨k, g1, g2, g3, ?_⟩
  show va_rf (mj_orf X ad (t, i)) = _
  rw [← g3, mj_orf_own X ad g2]
  rfl
theorem mj_s_get (C : mj_C X d y p R st m args meth c) (hH : mj_Hp X ad h H) {t i a b cc x : Nat} {ps : List Nat} (hd : decode (mj_B y) pc = .ok (.getfield x, 3)) (hck : mj_ckf (mj_N y).cls x a b cc ps = true) (hf : mj_fok t a = true) (hr : mj_okr h.2.2.2 (t, i))
    (kk : W p l e R st m args below meth c H locs cells slots Q (F0 m (pc + 3) lsR (mj_fv X ad h (mj_tk t).2.1 (t, i) b :: rest))) : W p l e R st m args below meth c H locs cells slots Q (F0 m pc lsR (mj_tr X ad (vR t i) :: rest)) := by
  obtain ⟨hx, hb, -, hown, hts, -, -, -, hKn, -⟩ := C
  obtain ⟨hP, -⟩ := hH
  obtain ⟨f1, f2, f3⟩ := mj_fokT hf
  unfold mj_ckf at hck
  simp only [Bool.and_eq_true, decide_eq_true_eq] at hck
  obtain ⟨⟨⟨hlk, ha1⟩, hbl⟩, hty⟩ := hck
  have hbl : b < (mj_tk a).2.2 := Nat.blt_eq.mp hbl
  obtain ⟨g1, g2⟩ := mj_tk_obj f1
  obtain ⟨k, hk, hk8, hat, htr⟩ := mj_trO (X := X) (ad := ad) hr (by omega)
  have hT := (f3 b hbl).1
  have hbN : b < mj_cf (mj_tk t).2.1 := by rw [← g2, f2]; exact hbl
  have he : (mj_ws X ad h)[k]? = some (ad k, .inr ((mj_tk t).2.1, (List.range (mj_tk t).2.2).map (mj_fv X ad h (mj_tk t).2.1 (t, i)))) := by
    rw [mj_wsg hk, hat, mj_cel1 f1]
  have hv : ((List.range (mj_tk t).2.2).map (mj_fv X ad h (mj_tk t).2.1 (t, i)))[b]? = some (mj_fv X ad h (mj_tk t).2.1 (t, i) b) := by
    simp [f2, hbl]
  rw [htr]
  cases hz : ps.getD 1 0 with
  | zero =>
    rw [hz] at hlk
    have hl := hts _ (mj_inT_mem hlk)
    rw [← hT] at hl
    exact va_get (C := mj_cn (mj_tk t).2.1) (T := mj_T (mj_tk t).2.1) (N := mj_cf (mj_tk t).2.1) (ref := (mj_T (mj_tk t).2.1 b).1) hx hb hts (mj_clw g1) hown hKn.1 hP k he (mj_clg g1) b hbN hl (fun _ h9 => h9) hv hd kk
  | succ z =>
    rw [hz] at hlk
    have hl := hKn.2.1 _ (List.mem_of_getElem? (of_decide_eq_true hlk))
    rw [← hT] at hl
    exact va_getN (C := mj_cn (mj_tk t).2.1) (T := mj_T (mj_tk t).2.1) (N := mj_cf (mj_tk t).2.1) (ref := (mj_T (mj_tk t).2.1 b).1) (host := "HeadHats") hx hb hts (mj_clw g1) hown hKn.1 hP k he (mj_clg g1) b hbN (va_Nw.use rfl hl) (fun _ h9 => h9) hv hd kk
theorem mj_mapset {α : Type} {f f' : Nat → α} {n b : Nat} {v : α} (h1 : f' b = v) (h2 : ∀ j, j ≠ b → f' j = f j) : (List.range n).map f' = ((List.range n).map f).set b v := by
  apply List.ext_getElem?
  intro j
  by_cases hj : j < n
  · by_cases e : j = b
    · subst e
      rw [List.getElem?_set_self (by simp; exact hj)]
      simp [hj, h1]
    · rw [List.getElem?_set_ne (fun q => e q.symm)]
      simp [hj, h2 j e]
  · rw [List.getElem?_eq_none (by simp; omega), List.getElem?_eq_none (by simp; omega)]
theorem mj_s_put (C : mj_C X d y p R st m args meth c) (hH : mj_Hp X ad h H) (hS : va_S (fx_P X) st.heap H locs) {h' : MH} {t i a b cc x : Nat} {v : Value} {ps : List Nat} (hd : decode (mj_B y) pc = .ok (.putfield x, 3)) (hck : mj_ckf (mj_N y).cls x a b cc ps = true)
    (hfn : (match (mj_T (mj_tk a).2.1 b).2.2.2 with
      | true => decide ((mj_N y).name = "<init>") && decide ((mj_T (mj_tk a).2.1 b).1 = (mj_N y).cls) && decide (ps.getD 1 0 = 0)
      | false => true) = true)
    (hf : mj_fok t a = true) (hr : mj_okr h.2.2.2 (t, i)) (hn : narrow (mj_Ty (mj_tk a).2.1 b) v = v) (hft : fits (mj_Ty (mj_tk a).2.1 b) v = true)
    (hnn : h'.2.2.2 = h.2.2.2) (ho : ∀ r, r ≠ (t, i) → mj_cel X ad h' r = mj_cel X ad h r) (h1 : mj_fv X ad h' (mj_tk t).2.1 (t, i) b = v) (h2 : ∀ j, j ≠ b → mj_fv X ad h' (mj_tk t).2.1 (t, i) j = mj_fv X ad h (mj_tk t).2.1 (t, i) j)
    (kk : ∀ (H1 : Heap) (locs1 : List Loc), va_P (fx_D X) mj_cl (mj_ws X ad h') H1 → va_D (fx_P X) (mj_ws X ad h') → va_S (fx_P X) st.heap H1 locs1 → W p l e R st m args below meth c H1 locs1 cells slots Q (F0 m (pc + 3) lsR rest)) : W p l e R st m args below meth c H locs cells slots Q (F0 m pc lsR (v :: mj_tr X ad (vR t i) :: rest)) := by
  obtain ⟨hx, hb, -, hown, hts, hmn, -, -, hKn, -⟩ := C
  obtain ⟨hP, hD, -, -, h108⟩ := hH
  obtain ⟨f1, f2, f3⟩ := mj_fokT hf
  unfold mj_ckf at hck
  simp only [Bool.and_eq_true, decide_eq_true_eq] at hck
  obtain ⟨⟨⟨hlk, ha1⟩, hbl⟩, hty⟩ := hck
  have hbl : b < (mj_tk a).2.2 := Nat.blt_eq.mp hbl
  obtain ⟨g1, g2⟩ := mj_tk_obj f1
  obtain ⟨k, hk, hk8, hat, htr⟩ := mj_trO (X := X) (ad := ad) hr (by omega)
  obtain ⟨hT, -, hTy⟩ := f3 b hbl
  have hbN : b < mj_cf (mj_tk t).2.1 := by rw [← g2, f2]; exact hbl
  have he : (mj_ws X ad h)[k]? = some (ad k, .inr ((mj_tk t).2.1, (List.range (mj_tk t).2.2).map (mj_fv X ad h (mj_tk t).2.1 (t, i)))) := by
    rw [mj_wsg hk, hat, mj_cel1 f1]
  have hnew : (mj_ws X ad h).set k (ad k, .inr ((mj_tk t).2.1, ((List.range (mj_tk t).2.2).map (mj_fv X ad h (mj_tk t).2.1 (t, i))).set b v)) = mj_ws X ad h' := by
    refine mj_wset hnn hk ?_ (fun j hj hjk => ho _ (fun q => hjk (mj_at_inj (by omega) hk8 (q.trans hat.symm))))
    rw [hat, mj_cel1 f1, mj_mapset h1 h2]
  have hpd : parseFieldDescriptor (mj_T (mj_tk t).2.1 b).2.2.1 = some (mj_Ty (mj_tk t).2.1 b) := mj_clt _ g1 b hbN
  have hlen : b < ((List.range (mj_tk t).2.2).map (mj_fv X ad h (mj_tk t).2.1 (t, i))).length := by simp; omega
  rw [← hTy] at hn hft
  rw [htr]
  have kk2 : ∀ (H1 : Heap) (locs1 : List Loc), va_P (fx_D X) mj_cl ((mj_ws X ad h).set k (ad k, .inr ((mj_tk t).2.1, ((List.range (mj_tk t).2.2).map (mj_fv X ad h (mj_tk t).2.1 (t, i))).set b v))) H1 → va_D (fx_P X) ((mj_ws X ad h).set k (ad k, .inr ((mj_tk t).2.1, ((List.range (mj_tk t).2.2).map (mj_fv X ad h (mj_tk t).2.1 (t, i))).set b v))) → va_S (fx_P X) st.heap H1 locs1 → W p l e R st m args below meth c H1 locs1 cells slots Q (F0 m (pc + 3) lsR rest) := by
    rw [hnew]
    exact kk
  cases hfin : (mj_T (mj_tk a).2.1 b).2.2.2 with
  | true =>
    rw [hfin] at hfn
    simp only [Bool.and_eq_true, decide_eq_true_eq] at hfn
    obtain ⟨⟨hni, hdecl⟩, hz⟩ := hfn
    rw [hz] at hlk
    have hl := hts _ (mj_inT_mem hlk)
    rw [← hT] at hl hfin hdecl
    exact va_putF (C := mj_cn (mj_tk t).2.1) (T := mj_T (mj_tk t).2.1) (N := mj_cf (mj_tk t).2.1) (ref := (mj_T (mj_tk t).2.1 b).1) hx hb hts (mj_clw g1) (mj_Ty (mj_tk t).2.1) (mj_clt _ g1) (mj_cln _ g1) hown hKn.1 hP hD hS k he (mj_clg g1) b hbN hl (fun _ h9 => h9) hfin (hmn.trans hni) hdecl hpd hn hft hlen hd kk2
  | false =>
    cases hz : ps.getD 1 0 with
    | zero =>
      rw [hz] at hlk
      have hl := hts _ (mj_inT_mem hlk)
      rw [← hT] at hl hfin
      exact va_put (C := mj_cn (mj_tk t).2.1) (T := mj_T (mj_tk t).2.1) (N := mj_cf (mj_tk t).2.1) (ref := (mj_T (mj_tk t).2.1 b).1) hx hb hts (mj_clw g1) (mj_Ty (mj_tk t).2.1) (mj_clt _ g1) (mj_cln _ g1) hown hKn.1 hP hD hS k he (mj_clg g1) b hbN hl (fun _ h9 => h9) hfin hpd hn hft hlen hd kk2
    | succ z =>
      rw [hz] at hlk
      have hl := hKn.2.1 _ (List.mem_of_getElem? (of_decide_eq_true hlk))
      rw [← hT] at hl hfin
      exact va_putN (C := mj_cn (mj_tk t).2.1) (T := mj_T (mj_tk t).2.1) (N := mj_cf (mj_tk t).2.1) (ref := (mj_T (mj_tk t).2.1 b).1) (host := "HeadHats") hx hb hts (mj_clw g1) (mj_Ty (mj_tk t).2.1) (mj_clt _ g1) (mj_cln _ g1) hown hKn.1 hP hD hS k he (mj_clg g1) b hbN (va_Nw.use rfl hl) (fun _ h9 => h9) hfin hpd hn hft hlen hd kk2
theorem mj_vin_in {j : Int32} {n : Nat} (h : mj_vin j n = true) : vp_in j n := of_decide_eq_true h
theorem mj_s_iald (C : mj_C X d y p R st m args meth c) (hH : mj_Hp X ad h H) {t i : Nat} {j : Int32} (hd : decode (mj_B y) pc = .ok (.iaload, 1)) (ht : (mj_tk t).1 = 2) (hr : mj_okr h.2.2.2 (t, i)) (hj : vp_in j (mj_tk t).2.2)
    (kk : W p l e R st m args below meth c H locs cells slots Q (F0 m (pc + 1) lsR (.int (h.1 t i j.toNatClampNeg) :: rest))) : W p l e R st m args below meth c H locs cells slots Q (F0 m pc lsR (.int j :: mj_tr X ad (vR t i) :: rest)) := by
  obtain ⟨hx, hb, -, -, -, -, -, -, hKn, -⟩ := C
  obtain ⟨k, hk, hk8, hat, htr⟩ := mj_trO (X := X) (ad := ad) hr (by omega)
  rw [htr]
  exact va_iald hx hb hKn.1 hH.1 k 0 (by rw [mj_wsg hk, hat, mj_cel2 ht]) rfl hj hd kk
theorem mj_s_lald (C : mj_C X d y p R st m args meth c) (hH : mj_Hp X ad h H) {t i : Nat} {j : Int32} (hd : decode (mj_B y) pc = .ok (.laload, 1)) (ht : (mj_tk t).1 = 3) (hr : mj_okr h.2.2.2 (t, i)) (hj : vp_in j (mj_tk t).2.2)
    (kk : W p l e R st m args below meth c H locs cells slots Q (F0 m (pc + 1) lsR (.long (h.2.1 t i j.toNatClampNeg) :: rest))) : W p l e R st m args below meth c H locs cells slots Q (F0 m pc lsR (.int j :: mj_tr X ad (vR t i) :: rest)) := by
  obtain ⟨hx, hb, -, -, -, -, -, -, hKn, -⟩ := C
  obtain ⟨k, hk, hk8, hat, htr⟩ := mj_trO (X := X) (ad := ad) hr (by omega)
  rw [htr]
  exact va_lald hx hb hKn.1 hH.1 k 1 (by rw [mj_wsg hk, hat, mj_cel3 ht]) rfl hj hd kk
theorem mj_tysg (X : FX) {e : Nat} (h1 : 2 ≤ e) (h2 : e ≤ 5) : (mj_tys X)[e]? = some (fx_A X e, .object (mj_en e)) := by
  match e, h1, h2 with
  | 2, _, _ => rfl
  | 3, _, _ => rfl
  | 4, _, _ => rfl
  | 5, _, _ => rfl
theorem mj_s_aald (C : mj_C X d y p R st m args meth c) (hH : mj_Hp X ad h H) {t i : Nat} {j : Int32} (hd : decode (mj_B y) pc = .ok (.aaload, 1)) (ht : (mj_tk t).1 = 4) (hr : mj_okr h.2.2.2 (t, i)) (hj : vp_in j (mj_tk t).2.2)
    (kk : W p l e R st m args below meth c H locs cells slots Q (F0 m (pc + 1) lsR (mj_tr X ad (.inr (.inr (h.2.2.1 t i j.toNatClampNeg))) :: rest))) : W p l e R st m args below meth c H locs cells slots Q (F0 m pc lsR (.int j :: mj_tr X ad (vR t i) :: rest)) := by
  obtain ⟨hx, hb, -, -, -, -, -, -, hKn, -⟩ := C
  obtain ⟨k, hk, hk8, hat, htr⟩ := mj_trO (X := X) (ad := ad) hr (by omega)
  obtain ⟨q1, q2⟩ := mj_tk_ref ht
  rw [htr]
  exact va_aldq hx hb hKn.1 hH.1 k (mj_tk t).2.1 (by rw [mj_wsg hk, hat, mj_cel4 ht]) (mj_tysg X q1 q2) hj hd kk
theorem mj_s_iast (C : mj_C X d y p R st m args meth c) (hH : mj_Hp X ad h H) (hS : va_S (fx_P X) st.heap H locs) {h' : MH} {t i : Nat} {j x : Int32} (hd : decode (mj_B y) pc = .ok (.iastore, 1)) (ht : (mj_tk t).1 = 2) (hr : mj_okr h.2.2.2 (t, i)) (hj : vp_in j (mj_tk t).2.2) (hh : h' = (up3 h.1 t i j.toNatClampNeg x, h.2))
    (kk : ∀ (H1 : Heap) (locs1 : List Loc), va_P (fx_D X) mj_cl (mj_ws X ad h') H1 → va_D (fx_P X) (mj_ws X ad h') → va_S (fx_P X) st.heap H1 locs1 → W p l e R st m args below meth c H1 locs1 cells slots Q (F0 m (pc + 1) lsR rest)) : W p l e R st m args below meth c H locs cells slots Q (F0 m pc lsR (.int x :: .int j :: mj_tr X ad (vR t i) :: rest)) := by
  obtain ⟨hx, hb, -, -, -, -, -, -, hKn, -⟩ := C
  obtain ⟨k, hk, hk8, hat, htr⟩ := mj_trO (X := X) (ad := ad) hr (by omega)
  rw [htr]
  have hnew : (mj_ws X ad h).set k (ad k, .inl (fx_A X 0, (mj_tk t).2.2, .inl (upd (h.1 t i) j.toNatClampNeg x))) = mj_ws X ad h' := by
    subst hh
    refine mj_wset rfl hk ?_ (fun q hq hqk => mj_celc (up3_ne (fun z => hqk (mj_at_inj (by have := hH.2.2.2.2; omega) hk8 (z.trans hat.symm)))) rfl rfl)
    rw [hat, mj_cel2 ht]
    show (Sum.inl (fx_A X 0, (mj_tk t).2.2, Sum.inl (up3 h.1 t i j.toNatClampNeg x t i)) : va_E) = _
    rw [up3_at]
    rfl
  refine va_iast hx hb hKn.1 hH.1 hH.2.1 hS k 0 (by rw [mj_wsg hk, hat, mj_cel2 ht]) rfl hj hd ?_
  rw [hnew]
  exact kk
theorem mj_s_last (C : mj_C X d y p R st m args meth c) (hH : mj_Hp X ad h H) (hS : va_S (fx_P X) st.heap H locs) {h' : MH} {t i : Nat} {j : Int32} {x : Int64} (hd : decode (mj_B y) pc = .ok (.lastore, 1)) (ht : (mj_tk t).1 = 3) (hr : mj_okr h.2.2.2 (t, i)) (hj : vp_in j (mj_tk t).2.2) (hh : h' = (h.1, up3 h.2.1 t i j.toNatClampNeg x, h.2.2))
    (kk : ∀ (H1 : Heap) (locs1 : List Loc), va_P (fx_D X) mj_cl (mj_ws X ad h') H1 → va_D (fx_P X) (mj_ws X ad h') → va_S (fx_P X) st.heap H1 locs1 → W p l e R st m args below meth c H1 locs1 cells slots Q (F0 m (pc + 1) lsR rest)) : W p l e R st m args below meth c H locs cells slots Q (F0 m pc lsR (.long x :: .int j :: mj_tr X ad (vR t i) :: rest)) := by
  obtain ⟨hx, hb, -, -, -, -, -, -, hKn, -⟩ := C
  obtain ⟨k, hk, hk8, hat, htr⟩ := mj_trO (X := X) (ad := ad) hr (by omega)
  rw [htr]
  have hnew : (mj_ws X ad h).set k (ad k, .inl (fx_A X 1, (mj_tk t).2.2, .inr (.inl (vp_updL (h.2.1 t i) j.toNatClampNeg x)))) = mj_ws X ad h' := by
    subst hh
    refine mj_wset rfl hk ?_ (fun q hq hqk => mj_celc rfl (up3_ne (fun z => hqk (mj_at_inj (by have := hH.2.2.2.2; omega) hk8 (z.trans hat.symm)))) rfl)
    rw [hat, mj_cel3 ht]
    show (Sum.inl (fx_A X 1, (mj_tk t).2.2, Sum.inr (Sum.inl (up3 h.2.1 t i j.toNatClampNeg x t i))) : va_E) = _
    rw [up3_at]
    rfl
  refine va_last hx hb hKn.1 hH.1 hH.2.1 hS k 1 (by rw [mj_wsg hk, hat, mj_cel3 ht]) rfl hj hd ?_
  rw [hnew]
  exact kk
end MSA
