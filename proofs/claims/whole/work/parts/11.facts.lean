/-! facts of the tables, by program -/
set_option maxRecDepth 100000 in
theorem mj_al_len : mj_al.length = 108 := by decide +kernel
set_option maxRecDepth 100000 in
theorem mj_idx : ∀ k, k < 108 → mj_al.idxOf (mj_at k) = k := by decide +kernel
set_option maxRecDepth 100000 in
theorem mj_tag : ∀ k, k < 108 → 5 ≤ (mj_at k).1 ∧ (mj_at k).1 ≤ 33 ∧ 1 ≤ (mj_tk (mj_at k).1).1 ∧ (mj_tk (mj_at k).1).1 ≤ 4 ∧ ((mj_tk (mj_at k).1).1 = 1 → (mj_tk (mj_at k).1).2.1 < 13 ∧ (mj_tk (mj_at k).1).2.2 = mj_cf (mj_tk (mj_at k).1).2.1) ∧ ((mj_tk (mj_at k).1).1 = 4 → 2 ≤ (mj_tk (mj_at k).1).2.1 ∧ (mj_tk (mj_at k).1).2.1 ≤ 5) := by decide +kernel
set_option maxRecDepth 100000 in
theorem mj_clw0 : (List.range 13).all (fun ci => (List.range (mj_cf ci)).all (fun k => mj_inT ((mj_cpos ci).getD k 0) (u_lay (mj_cn ci) (mj_T ci) k))) = true := by decide +kernel
theorem mj_clw {ci : Nat} (h : ci < 13) : ∀ w ∈ u_ws (mj_cn ci) (mj_T ci) (mj_cf ci), w ∈ mj_Wg := by
  intro w hw
  obtain ⟨k, hk, rfl⟩ := List.mem_map.mp hw
  exact mj_inT_mem (List.all_eq_true.mp (List.all_eq_true.mp mj_clw0 ci (List.mem_range.mpr h)) k hk)
set_option maxRecDepth 100000 in
theorem mj_clt : ∀ ci, ci < 13 → ∀ k, k < mj_cf ci → parseFieldDescriptor (mj_T ci k).2.2.1 = some (mj_Ty ci k) := by decide +kernel
set_option maxRecDepth 100000 in
theorem mj_cln : ∀ ci, ci < 13 → ∀ a, a < mj_cf ci → ∀ b, b < mj_cf ci → a ≠ b → (mj_T ci a).2.1 ≠ (mj_T ci b).2.1 := by decide +kernel
theorem mj_clg {ci : Nat} (h : ci < 13) : mj_cl[ci]? = some (mj_cn ci, mj_T ci, mj_cf ci) := by
  match ci, h with
  | 0, _ => rfl
  | 1, _ => rfl
  | 2, _ => rfl
  | 3, _ => rfl
  | 4, _ => rfl
  | 5, _ => rfl
  | 6, _ => rfl
  | 7, _ => rfl
  | 8, _ => rfl
  | 9, _ => rfl
  | 10, _ => rfl
  | 11, _ => rfl
  | 12, _ => rfl
  | n + 13, h => omega
theorem mj_beq {a b : Nat} (h : a ≠ b) : Nat.beq a b = false := by
  rw [Bool.eq_false_iff]
  intro q
  exact h (Nat.eq_of_beq_eq_true q)
theorem mj_tk_big {t : Nat} (h : 34 ≤ t) : mj_tk t = (0, 0, 0) := by
  unfold mj_tk
  rw [mj_blt (show 17 ≤ t by omega), mj_blt (show 25 ≤ t by omega), mj_blt (show 29 ≤ t by omega), mj_beq (show t ≠ 29 by omega), mj_beq (show t ≠ 30 by omega), mj_blt (show 33 ≤ t by omega), mj_beq (show t ≠ 33 by omega)]
  rfl
set_option maxRecDepth 100000 in
theorem mj_tk_sm : ∀ t, t < 34 → 0 < (mj_tk t).1 → 5 ≤ t ∧ ((mj_tk t).1 = 1 → (mj_tk t).2.1 < 13 ∧ (mj_tk t).2.2 = mj_cf (mj_tk t).2.1) ∧ ((mj_tk t).1 = 4 → 2 ≤ (mj_tk t).2.1 ∧ (mj_tk t).2.1 ≤ 5) := by decide +kernel
theorem mj_tk_own {t : Nat} (h : 0 < (mj_tk t).1) : 5 ≤ t ∧ t ≤ 33 := by
  by_cases hb : 34 ≤ t
  · rw [mj_tk_big hb] at h
    exact absurd h (Nat.lt_irrefl 0)
  · exact ⟨(mj_tk_sm t (by omega) h).1, by omega⟩
theorem mj_tk_obj {t : Nat} (h : (mj_tk t).1 = 1) : (mj_tk t).2.1 < 13 ∧ (mj_tk t).2.2 = mj_cf (mj_tk t).2.1 := by
  have := mj_tk_own (t := t) (by omega)
  exact (mj_tk_sm t (by omega) (by omega)).2.1 h
theorem mj_tk_ref {t : Nat} (h : (mj_tk t).1 = 4) : 2 ≤ (mj_tk t).2.1 ∧ (mj_tk t).2.1 ≤ 5 := by
  have := mj_tk_own (t := t) (by omega)
  exact (mj_tk_sm t (by omega) (by omega)).2.2 h
theorem mj_kT0 : ∀ j, j < 6 → (mj_tk (11 + j)).1 = 1 ∧ (mj_tk (11 + j)).2.2 = 2 := by decide +kernel
theorem mj_kT1 : ∀ j, j < 6 → ∀ b, b < 2 → mj_T (mj_tk (11 + j)).2.1 b = mj_T 4 b := by decide +kernel
theorem mj_kT2 : ∀ j, j < 6 → ∀ b, b < 2 → mj_fr (mj_tk (11 + j)).2.1 b = mj_fr 4 b := by decide +kernel
theorem mj_kT3 : ∀ j, j < 6 → ∀ b, b < 2 → mj_Ty (mj_tk (11 + j)).2.1 b = mj_Ty 4 b := by decide +kernel
theorem mj_fok11 (t : Nat) (h1 : t < 17) (h2 : 11 ≤ t) : (mj_tk t).1 = 1 ∧ (mj_tk t).2.2 = (mj_tk 11).2.2 ∧ ∀ b, b < (mj_tk 11).2.2 → mj_T (mj_tk t).2.1 b = mj_T (mj_tk 11).2.1 b ∧ mj_fr (mj_tk t).2.1 b = mj_fr (mj_tk 11).2.1 b ∧ mj_Ty (mj_tk t).2.1 b = mj_Ty (mj_tk 11).2.1 b := by
  obtain ⟨j, rfl⟩ : ∃ j, t = 11 + j := ⟨t - 11, by omega⟩
  have hj : j < 6 := by omega
  exact ⟨(mj_kT0 j hj).1, (mj_kT0 j hj).2, fun b hb => ⟨mj_kT1 j hj b hb, mj_kT2 j hj b hb, mj_kT3 j hj b hb⟩⟩
theorem mj_fokT {t a : Nat} (h : mj_fok t a = true) : (mj_tk t).1 = 1 ∧ (mj_tk t).2.2 = (mj_tk a).2.2 ∧ ∀ b, b < (mj_tk a).2.2 → mj_T (mj_tk t).2.1 b = mj_T (mj_tk a).2.1 b ∧ mj_fr (mj_tk t).2.1 b = mj_fr (mj_tk a).2.1 b ∧ mj_Ty (mj_tk t).2.1 b = mj_Ty (mj_tk a).2.1 b := by
  unfold mj_fok at h
  by_cases ha : a = 11
  · subst ha
    rw [show Nat.beq 11 11 = true from rfl] at h
    simp only [cond_true, Bool.and_eq_true] at h
    have h1 := Nat.le_of_ble_eq_true h.1
    have h2 := Nat.le_of_ble_eq_true h.2
    exact mj_fok11 t (by omega) h1
  · rw [mj_beq ha] at h
    simp only [cond_false, Bool.and_eq_true] at h
    have h1 := Nat.eq_of_beq_eq_true h.1
    have h2 := Nat.eq_of_beq_eq_true h.2
    subst h1
    exact ⟨h2, rfl, fun b _ => ⟨rfl, rfl, rfl⟩⟩
set_option maxRecDepth 100000 in
theorem mj_frty : ∀ ci, ci < 13 → ∀ k, k < mj_cf ci → (mj_fr ci k = true ↔ mj_tyk (mj_Ty ci k) = 1) ∧ (mj_fr ci k = false ↔ (mj_tyk (mj_Ty ci k) = 0 ∨ mj_tyk (mj_Ty ci k) = 2)) := by decide +kernel
/-! references and cells -/
theorem mj_al_lt {k : Nat} {r : Nat × Nat} (h : mj_al[k]? = some r) : k < 108 ∧ mj_at k = r := by
  have h1 := (List.getElem?_eq_some_iff.mp h).1
  rw [mj_al_len] at h1
  refine ⟨h1, ?_⟩
  unfold mj_at
  rw [List.getD_eq_getElem?_getD, h]
  rfl
theorem mj_al_at {k : Nat} (h : k < 108) : mj_al[k]? = some (mj_at k) := by
  unfold mj_at
  rw [List.getD_eq_getElem?_getD]
  have h1 : k < mj_al.length := by rw [mj_al_len]; exact h
  rw [List.getElem?_eq_getElem h1]
  rfl
theorem mj_at_inj {j k : Nat} (hj : j < 108) (hk : k < 108) (h : mj_at j = mj_at k) : j = k := by
  rw [← mj_idx j hj, ← mj_idx k hk, h]
theorem mj_orf_own (X : FX) (ad : Nat → Nat) {k : Nat} (hk : k < 108) : mj_orf X ad (mj_at k) = some (ad k) := by
  obtain ⟨h1, h2, -⟩ := mj_tag k hk
  unfold mj_orf
  split
  · omega
  · omega
  · unfold mj_adr
    split
    · omega
    · omega
    · omega
    · omega
    · rw [mj_idx k hk]
theorem mj_okown {X : FX} {n : Nat} {r : Nat × Nat} (h : mj_okr X n r) (h5 : 5 ≤ r.1) (h33 : r.1 ≤ 33) : ∃ k, k < n ∧ k < 108 ∧ mj_at k = r := by
  rcases h with h | h | h | h | h | ⟨k, h1, h2⟩
  · omega
  · omega
  · rw [h.1] at h5; exact absurd h5 (by decide)
  · rw [h] at h5; exact absurd h5 (by decide)
  · omega
  · obtain ⟨h3, h4⟩ := mj_al_lt h2
    exact ⟨k, h1, h3, h4⟩
theorem mj_wsg {X : FX} {ad : Nat → Nat} {h : MH} {k : Nat} (hk : k < h.2.2.2) : (mj_ws X ad h)[k]? = some (ad k, mj_cel X ad h (mj_at k)) := by
  simp [mj_ws, hk]
theorem mj_wset {X : FX} {ad : Nat → Nat} {h h' : MH} {k : Nat} {e : va_E} (hn : h'.2.2.2 = h.2.2.2) (hk : k < h.2.2.2) (he : mj_cel X ad h' (mj_at k) = e) (ho : ∀ j, j < h.2.2.2 → j ≠ k → mj_cel X ad h' (mj_at j) = mj_cel X ad h (mj_at j)) : (mj_ws X ad h).set k (ad k, e) = mj_ws X ad h' := by
  subst he
  apply List.ext_getElem?
  intro j
  by_cases hj : j < h.2.2.2
  · rw [mj_wsg (by rw [hn]; exact hj)]
    by_cases e : j = k
    · subst e
      rw [List.getElem?_set_self (by simp [mj_ws]; exact hj)]
    · rw [List.getElem?_set_ne (fun q => e q.symm), mj_wsg hj, ho j hj e]
  · rw [List.getElem?_eq_none (by simp [mj_ws]; omega), List.getElem?_eq_none (by simp [mj_ws, hn]; omega)]
theorem mj_fvc {X : FX} {ad : Nat → Nat} {h h' : MH} {ci : Nat} {r : Nat × Nat} (h1 : h'.1 r.1 r.2 = h.1 r.1 r.2) (h3 : h'.2.2.1 r.1 r.2 = h.2.2.1 r.1 r.2) : mj_fv X ad h' ci r = mj_fv X ad h ci r := by
  funext k
  unfold mj_fv
  rw [h1, h3]
theorem mj_celc {X : FX} {ad : Nat → Nat} {h h' : MH} {r : Nat × Nat} (h1 : h'.1 r.1 r.2 = h.1 r.1 r.2) (h2 : h'.2.1 r.1 r.2 = h.2.1 r.1 r.2) (h3 : h'.2.2.1 r.1 r.2 = h.2.2.1 r.1 r.2) : mj_cel X ad h' r = mj_cel X ad h r := by
  unfold mj_cel
  simp only [mj_fvc h1 h3, h1, h2, h3]
theorem mj_cel1 {X : FX} {ad : Nat → Nat} {h : MH} {r : Nat × Nat} (e : (mj_tk r.1).1 = 1) : mj_cel X ad h r = .inr ((mj_tk r.1).2.1, (List.range (mj_tk r.1).2.2).map (mj_fv X ad h (mj_tk r.1).2.1 r)) := by
  unfold mj_cel
  generalize mj_tk r.1 = z at *
  obtain ⟨a, b, c⟩ := z
  cases e
  rfl
theorem mj_cel2 {X : FX} {ad : Nat → Nat} {h : MH} {r : Nat × Nat} (e : (mj_tk r.1).1 = 2) : mj_cel X ad h r = .inl (fx_A X 0, (mj_tk r.1).2.2, .inl (h.1 r.1 r.2)) := by
  unfold mj_cel
  generalize mj_tk r.1 = z at *
  obtain ⟨a, b, c⟩ := z
  cases e
  rfl
theorem mj_cel3 {X : FX} {ad : Nat → Nat} {h : MH} {r : Nat × Nat} (e : (mj_tk r.1).1 = 3) : mj_cel X ad h r = .inl (fx_A X 1, (mj_tk r.1).2.2, .inr (.inl (h.2.1 r.1 r.2))) := by
  unfold mj_cel
  generalize mj_tk r.1 = z at *
  obtain ⟨a, b, c⟩ := z
  cases e
  rfl
theorem mj_cel4 {X : FX} {ad : Nat → Nat} {h : MH} {r : Nat × Nat} (e : (mj_tk r.1).1 = 4) : mj_cel X ad h r = .inl (fx_A X (mj_tk r.1).2.1, (mj_tk r.1).2.2, .inr (.inr (.inr (.inr (fun j => mj_orf X ad (h.2.2.1 r.1 r.2 j)))))) := by
  unfold mj_cel
  generalize mj_tk r.1 = z at *
  obtain ⟨a, b, c⟩ := z
  cases e
  rfl
theorem up3_ne {α : Type} {f : Nat → Nat → Nat → α} {t i k : Nat} {v : α} {r : Nat × Nat} (h : r ≠ (t, i)) : up3 f t i k v r.1 r.2 = f r.1 r.2 := by
  funext c
  unfold up3
  rw [if_neg]
  rintro ⟨a, b, -⟩
  exact h (Prod.ext a b)
theorem upA_ne {α : Type} {f : Nat → Nat → Nat → α} {t i : Nat} {g : Nat → α} {r : Nat × Nat} (h : r ≠ (t, i)) : upA f t i g r.1 r.2 = f r.1 r.2 := by
  funext c
  unfold upA
  rw [if_neg]
  rintro ⟨a, b⟩
  exact h (Prod.ext a b)
theorem up3_at {α : Type} (f : Nat → Nat → Nat → α) (t i k : Nat) (v : α) : up3 f t i k v t i = fun j => if j = k then v else f t i j := by
  funext c
  simp [up3]
theorem upA_at {α : Type} (f : Nat → Nat → Nat → α) (t i : Nat) (g : Nat → α) : upA f t i g t i = g := by
  funext c
  simp [upA]
theorem mj_okc {X : FX} {n : Nat} {v : MV} {l : List MV} (h1 : mj_okv X n v) (h2 : ∀ u ∈ l, mj_okv X n u) : ∀ u ∈ v :: l, mj_okv X n u := fun u hu => by
  rcases List.mem_cons.mp hu with rfl | hu
  · exact h1
  · exact h2 u hu
theorem mj_okt {X : FX} {n : Nat} {v : MV} {l : List MV} (h : ∀ u ∈ v :: l, mj_okv X n u) : ∀ u ∈ l, mj_okv X n u := fun u hu => h u (List.mem_cons_of_mem _ hu)
theorem mj_okhd {X : FX} {n : Nat} {v : MV} {l : List MV} (h : ∀ u ∈ v :: l, mj_okv X n u) : mj_okv X n v := h v List.mem_cons_self
/-- a load from the locals -/
theorem mj_lvat {X : FX} {ad : Nat → Nat} {ls : ML} {lsR : Array Slot} {nL k : Nat} {v : MV} (h : lv_has lsR nL (mj_lv X ad ls)) (hk : mj_nth ls k = some v) : lsR[k]? = some (.val (mj_tr X ad v)) := h.2.2 (k, mj_tr X ad v) (mj_lv_mem.mpr ⟨v, hk, rfl⟩)
theorem mj_trR (X : FX) (ad : Nat → Nat) (r : Nat × Nat) : mj_tr X ad (.inr (.inr r)) = .null ∨ ∃ a, mj_tr X ad (.inr (.inr r)) = .ref a := by
  show va_rf (mj_orf X ad r) = .null ∨ _
  cases h : mj_orf X ad r with
  | none => exact Or.inl rfl
  | some a => exact Or.inr ⟨a, by show va_rf (mj_orf X ad r) = _; rw [h]; rfl⟩
