/-! CALLS -/
theorem mj_okr_mono {X : FX} {n n' : Nat} {r : Nat × Nat} (h : mj_okr X n r) (hn : n ≤ n') : mj_okr X n' r := by
  rcases h with h | h | h | h | h | ⟨k, h1, h2⟩
  · exact Or.inl h
  · exact Or.inr (Or.inl h)
  · exact Or.inr (Or.inr (Or.inl h))
  · exact Or.inr (Or.inr (Or.inr (Or.inl h)))
  · exact Or.inr (Or.inr (Or.inr (Or.inr (Or.inl h))))
  · exact Or.inr (Or.inr (Or.inr (Or.inr (Or.inr ⟨k, by omega, h2⟩))))
theorem mj_okv_mono {X : FX} {n n' : Nat} {v : MV} (h : mj_okv X n v) (hn : n ≤ n') : mj_okv X n' v := by
  rcases v with x | x | r
  · trivial
  · trivial
  · exact mj_okr_mono h hn
theorem mj_orf_ext {X : FX} {ad ad' : Nat → Nat} {n : Nat} {r : Nat × Nat} (h : mj_okr X n r) (he : ∀ k, k < n → ad' k = ad k) : mj_orf X ad' r = mj_orf X ad r := by
  by_cases h0 : r.1 = 0
  · unfold mj_orf
    rw [h0]
    rfl
  · by_cases h34 : r.1 = 34
    · unfold mj_orf
      rw [h34]
      rfl
    · by_cases hb : 5 ≤ r.1
      · have h33 : r.1 ≤ 33 := by
          rcases h with h | h | h | h | h | ⟨k, h1, h2⟩
          · omega
          · omega
          · rw [h.1]; decide
          · rw [h]; decide
          · omega
          · obtain ⟨h3, h4⟩ := mj_al_lt h2
            rw [← h4]
            exact (mj_tag k h3).2.1
        obtain ⟨k, g1, g2, g3⟩ := mj_okown h hb h33
        rw [← g3, mj_orf_own X ad' g2, mj_orf_own X ad g2, he k g1]
      · rcases (show r.1 = 1 ∨ r.1 = 2 ∨ r.1 = 3 ∨ r.1 = 4 by omega) with e | e | e | e
        · unfold mj_orf mj_adr
          rw [e]
          rfl
        · unfold mj_orf mj_adr
          rw [e]
          rfl
        · unfold mj_orf mj_adr
          rw [e]
          rfl
        · unfold mj_orf mj_adr
          rw [e]
          rfl
theorem mj_tr_ext {X : FX} {ad ad' : Nat → Nat} {n : Nat} {v : MV} (h : mj_okv X n v) (he : ∀ k, k < n → ad' k = ad k) : mj_tr X ad' v = mj_tr X ad v := by
  rcases v with x | x | r
  · rfl
  · rfl
  · show va_rf _ = va_rf _
    rw [mj_orf_ext h he]
theorem mj_map_ext {X : FX} {ad ad' : Nat → Nat} {n : Nat} {l : List MV} (h : ∀ v ∈ l, mj_okv X n v) (he : ∀ k, k < n → ad' k = ad k) : l.map (mj_tr X ad') = l.map (mj_tr X ad) := List.map_congr_left (fun v hv => mj_tr_ext (h v hv) he)
theorem mj_lv_ext {X : FX} {ad ad' : Nat → Nat} {n : Nat} {ls : ML} (h : ∀ j v, mj_nth ls j = some v → mj_okv X n v) (he : ∀ k, k < n → ad' k = ad k) : ∀ q ∈ mj_lv X ad' ls, q ∈ mj_lv X ad ls := by
  intro q hq
  obtain ⟨v, h1, h2⟩ := mj_lv_mem.mp hq
  exact mj_lv_mem.mpr ⟨v, h1, by rw [h2, mj_tr_ext (h _ _ h1) he]⟩
def mj_isN : Cond → Bool
  | .fieldLinkNest .. => true
  | .methodLinkNest .. => true
  | _ => false
theorem mj_nstN : mj_nst.all mj_isN = true := rfl
theorem mj_KnW {X : FX} {s U : State} (hW : s.WarmedH U.vm) (h : mj_Kn X s) : mj_Kn X U := by
  obtain ⟨h1, h2, h3, h4, h5⟩ := h
  refine ⟨va_K.moved hW.alike h1, fun w hw => ?_, fun c hc => va_Nw.warmC hW (h3 c hc), fun c hc => va_AO.moved hW.alike (h4 c hc), fun i o k tx hi => vk_R.warm hW (h5 i o k tx hi)⟩
  have hn := List.all_eq_true.mp mj_nstN w hw
  have hz := h2 w hw
  cases w <;> first | (exact va_Nw.warmF hW hz) | (exact va_Nw.warmM hW hz) | (exact absurd hn (by simp [mj_isN]))
theorem mj_KnV {X : FX} {s U : State} (hv : s.vm = U.vm) (h : mj_Kn X s) : mj_Kn X U := by
  obtain ⟨h1, h2, h3, h4, h5⟩ := h
  have ha : s.vm.Alike U.vm := hv ▸ Vm.Alike.refl s.vm
  refine ⟨va_K.moved ha h1, fun w hw => ?_, fun c hc => va_Nw.same rfl hv (h3 c hc), fun c hc => va_AO.moved ha (h4 c hc), fun i o k tx hi => vk_R.same hv.symm (h5 i o k tx hi)⟩
  have hn := List.all_eq_true.mp mj_nstN w hw
  have hz := h2 w hw
  cases w <;> first | (exact va_Nw.same rfl hv hz) | (exact absurd hn (by simp [mj_isN]))
theorem mj_OutM {X : FX} {s U : State} {locs : List Loc} (ha : s.vm.Alike U.vm) (hS : va_S (fx_P X) s.heap U.heap locs) (h : mj_Out X s) : mj_Out X U := by
  obtain ⟨h1, h2, h3, h4, h5, h6, h7⟩ := h
  refine ⟨(h1.moved ha).kept hS.2.1, fun hg => ?_, (h3.moved ha).kept hS.2.1, (h4.moved ha).kept hS.2.1, (h5.moved ha).kept hS.2.1, (h6.moved ha).kept hS.2.1, Nat.le_trans h7 hS.1⟩
  obtain ⟨g1, g2, g3⟩ := h2 hg
  exact ⟨(g1.moved ha).kept (hS.2.1 _ g2 g3), Nat.lt_of_lt_of_le g2 hS.1, g3⟩
theorem mj_blind {X : FX} {ad : Nat → Nat} {h : MH} {av : List Value} : FrameBlind (va_Pc av (fun U => mj_Hp X ad h U.heap ∧ mj_Kn X U ∧ mj_Out X U)) := by
  intro a U g mk q
  obtain ⟨q0, q1, q2, q3⟩ := q
  exact ⟨q0, q1, mj_KnV (s := U) (U := U.calling g mk a) rfl q2, mj_OutM (s := U) (U := U.calling g mk a) (locs := []) (Vm.Alike.refl U.vm) va_S.rf q3⟩
theorem mj_pop_s : ∀ {n : Nat} {acc st as r : List MV}, mj_pop n acc st = some (as, r) → ∃ bs, as = bs ++ acc ∧ bs.length = n ∧ st = bs.reverse ++ r
  | 0, acc, st, as, r, h => by
    simp only [mj_pop] at h
    cases h
    exact ⟨[], rfl, rfl, rfl⟩
  | n + 1, acc, [], as, r, h => by simp [mj_pop] at h
  | n + 1, acc, v :: st, as, r, h => by
    simp only [mj_pop] at h
    obtain ⟨bs, h1, h2, h3⟩ := mj_pop_s h
    exact ⟨bs ++ [v], by rw [h1]; simp, by simp [h2], by rw [h3]; simp⟩
theorem mj_good {b : Nat} {ws : List Cond} (h0 : 0 < b) (hb : b < mj_nm) (h : ∀ w ∈ ws, w ∈ mj_Wg) : GoodIn mj_Wg (ws ++ mj_wd b) := by
  intro w hw
  rcases List.mem_append.mp hw with hw | hw
  · exact ⟨h w hw, good_of_word (List.mem_filter.mp (h w hw)).2⟩
  · exact mj_wdgood (y := b) h0 hb w hw
set_option maxRecDepth 100000 in
theorem mj_mtc : (List.range mj_nm).all (fun y => !decide (mj_tcn (mj_mt y) = (mj_N y).cls) || (Nat.beq (mj_mt y) 3 || Nat.beq (mj_tk (mj_mt y)).1 1)) = true := by decide +kernel
theorem mj_mts {y : Nat} (hy : y < mj_nm) (h : mj_tcn (mj_mt y) = (mj_N y).cls) : mj_mt y = 3 ∨ (mj_tk (mj_mt y)).1 = 1 := by
  have h1 := List.all_eq_true.mp mj_mtc y (List.mem_range.mpr hy)
  rw [decide_eq_true h] at h1
  simp only [Bool.not_true, Bool.false_or, Bool.or_eq_true] at h1
  exact h1.imp Nat.eq_of_beq_eq_true Nat.eq_of_beq_eq_true
def mj_ckdp (g t : Nat) : Bool := match mj_dsp g t with
  | none => true
  | some y => mj_inT ((mj_dpp g t).getD 0 0) (.selects (mj_cn (mj_tk t).2.1) (mj_N (mj_dx g)) (mj_N y)) && mj_inT ((mj_dpp g t).getD 1 0) (.instanceMethod (mj_N y)) && mj_inT ((mj_dpp g t).getD 2 0) (.initialized (mj_N y).cls) && Nat.blt y mj_nm && Nat.blt 0 y && decide ((mj_tk t).1 = 1)
set_option maxRecDepth 100000 in
theorem mj_ckdpa : (List.range 5).all (fun g => (List.range 35).all (fun t => mj_ckdp g t)) = true := by decide +kernel
theorem mj_okr_lt {X : FX} {n : Nat} {r : Nat × Nat} (h : mj_okr X n r) : r.1 < 35 := by
  rcases h with h | h | h | h | h | ⟨k, h1, h2⟩
  · omega
  · omega
  · rw [h.1]; decide
  · rw [h]; decide
  · omega
  · obtain ⟨h3, h4⟩ := mj_al_lt h2
    have := (mj_tag k h3).2.1
    rw [h4] at this
    omega
theorem mj_dsps {X : FX} {n g t i y : Nat} (hg : g < 5) (hr : mj_okr X n (t, i)) (h : mj_dsp g t = some y) : Cond.selects (mj_cn (mj_tk t).2.1) (mj_N (mj_dx g)) (mj_N y) ∈ mj_Wg ∧ Cond.instanceMethod (mj_N y) ∈ mj_Wg ∧ Cond.initialized (mj_N y).cls ∈ mj_Wg ∧ y < mj_nm ∧ 0 < y ∧ (mj_tk t).1 = 1 := by
  have h1 := List.all_eq_true.mp (List.all_eq_true.mp mj_ckdpa g (List.mem_range.mpr hg)) t (List.mem_range.mpr (mj_okr_lt hr))
  unfold mj_ckdp at h1
  rw [h] at h1
  simp only [Bool.and_eq_true, decide_eq_true_eq] at h1
  obtain ⟨⟨⟨⟨⟨a1, a2⟩, a3⟩, a4⟩, a5⟩, a6⟩ := h1
  exact ⟨mj_inT_mem a1, mj_inT_mem a2, mj_inT_mem a3, Nat.blt_eq.mp a4, Nat.blt_eq.mp a5, a6⟩
set_option maxRecDepth 100000 in
theorem mj_nolaw : Cond.static (mj_N 0) ∉ lw_tbl := by decide +kernel
set_option maxRecDepth 100000 in
theorem mj_nolaw2 : Cond.instanceMethod (mj_N 0) ∉ lw_tbl := by decide +kernel
theorem mj_pos1 {b : Nat} (h : Cond.static (mj_N b) ∈ mj_Wg) : 0 < b := by
  rcases Nat.eq_zero_or_pos b with e0 | e0
  · subst e0
    exact absurd (List.mem_filter.mp h).1 mj_nolaw
  · exact e0
theorem mj_pos2 {b : Nat} (h : Cond.instanceMethod (mj_N b) ∈ mj_Wg) : 0 < b := by
  rcases Nat.eq_zero_or_pos b with e0 | e0
  · subst e0
    exact absurd (List.mem_filter.mp h).1 mj_nolaw2
  · exact e0
theorem mj_fm {a : Cond} {l : List Cond} (h1 : a ∈ mj_Wg) (h2 : ∀ w ∈ l, w ∈ mj_Wg) : ∀ w ∈ a :: l, w ∈ mj_Wg := List.forall_mem_cons.mpr ⟨h1, h2⟩
theorem mj_f0 : ∀ w ∈ ([] : List Cond), w ∈ mj_Wg := fun _ h => absurd h List.not_mem_nil
section MC
variable {l : Launch} {X : FX} {d mc ms y : Nat} {p : Program} {e : Env} {R : Room} {st : State} {m : MethodId} {args : Array Value} {below : List Frame} {meth : Method} {c : Code} {H : Heap} {locs : List Loc} {cells slots : Nat} {Q : State → Prop} {ad : Nat → Nat} {lsR : Array Slot}
/-- behind a call -/
theorem mj_callk {mc' ms' pc : Nat} {h h1 : MH} {r' : Option MV} {a : Array Value} {stR restR : List Value} (hr : va_Run p l e R st m args below meth c H locs cells slots mc' ms' (F0 m pc lsR stR) restR (mj_Qc X ad h r' h1 a) (fx_P X)) (hS : va_S (fx_P X) st.heap H locs)
    (kk : ∀ (ad' : Nat → Nat) (H1 : Heap) (locs1 : List Loc), (∀ k, k < h.2.2.2 → ad' k = ad k) → h.2.2.2 ≤ h1.2.2.2 → mj_Hp X ad' h1 H1 → (∀ v, r' = some v → mj_okv X h1.2.2.2 v) → va_S (fx_P X) st.heap H1 locs1 → W p l e R st m args below meth c H1 locs1 (cells + mc') (slots + ms') Q (F0 m (pc + 3) lsR ((r'.map (mj_tr X ad')).toList ++ restR))) : W p l e R st m args below meth c H locs cells slots Q (F0 m pc lsR stR) := by
  intro T hT Xs
  obtain ⟨v, st₀, t, T', L, h0, X', hL, e1, e2, ⟨⟨ad', he, hle, hv, hHp, hok⟩, hz, hk⟩, go⟩ := hr T hT Xs
  cases hv
  rw [h0] at hz hk
  obtain ⟨t2, a1, b1⟩ := kk ad' T'.heap (locs ++ L) he hle (e1 ▸ hHp) hok
    ⟨Nat.le_trans hS.1 (by rw [e1]; exact hz), fun q g1 g2 => by rw [e1, hk q (Nat.lt_of_lt_of_le g1 hS.1) g2]; exact hS.2.1 q g1 g2, fun q hq => by
      rcases List.mem_append.mp hq with g | g
      · exact hS.2.2 q g
      · exact hL q g⟩ T' rfl X'
  exact ⟨t2, go t2 a1, b1⟩
set_option maxHeartbeats 4000000 in
set_option maxRecDepth 100000 in
/-- every call of the mini machine is one of the real machine -/
theorem mj_callr {q : MI} {s : MS} {y' n' d' mc' ms' : Nat} {as rs : List MV} {ls : ML} {h h1 : MH} {r' : Option MV} (C : mj_C X d y p R st m args meth c) (hcc : cells + mc' ≤ R.cells) (hss : slots + ms' ≤ R.slots) (hi : mj_ins y s.1 = some q) (hs : mj_cll q s = some (y', as, n', ls, rs, h)) (hdd : d' + 1 ≤ d) (hSB : SB l X d' mc' ms' y' as h r' h1) (I : mj_I X ad y s st H locs lsR) :
    n' = s.1 + 3 ∧ ls = s.2.1 ∧ h = s.2.2.2 ∧ (∀ v ∈ rs, v ∈ s.2.2.1) ∧ ∃ a, va_Run p l e R st m args below meth c H locs cells slots mc' ms' (F0 m s.1 lsR (s.2.2.1.map (mj_tr X ad))) (rs.map (mj_tr X ad)) (mj_Qc X ad h r' h1 a) (fx_P X) := by
  obtain ⟨pc, ls0, stk, h0⟩ := s
  have hck := mj_wrd hi
  obtain ⟨hd, hn⟩ := mj_dec hi
  obtain ⟨i, n, w, a, b, cq⟩ := q
  obtain ⟨hx, hb, hml, hown, hts, hmn, hfr, hlo8, hKn, hOut⟩ := id C
  obtain ⟨hH, hS, hL, hl, hok, hlo⟩ := I
  change mj_Hp X ad h0 H at hH
  change lv_has lsR (mj_L y) (mj_lv X ad ls0) at hl
  change ∀ v ∈ stk, mj_okv X h0.2.2.2 v at hok
  change decode (mj_B y) pc = _ at hd
  change n = pc + _ at hn
  have fix : CallFix p m c (mj_B y) (mj_L y) st args mj_Wg (mj_N y).cls := ⟨hx, hb, hml, hown, hts⟩
  have hpre : ∀ (av : List Value) (U : State), U.heap = H → st.WarmedH U.vm → va_Pc av (fun U => mj_Hp X ad h0 U.heap ∧ mj_Kn X U ∧ mj_Out X U) av.toArray U := fun av U hU hW => ⟨rfl, by rw [hU]; exact hH, mj_KnW hW hKn, mj_OutM (locs := locs) hW.alike (by rw [hU]; exact hS) hOut⟩
  unfold mj_cll at hs
  unfold mj_ck at hck
  cases i with
  | invokestatic x =>
    obtain rfl : n = pc + 3 := hn
    have hd : decode (mj_B y) pc = .ok (.invokestatic x, 3) := hd
    dsimp only at hs hck
    split at hs
    · split at hs
      · rename_i as2 r2 hpop
        cases hz : Nat.ble (r2.map mj_cat).sum 8 with
        | false => rw [hz] at hs; cases hs
        | true =>
          rw [hz] at hs
          cases hs
          simp only [Bool.and_eq_true] at hck
          obtain ⟨⟨⟨k1, k2⟩, k3⟩, k4⟩ := hck
          obtain ⟨kb, kn⟩ := mj_ckn_s k4
          have kb0 := mj_pos1 (mj_inT_mem k2)
          obtain ⟨s1, s2, s3, s4⟩ := mj_csm kb
          obtain ⟨bs, g1, g2, g3⟩ := mj_pop_s hpop
          rw [List.append_nil] at g1
          subst g1
          subst g3
          have hsum := mj_sumR (X := X) (ad := ad) hz
          refine ⟨rfl, rfl, rfl, fun v hv => List.mem_append_right _ hv, (as.map (mj_tr X ad)).toArray, ?_⟩
          have hgd : GoodIn mj_Wg (va_wsS (mj_N y).cls x (mj_N y') (mj_wd y')) := mj_good kb0 kb (mj_fm (mj_inT_mem k1) (mj_fm (mj_inT_mem k2) (mj_fm (mj_inT_mem k3) mj_f0)))
          exact va_runS (As := as.map (mj_tr X ad)) fix (hSB ad (fun v hv => hok v (List.mem_append_left _ (List.mem_reverse.mpr hv)))) (va_cwS (rm := mj_rm d' mc' ms') (bytes := mj_B y') (maxL := mj_L y') (ret := mj_R y') (ws' := mj_Wg) cq hts hgd rfl rfl rfl ⟨s3, s4, kn⟩ ⟨by show d' + 2 + 1 ≤ _; omega, by show 8 + (mj_L y' + 11) + (64 * d' + 128) ≤ _; omega⟩) ⟨mj_blind, hpre _⟩ rfl (by rw [List.length_map]; exact g2) hl.1 (by show List.map _ _ = _; rw [List.map_append, List.map_reverse]) (by show 2 * 0 + _ ≤ 8; omega) hd ⟨hcc, hss⟩
      · cases hs
    · cases hs
  | invokevirtual x =>
    obtain rfl : n = pc + 3 := hn
    have hd : decode (mj_B y) pc = .ok (.invokevirtual x, 3) := hd
    dsimp only at hs hck
    split at hs
    · rename_i as2 t i r2 hpop
      cases hz : Nat.ble (r2.map mj_cat).sum 8 with
      | false => rw [hz] at hs; cases hs
      | true =>
        rw [hz] at hs
        dsimp only [cond_true] at hs
        split at hs
        · cases hmt : Nat.beq (mj_mt b) t with
          | false => rw [hmt] at hs; cases hs
          | true =>
            rw [hmt] at hs
            cases hs
            simp only [Bool.and_eq_true, decide_eq_true_eq] at hck
            obtain ⟨⟨⟨⟨⟨k1, k2⟩, k3⟩, k4⟩, k5⟩, k6⟩ := hck
            obtain ⟨kb, kn⟩ := mj_ckn_s k5
            have kb0 := mj_pos2 (mj_inT_mem k2)
            obtain ⟨s1, s2, s3, s4⟩ := mj_csm kb
            have hmt := Nat.eq_of_beq_eq_true hmt
            obtain ⟨bs, g1, g2, g3⟩ := mj_pop_s hpop
            rw [List.append_nil] at g1
            subst g1
            subst g3
            have hsum := mj_sumR (X := X) (ad := ad) hz
            have hrecv : mj_okr X h.2.2.2 (t, i) := hok (vR t i) (List.mem_append_right _ List.mem_cons_self)
            have hoka : ∀ v ∈ vR t i :: as2, mj_okv X h.2.2.2 v := mj_okc hrecv (fun v hv => hok v (List.mem_append_left _ (List.mem_reverse.mpr hv)))
            have hgd : GoodIn mj_Wg (wsV (mj_N y).cls x (mj_N y').cls (mj_N y') (mj_wd y')) := mj_good kb0 kb (mj_fm (mj_inT_mem k1) (mj_fm (mj_inT_mem k2) (mj_fm (mj_inT_mem k3) (mj_fm (mj_inT_mem k4) mj_f0))))
            have hcell : ∃ A : Nat, mj_tr X ad (vR t i) = .ref A ∧ ∃ cellB : Cell, H[A]? = some cellB ∧ cellB.vm.isStatics = false ∧ st.vm.findClass (mj_N y').cls = some cellB.cls := by
              rcases mj_mts kb k6 with e3 | e1
              · have ht : t = 3 := by omega
                subst ht
                refine ⟨fx_S X i, rfl, ?_⟩
                rw [← k6, e3]
                exact vk_recv hOut.1 (mj_ok3 (Or.inl rfl) hrecv) hS
              · rw [hmt] at e1
                obtain ⟨k, q1, q2, q3, q4⟩ := mj_trO (X := X) (ad := ad) hrecv (by omega)
                refine ⟨ad k, q4, ?_⟩
                have hne : t ≠ 3 := fun e => by rw [e] at e1; exact absurd e1 (by decide)
                have hcn : mj_cn (mj_tk t).2.1 = (mj_N y').cls := by
                  rw [← k6, hmt]
                  unfold mj_tcn
                  rw [mj_beq hne]
                  rfl
                rw [← hcn]
                exact va_recv hKn.1 hH.1 (mj_clg (mj_tk_obj e1).1) (by rw [mj_wsg q1, q3, mj_cel1 e1])
            obtain ⟨A, htr, hcell⟩ := hcell
            have hsb := hSB ad hoka
            rw [List.map_cons, htr] at hsb
            refine ⟨rfl, rfl, rfl, fun v hv => List.mem_append_right _ (List.mem_cons_of_mem _ hv), (Value.ref A :: as2.map (mj_tr X ad)).toArray, ?_⟩
            exact va_runV (As := as2.map (mj_tr X ad)) fix hsb (cwV (rm := mj_rm d' mc' ms') (bytes := mj_B y') (maxL := mj_L y') (ret := mj_R y') (ws' := mj_Wg) cq hts hgd rfl rfl rfl ⟨rfl, s3, s4, kn⟩ ⟨by show d' + 2 + 1 ≤ _; omega, by show 8 + (mj_L y' + 11) + (64 * d' + 128) ≤ _; omega⟩) ⟨mj_blind, hcell, hpre _⟩ rfl (by rw [List.length_map]; exact g2) hl.1 (by show List.map _ _ = _; rw [List.map_append, List.map_reverse, List.map_cons, htr]) (by show 2 * 0 + _ ≤ 8; omega) hd ⟨hcc, hss⟩
        · split at hs
          · rename_i y2 hdsp
            cases hs
            simp only [Bool.and_eq_true, decide_eq_true_eq] at hck
            obtain ⟨⟨⟨⟨k1, k2⟩, k3⟩, k4⟩, k5⟩ := hck
            obtain ⟨xb, xn⟩ := mj_ckn_s k4
            have xb0 := mj_pos2 (mj_inT_mem k3)
            obtain ⟨x1, x2, x3, x4⟩ := mj_csm xb
            obtain ⟨bs, g1, g2, g3⟩ := mj_pop_s hpop
            rw [List.append_nil] at g1
            subst g1
            subst g3
            have hsum := mj_sumR (X := X) (ad := ad) hz
            have hrecv : mj_okr X h.2.2.2 (t, i) := hok (vR t i) (List.mem_append_right _ List.mem_cons_self)
            have hoka : ∀ v ∈ vR t i :: as2, mj_okv X h.2.2.2 v := mj_okc hrecv (fun v hv => hok v (List.mem_append_left _ (List.mem_reverse.mpr hv)))
            obtain ⟨w1, w2, w3, kb, kb0, e1⟩ := mj_dsps (Nat.blt_eq.mp k5) hrecv hdsp
            obtain ⟨s1, s2, s3, s4⟩ := mj_csm kb
            have hgd : GoodIn mj_Wg (va_wsO (mj_N y).cls x (mj_cn (mj_tk t).2.1) (mj_N (mj_dx b)).cls (mj_N (mj_dx b)) (mj_N y') (mj_wd y')) := mj_good kb0 kb (mj_fm (mj_inT_mem k1) (mj_fm (mj_inT_mem k2) (mj_fm (mj_inT_mem k3) (mj_fm w1 (mj_fm w2 (mj_fm w3 mj_f0))))))
            obtain ⟨k, q1, q2, q3, htr⟩ := mj_trO (X := X) (ad := ad) hrecv (by omega)
            have hcell := va_recv hKn.1 hH.1 (mj_clg (mj_tk_obj e1).1) (a := ad k) (q0 := k) (by rw [mj_wsg q1, q3, mj_cel1 e1])
            have hsb := hSB ad hoka
            rw [List.map_cons, htr] at hsb
            refine ⟨rfl, rfl, rfl, fun v hv => List.mem_append_right _ (List.mem_cons_of_mem _ hv), (Value.ref (ad k) :: as2.map (mj_tr X ad)).toArray, ?_⟩
            exact va_runU (As := as2.map (mj_tr X ad)) fix hsb (va_cwO (rm := mj_rm d' mc' ms') (bytes := mj_B y') (maxL := mj_L y') (ret := mj_R y') (ws' := mj_Wg) cq hts hgd rfl rfl rfl (mj_cwin xb0 xb) ⟨x3, x4, xn⟩ ⟨by show d' + 2 + 1 ≤ _; omega, by show 8 + (mj_L y' + 11) + (64 * d' + 128) ≤ _; omega⟩) ⟨mj_blind, hcell, hpre _⟩ rfl (by rw [List.length_map]; exact g2) hl.1 (by show List.map _ _ = _; rw [List.map_append, List.map_reverse, List.map_cons, htr]) (by show 2 * 0 + _ ≤ 8; omega) hd ⟨hcc, hss⟩
          · cases hs
        · cases hs
    · cases hs
  | invokespecial x =>
    obtain rfl : n = pc + 3 := hn
    have hd : decode (mj_B y) pc = .ok (.invokespecial x, 3) := hd
    dsimp only at hs hck
    split at hs
    · rename_i as2 t i r2 hpop
      cases hz0 : Nat.blt 0 (mj_tk t).1 with
      | false => rw [hz0] at hs; cases hs
      | true =>
        cases hz : Nat.ble (r2.map mj_cat).sum 8 with
        | false => rw [hz0, hz] at hs; cases hs
        | true =>
          rw [hz0, hz] at hs
          simp only [Bool.and_self, cond_true] at hs
          split at hs
          · cases hs
            simp only [Bool.and_eq_true, decide_eq_true_eq] at hck
            obtain ⟨⟨⟨⟨⟨k1, k2⟩, k3⟩, k4⟩, k5⟩, k6⟩ := hck
            obtain ⟨kb, kn⟩ := mj_ckn_s k6
            have kb0 := mj_pos2 (mj_inT_mem k2)
            obtain ⟨s1, s2, s3, s4⟩ := mj_csm kb
            obtain ⟨bs, g1, g2, g3⟩ := mj_pop_s hpop
            rw [List.append_nil] at g1
            subst g1
            subst g3
            have hsum := mj_sumR (X := X) (ad := ad) hz
            have hrecv : mj_okr X h.2.2.2 (t, i) := hok (vR t i) (List.mem_append_right _ List.mem_cons_self)
            have hoka : ∀ v ∈ vR t i :: as2, mj_okv X h.2.2.2 v := mj_okc hrecv (fun v hv => hok v (List.mem_append_left _ (List.mem_reverse.mpr hv)))
            obtain ⟨k, q1, q2, q3, htr⟩ := mj_trO (X := X) (ad := ad) hrecv (Nat.blt_eq.mp hz0)
            have hsb := hSB ad hoka
            rw [List.map_cons, htr] at hsb
            have hwd : mj_wd y' = Cond.code (mj_N y') (mj_B y') (mj_L y') none :: mj_Wg := by unfold mj_wd; rw [k5]
            refine ⟨rfl, rfl, rfl, fun v hv => List.mem_append_right _ (List.mem_cons_of_mem _ hv), (Value.ref (ad k) :: as2.map (mj_tr X ad)).toArray, ?_⟩
            exact va_runI (As := as2.map (mj_tr X ad)) fix hsb (cwI (rm := mj_rm d' mc' ms') (bytes := mj_B y') (maxL := mj_L y') (ws' := mj_Wg) cq hts (mj_wdgood (y := y) kb0 kb) hwd rfl rfl (hts _ (mj_inT_mem k3)) (hts _ (mj_inT_mem k1)) (hts _ (mj_inT_mem k2)) k4 ⟨s3, s4, kn⟩ ⟨by show d' + 2 + 1 ≤ _; omega, by show 8 + (mj_L y' + 11) + (64 * d' + 128) ≤ _; omega⟩) ⟨mj_blind, hpre _⟩ rfl (by rw [List.length_map]; exact g2) hl.1 (by show List.map _ _ = _; rw [List.map_append, List.map_reverse, List.map_cons, htr]) (by show 2 * 0 + _ ≤ 8; omega) hd ⟨hcc, hss⟩
          · cases hs
            simp only [Bool.and_eq_true, decide_eq_true_eq] at hck
            obtain ⟨⟨⟨⟨⟨k1, k2⟩, k3⟩, k4⟩, k5⟩, k6⟩ := hck
            obtain ⟨kb, kn⟩ := mj_ckn_s k6
            have kb0 := mj_pos2 (mj_inT_mem k2)
            obtain ⟨s1, s2, s3, s4⟩ := mj_csm kb
            obtain ⟨bs, g1, g2, g3⟩ := mj_pop_s hpop
            rw [List.append_nil] at g1
            subst g1
            subst g3
            have hsum := mj_sumR (X := X) (ad := ad) hz
            have hrecv : mj_okr X h.2.2.2 (t, i) := hok (vR t i) (List.mem_append_right _ List.mem_cons_self)
            have hoka : ∀ v ∈ vR t i :: as2, mj_okv X h.2.2.2 v := mj_okc hrecv (fun v hv => hok v (List.mem_append_left _ (List.mem_reverse.mpr hv)))
            obtain ⟨k, q1, q2, q3, htr⟩ := mj_trO (X := X) (ad := ad) hrecv (Nat.blt_eq.mp hz0)
            have hsb := hSB ad hoka
            rw [List.map_cons, htr] at hsb
            have hwd : mj_wd y' = Cond.code (mj_N y') (mj_B y') (mj_L y') none :: mj_Wg := by unfold mj_wd; rw [k5]
            refine ⟨rfl, rfl, rfl, fun v hv => List.mem_append_right _ (List.mem_cons_of_mem _ hv), (Value.ref (ad k) :: as2.map (mj_tr X ad)).toArray, ?_⟩
            exact va_runIN (As := as2.map (mj_tr X ad)) (host := "HeadHats") fix hsb ⟨va_cnB (rm := mj_rm d' mc' ms') (bytes := mj_B y') (maxL := mj_L y') (ret := none) (ws' := mj_Wg) cq hts (mj_wdgood (y := y) kb0 kb) hwd rfl rfl (hKn.2.1 _ (List.mem_of_getElem? k1)) (hts _ (mj_inT_mem k3)) ⟨s3, s4, kn⟩ ⟨by show d' + 2 + 1 ≤ _; omega, by show 8 + (mj_L y' + 11) + (64 * d' + 128) ≤ _; omega⟩, k4, hts _ (mj_inT_mem k2)⟩ ⟨mj_blind, hpre _⟩ rfl (by rw [List.length_map]; exact g2) hl.1 (by show List.map _ _ = _; rw [List.map_append, List.map_reverse, List.map_cons, htr]) (by show 2 * 0 + _ ≤ 8; omega) hd ⟨hcc, hss⟩
          · cases hzt : (Nat.ble 11 t && Nat.ble t 16) with
            | false => rw [hzt] at hs; cases hs
            | true =>
              rw [hzt] at hs
              cases hs
              simp only [Bool.and_eq_true, decide_eq_true_eq] at hck
              obtain ⟨⟨⟨⟨⟨⟨k1, k2⟩, k3⟩, k4⟩, k5⟩, k6⟩, k7⟩ := hck
              obtain ⟨kb, kn⟩ := mj_ckn_s k7
              have kb0 := mj_pos2 (mj_inT_mem k4)
              obtain ⟨s1, s2, s3, s4⟩ := mj_csm kb
              obtain ⟨bs, g1, g2, g3⟩ := mj_pop_s hpop
              rw [List.append_nil] at g1
              subst g1
              subst g3
              have hsum := mj_sumR (X := X) (ad := ad) hz
              have hrecv : mj_okr X h.2.2.2 (t, i) := hok (vR t i) (List.mem_append_right _ List.mem_cons_self)
              have hoka : ∀ v ∈ vR t i :: as2, mj_okv X h.2.2.2 v := mj_okc hrecv (fun v hv => hok v (List.mem_append_left _ (List.mem_reverse.mpr hv)))
              simp only [Bool.and_eq_true] at hzt
              have e1 := (mj_fok11 t (by have := Nat.le_of_ble_eq_true hzt.2; omega) (Nat.le_of_ble_eq_true hzt.1)).1
              have hgd : GoodIn mj_Wg (va_wsSU (mj_N y).cls x (mj_N y') (mj_wd y')) := mj_good kb0 kb (mj_fm (mj_inT_mem k1) (mj_fm (mj_inT_mem k2) (mj_fm (mj_inT_mem k3) (mj_fm (mj_inT_mem k4) (mj_fm (mj_inT_mem k5) mj_f0)))))
              obtain ⟨k, q1, q2, q3, htr⟩ := mj_trO (X := X) (ad := ad) hrecv (by omega)
              have hcell := va_recv hKn.1 hH.1 (mj_clg (mj_tk_obj e1).1) (a := ad k) (q0 := k) (by rw [mj_wsg q1, q3, mj_cel1 e1])
              have hsb := hSB ad hoka
              rw [List.map_cons, htr] at hsb
              refine ⟨rfl, rfl, rfl, fun v hv => List.mem_append_right _ (List.mem_cons_of_mem _ hv), (Value.ref (ad k) :: as2.map (mj_tr X ad)).toArray, ?_⟩
              exact va_runSU (As := as2.map (mj_tr X ad)) (hKn.1.1 _ _ (mj_clg (mj_tk_obj e1).1)).2 fix hsb (va_cwSU (rm := mj_rm d' mc' ms') (bytes := mj_B y') (maxL := mj_L y') (ret := mj_R y') (ws' := mj_Wg) cq hts hgd rfl rfl rfl ⟨k6, kn⟩ ⟨by show d' + 2 + 1 ≤ _; omega, by show 8 + (mj_L y' + 11) + (64 * d' + 128) ≤ _; omega⟩) ⟨mj_blind, hcell, hpre _⟩ rfl (by rw [List.length_map]; exact g2) hl.1 (by show List.map _ _ = _; rw [List.map_append, List.map_reverse, List.map_cons, htr]) (by show 2 * 0 + _ ≤ 8; omega) hd ⟨hcc, hss⟩
          · cases hs
    · cases hs
  | _ => exact nomatch (show (none : Option (Nat × List MV × Nat × ML × List MV × MH)) = some _ from hs)
end MC
