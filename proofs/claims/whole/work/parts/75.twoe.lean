/-! THE CALLS, both sides: copy, lays, book, read, image, undo -/
section T1
variable {l : Launch} {X : FX} {ii : Nat → Nat → Nat → Int32} {jj : Nat → Nat → Nat → Int64} {kd : Nat → Nat}
theorem rg_iff {a n : Int32} {z : Nat} (hz : z ≤ 40) : (¬ n < 0 ∧ ¬ a < 0 ∧ n ≤ nI z - a) ↔ ∃ x y : Nat, a = nI x ∧ n = nI y ∧ x + y ≤ z := by
  constructor
  · rintro ⟨h1, h2, h3⟩
    obtain ⟨y, hy, rfl⟩ := nI_of h1
    obtain ⟨x, hx, rfl⟩ := nI_of h2
    refine ⟨x, y, rfl, rfl, ?_⟩
    rw [Int32.le_iff_toInt_le, nI_toInt hy, Int32.toInt_sub, nI_toInt hx, nI_toInt (by omega), Int.bmod_eq_of_le (by omega) (by omega)] at h3
    omega
  · rintro ⟨x, y, rfl, rfl, h⟩
    refine ⟨nI_pos (by omega), nI_pos (by omega), ?_⟩
    rw [pk_sub (by omega)]
    exact nI_le (by omega) (by omega)
theorem rg_iff2 {a n : Int32} {z : Nat} (hz : z ≤ 40) : (¬ a < 0 ∧ ¬ n < 0 ∧ ¬ nI z - n < a) ↔ ∃ x y : Nat, a = nI x ∧ n = nI y ∧ x + y ≤ z := by
  have h := rg_iff (a := n) (n := a) hz
  constructor
  · rintro ⟨h1, h2, h3⟩
    obtain ⟨x, y, e1, e2, q⟩ := h.mp ⟨h1, h2, Int32.not_lt.mp h3⟩
    exact ⟨y, x, e2, e1, by omega⟩
  · rintro ⟨x, y, e1, e2, q⟩
    obtain ⟨h1, h2, h3⟩ := h.mpr ⟨y, x, e2, e1, by omega⟩
    exact ⟨h1, h2, Int32.not_lt.mpr h3⟩
theorem nc_cc (R : Rep ii jj kd) {s t : Nat} (hs : s < 4) (ht : t < 4) {a b n : Int32} {i1 : Nat → Nat → Nat → Int32} (e31 : i1 31 = ii 31) (e32 : i1 32 = ii 32) : ncO i1 s a t b n = ccO ii s a t b n := by
  obtain ⟨s1, s2, ⟨z, hz, z1, z2⟩, s4⟩ := R.2.2.2.2.1 s hs
  obtain ⟨t1, t2, ⟨y, hy, y1, y2⟩, t4⟩ := R.2.2.2.2.1 t ht
  unfold ncO ccO
  rw [e31, e32, s1, t1, z1, y1, z2, y2]
  have q : (¬ n < 0 ∧ ¬ a < 0 ∧ ¬ b < 0 ∧ n ≤ nI z - a ∧ n ≤ nI y - b) ↔ ((¬ a < 0 ∧ ¬ n < 0 ∧ ¬ nI z - n < a) ∧ (¬ b < 0 ∧ ¬ n < 0 ∧ ¬ nI y - n < b)) := by
    rw [rg_iff2 hz, rg_iff2 hy, ← rg_iff hz, ← rg_iff hy]
    exact ⟨fun h => ⟨⟨h.1, h.2.1, h.2.2.2.1⟩, ⟨h.1, h.2.2.1, h.2.2.2.2⟩⟩, fun h => ⟨h.1.1, h.1.2.1, h.2.2.1, h.1.2.2, h.2.2.2⟩⟩
  by_cases c : (¬ n < 0 ∧ ¬ a < 0 ∧ ¬ b < 0 ∧ n ≤ nI z - a ∧ n ≤ nI y - b)
  · rw [if_pos c, if_pos (q.mp c)]
  · rw [if_neg c, if_neg (fun h => c (q.mpr h))]
theorem cc_lt {s t : Nat} {a b n : Int32} {k : Nat} (h : ccO ii s a t b n = some k) : k < 7 := by
  unfold ccO at h
  split at h
  · cases h
    decide
  · split at h
    · cases h
      decide
    · split at h
      · cases h
      · cases h
        decide
theorem tw_copy (R : Rep ii jj kd) (s a t b n : Int32) : Two l X 107 210 [vI s, vI a, vI t, vI b, vI n] ii jj kd := by
  by_cases h : uT s 3 = true ∧ uT t 3 = true
  · obtain ⟨s, hs, rfl⟩ := uT_of (b := 3) (by decide) h.1
    obtain ⟨t, ht, rfl⟩ := uT_of (b := 3) (by decide) h.2
    cases e : ccO ii s a t b n with
    | some k => exact two_fail R (c_copy1 s a t b n (by omega) (by omega) k e) (m_copy1 s a t b n (by omega) (by omega) k (cc_lt e) (by rw [nc_cc R (by omega) (by omega) (fnd_tag (by decide)) (fnd_tag (by decide))]; exact e)) (by decide) (by decide)
    | none =>
      obtain ⟨s1, s2, ⟨z, hz, z1, z2⟩, s4⟩ := R.2.2.2.2.1 s (by omega)
      obtain ⟨t1, t2, ⟨y, hy, y1, y2⟩, t4⟩ := R.2.2.2.2.1 t (by omega)
      have q : (¬ a < 0 ∧ ¬ n < 0 ∧ ¬ nI z - n < a) ∧ (¬ b < 0 ∧ ¬ n < 0 ∧ ¬ nI y - n < b) := by
        unfold ccO at e
        rw [z2, y2] at e
        split at e
        · cases e
        · split at e
          · cases e
          · split at e
            · next g => exact g
            · cases e
      obtain ⟨x, m, rfl, rfl, l1⟩ := (rg_iff2 hz).mp q.1
      obtain ⟨w, m2, rfl, em, l2⟩ := (rg_iff2 hy).mp q.2
      have mm : m = m2 := (nI_eq (by omega) (by omega)).mp em
      rw [← mm] at l2
      refine two_of (c_copy s t x w m (by omega) (by omega) (by omega) (by omega) e) (m_copy s t x w m (by omega) (by omega) (by omega) (by omega) (by rw [nc_cc R (by omega) (by omega) rfl rfl]; exact e)) (by decide) (by decide) (Rep_E R (fun _ _ _ _ => rfl) (fun u hu => ?_)) rfl rfl
      obtain ⟨f1, f2, f3, f4⟩ := R.2.2.2.2.1 u hu
      refine ⟨f1, f2, f3, fun c hc => ?_⟩
      have e33 : ∀ p, upA jj 24 t (va_cpy (jj 24 s) (jj 24 t) x w m) 33 0 p = jj 33 0 p := fun p => by
        unfold upA
        rw [if_neg (fun q => absurd q.1 (by decide))]
      have e24 : upA jj 24 t (va_cpy (jj 24 s) (jj 24 t) x w m) 24 u c = if u = t then va_cpy (jj 24 s) (jj 24 t) x w m c else jj 24 u c := by
        unfold upA
        by_cases e2 : u = t
        · rw [if_pos ⟨rfl, e2⟩, if_pos e2]
        · rw [if_neg (fun q => e2 q.2), if_neg e2]
      generalize upA jj 24 t (va_cpy (jj 24 s) (jj 24 t) x w m) = j1 at *
      have eL : cpX j1 (40 * s + x) (40 * t + w) 0 m 24 u c = j1 24 u c := by
        unfold cpX
        rw [if_neg (fun q => absurd q.1 (by decide))]
      rw [eL, e24]
      by_cases eu : u = t ∧ w ≤ c ∧ c < w + m
      · obtain ⟨e2, q1, q2⟩ := eu
        rw [if_pos e2, pk_cpy_in q1 q2]
        unfold cpX
        rw [if_pos ⟨rfl, rfl, by omega, by omega⟩, e33, show 40 * s + x + (40 * u + c - (40 * t + w)) = 40 * s + (x + (c - w)) by omega]
        exact s4 _ (by omega)
      · have o : ¬ (33 = 33 ∧ 0 = 0 ∧ 40 * t + w + 0 ≤ 40 * u + c ∧ 40 * u + c < 40 * t + w + m) := fun q => eu (by omega)
        unfold cpX
        rw [if_neg o, e33]
        by_cases e2 : u = t
        · rw [if_pos e2, pk_cpy_out (by omega), ← e2]
          exact f4 c hc
        · rw [if_neg e2]
          exact f4 c hc
  · exact two_fail R (c_copy0 s a t b n h) (m_copy0 s a t b n h) (by decide) (by decide)
theorem ly_n {v : Int64} (h : lyB v = true) : ∃ x, x ≤ 99 ∧ v.toInt32 = nI x := by
  obtain ⟨h1, h2⟩ := of_decide_eq_true h
  obtain ⟨k, hk, rfl⟩ := pk_lOf (x := v) h1
  have : k ≤ 99 := Nat.le_of_not_lt (fun q => h2 (by
    rw [show Int32.toInt64 99 = lN 99 from by decide]
    exact (pk_lLT (by decide) hk).mpr q))
  exact ⟨k, this, lN_i k⟩
theorem lyC_ne {f : Nat → Int64} {i c : Nat} : ∀ k, k ≤ i → lyC ii f k 20 i c = ii 20 i c
  | 0, _ => rfl
  | k + 1, h => by
    unfold lyC
    cases lyB (f k)
    · exact lyC_ne k (by omega)
    · exact (up3_num (by omega)).trans (lyC_ne k (by omega))
theorem ly_sim {f g : Nat → Int64} {n d : Nat} (S : ShR (ii 17 0) (ii 20) (ii 21) (ii 22) kd 0 0 (ii 26 0) n d) {i1 : Nat → Nat → Nat → Int32} (e26 : i1 26 = ii 26) {N : Nat} (hN : N ≤ n) (hfg : ∀ k, k < N → f k = g k) : ∀ k, k ≤ N → ShR (ii 17 0) (lyC ii f k 20) (ii 21) (ii 22) kd 0 0 (lyM i1 g k 26 0) n d
  | 0, _ => by
    show ShR (ii 17 0) (ii 20) (ii 21) (ii 22) kd 0 0 (i1 26 0) n d
    rw [e26]
    exact S
  | k + 1, h => by
    have ih := ly_sim S e26 hN hfg k (by omega)
    unfold lyC lyM
    rw [hfg k (by omega)]
    cases e : lyB (g k) with
    | false => exact ih
    | true =>
      obtain ⟨x, hx, ex⟩ := ly_n e
      refine ShR_pl ih (i := k) (by omega) (fun z hz q => up3_num q) (fun c hc q => up3_pl q) ?_
      show bth (up3 (lyM i1 g k) 26 0 (5 + 14 * k) (g k).toInt32 26 0 (5 + 14 * k)) (up3 (lyC ii f k) 20 k 2 (g k).toInt32 20 k 2) 99
      rw [up3_rd, up3_rd, ex]
      exact bth.self hx
theorem lyN_c {f g : Nat → Int64} : ∀ n, (∀ k, k < n → f k = g k) → lyN f n = lyN g n
  | 0, _ => rfl
  | n + 1, h => by rw [lyN, lyN, h n (by omega), lyN_c n (fun k hk => h k (by omega))]
theorem tw_lays (R : Rep ii jj kd) (v : Int32) : Two l X 108 211 [vI v] ii jj kd := by
  obtain ⟨n, d, S⟩ := R.1
  have n8 := S.n8
  cases hv : uT v 3 with
  | false => exact two_fail R (c_lays0 v hv) (m_lays0 v hv) (by decide) (by decide)
  | true =>
    obtain ⟨s, hs, rfl⟩ := uT_of (b := 3) (by decide) hv
    obtain ⟨g1, g2, ⟨z, hz, z1, z2⟩, g4⟩ := R.2.2.2.2.1 s (by omega)
    by_cases hb : ii 23 s 1 = 0
    · exact two_fail R (c_lays1 s (by omega) hb) (m_lays1 s (by omega) (by rw [fnd_tag (by decide), g1]; exact hb)) (by decide) (by decide)
    · have t1 : ∀ a, a ≠ 20 → lyC ii (jj 24 s) (min z n) a = ii a := fun a h => lyC_tag h _
      have hm := m_lays (l := l) (X := X) (ii := lyC ii (jj 24 s) (min z n)) (jj := jj) (kd := kd) s z n (by omega) (by rw [t1 31 (by decide), g1]; exact hb) (by rw [t1 32 (by decide)]; exact z1) hz n8 (by rw [t1 26 (by decide)]; exact S.m2)
      have fg : ∀ k, k < min z n → jj 24 s k = jj 33 0 (40 * s + k) := fun k hk => (g4 k (by omega)).symm
      rw [lyN_c (f := fun k => jj 33 0 (40 * s + k)) (g := jj 24 s) (min z n) (fun k hk => (fg k hk).symm)] at hm
      have nt : ∀ a, a ≠ 26 → lyM (lyC ii (jj 24 s) (min z n)) (fun k => jj 33 0 (40 * s + k)) (min z n) a = lyC ii (jj 24 s) (min z n) a := fun a h => lyM_tag h _
      have K : smK ii kd (lyM (lyC ii (jj 24 s) (min z n)) (fun k => jj 33 0 (40 * s + k)) (min z n)) kd := by
        refine smK.tr (i2 := lyC ii (jj 24 s) (min z n)) (k2 := kd) ?_ (smK_t (fun a p _ => nt a p))
        exact ⟨fun a _ p2 _ _ _ _ => t1 a p2, fun c _ => by rw [t1 17 (by decide)], fun i p _ => ⟨lyC_ne _ (by omega), fun t _ => by rw [t1 21 (by decide)], rfl⟩, fun j _ _ c _ => by rw [t1 22 (by decide)]⟩
      refine two_of (c_lays s z n (by omega) hb z2 hz n8 S.c2) hm (by decide) (by decide) (Rep_S R K ⟨n, d, ?_⟩) K.one (t1 1 (by decide))
      rw [nt 17 (by decide), nt 20 (by decide), nt 21 (by decide), nt 22 (by decide), t1 17 (by decide), t1 21 (by decide), t1 22 (by decide)]
      exact ly_sim S (t1 26 (by decide)) (Nat.min_le_right z n) fg (min z n) (Nat.le_refl _)
theorem aF_n {f : Nat → Int32} (h : rN f) : ∀ n, n ≤ 12 → ∃ x, x ≤ 9 * n ∧ aF f n = nI x
  | 0, _ => ⟨0, Nat.le_refl _, rfl⟩
  | n + 1, hn => by
    obtain ⟨x, hx, ex⟩ := aF_n h n (by omega)
    obtain ⟨y, hy, ey⟩ := h n (by omega)
    refine ⟨x + y, by omega, ?_⟩
    unfold aF
    rw [ex, ey, nI_add]
theorem ct_n : ∀ x, x ≤ 108 → ctO 8 (nI x).toInt64 = (nI x).toInt64 ∧ ctO 16 (nI x).toInt64 = (nI x).toInt64 := by decide +kernel
theorem ct_id {b : Int32} {x : Nat} (hx : x ≤ 108) (hb : b = 0 ∨ b = 8 ∨ b = 16 ∨ b = 64) : ctO b (nI x).toInt64 = (nI x).toInt64 := by
  rcases hb with h | h | h | h
  · rw [h]
    rfl
  · rw [h]
    exact (ct_n x hx).1
  · rw [h]
    exact (ct_n x hx).2
  · rw [h]
    rfl
theorem tw_book (R : Rep ii jj kd) (v w : Int32) : Two l X 109 213 [vI v, vI w] ii jj kd := by
  obtain ⟨n, d, S⟩ := R.1
  have n8 := S.n8
  cases hv : uT v 3 with
  | false => exact two_fail R (c_book0 v w hv) (m_bookF v w 0 (by decide) (m_noAsk0 v w hv)) (by decide) (by decide)
  | true =>
    obtain ⟨s, hs, rfl⟩ := uT_of (b := 3) (by decide) hv
    obtain ⟨g1, g2, ⟨z, hz, z1, z2⟩, g4⟩ := R.2.2.2.2.1 s (by omega)
    by_cases hb : ii 23 s 1 = 0
    · exact two_fail R (c_book1 s w (by omega) hb) (m_bookF _ w 5 (by decide) (m_noAsk1 s w (by omega) (by rw [fnd_tag (by decide), g1]; exact hb))) (by decide) (by decide)
    · by_cases h : ¬ w < 0 ∧ ¬ nI n ≤ w
      · obtain ⟨i, hi, rfl⟩ := in_of (by omega) rfl h
        obtain ⟨w0, hw, w1, w2, I⟩ := sh_mI S
        have J : jnk ii kd (trW 24 (kd i) (tI ii 24 i) z) (kU kd 24 (kd i)) := ((jnk_k (by decide)).tr (jnk_tI (by decide))).tr (jnk_trW (by decide) z)
        have t1 : ∀ a, a ≠ 20 → a ≠ 21 → trW 24 (kd i) (tI ii 24 i) z a = ii a := fun a p1 p2 => by rw [trW_tag p2, tI_tag p1 p2]
        have e26 := t1 26 (by decide) (by decide)
        obtain ⟨i2, hm, S2⟩ := m_book (l := l) (X := X) (ii := trW 24 (kd i) (tI ii 24 i) z) (jj := wA jj 24 s z (bkF (kd i) s (tI ii 24 i))) (kd := kU kd 24 (kd i)) s i z n w0 (K := kd) (by omega) (by rw [t1 31 (by decide) (by decide), g1]; exact hb) (by rw [t1 32 (by decide) (by decide)]; exact z1) hz (mI_eq I (fun y _ => by rw [e26])) hi (by omega)
        rw [e26, mR_e e26] at hm
        have Q := Rep_J (jj := jj) R (J.tr (jnk_sm S2))
        refine two_of (c_book s z i n (by omega) hb z2 hz hi n8 S.c2 (S.kd6 hi)) hm (by decide) (by decide) (Rep_E Q (fun _ _ _ _ => rfl) (fun u hu => ?_)) (J.tr (jnk_sm S2)).one J.one
        obtain ⟨f1, f2, f3, f4⟩ := Q.2.2.2.2.1 u hu
        refine ⟨f1, f2, f3, fun c hc => ?_⟩
        rw [wL_tag (show (24 : Nat) ≠ 33 by decide)]
        by_cases e : u = s ∧ c < z
        · rw [e.1, wL_lt e.2, wA_lt e.2]
          have B := tr_row (i := i) (c := kd i) (N := c) w1
          rw [← S.mo.eq] at B
          have A := (wkRs_c (c := kd i) (w := w0) (mo := ii 26 0 1) (S.row hi) c)
          obtain ⟨x, hx, ex⟩ := aF_n (rN_wkRs (c := kd i) (w := w0) (mo := ii 26 0 1) (S.rn hi) c (by omega)) 12 (by decide)
          unfold frW bkF
          rw [aF_c 12 (B.tr A.sy), ex, tI_tag (by decide) (by decide), ct_id (by omega) g2]
        · rw [wL_out (by omega), wA_ne (fun q => absurd q.1 (by decide))]
          unfold wA
          rw [if_neg (fun q => e ⟨q.2.1, q.2.2⟩)]
          exact f4 c hc
      · exact two_fail R (c_book2 s w (by omega) hb (by rw [S.c2]; exact h)) (m_bookF _ w 0 (by decide) (m_noAsk2 s w (by omega) (by rw [fnd_tag (by decide), g1]; exact hb) n8 (by rw [fnd_tag (by decide)]; exact S.m2) h)) (by decide) (by decide)
theorem rdN_c {P Q : Nat → Bool} : ∀ n, (∀ k, k < n → P k = Q k) → rdN P n = rdN Q n
  | 0, _ => rfl
  | n + 1, h => by rw [rdN, rdN, h n (by omega), rdN_c n (fun k hk => h k (by omega))]
theorem tw_read (R : Rep ii jj kd) (v w : Int32) : Two l X 110 215 [vI v, vI w] ii jj kd := by
  obtain ⟨n, d, S⟩ := R.1
  have n8 := S.n8
  cases hv : uT v 3 with
  | false => exact two_fail R (c_read0 v w hv) (m_readF v w 0 (by decide) (m_noAsk0 v w hv)) (by decide) (by decide)
  | true =>
    obtain ⟨s, hs, rfl⟩ := uT_of (b := 3) (by decide) hv
    obtain ⟨g1, g2, ⟨z, hz, z1, z2⟩, g4⟩ := R.2.2.2.2.1 s (by omega)
    by_cases hb : ii 23 s 1 = 0
    · exact two_fail R (c_read1 s w (by omega) hb) (m_readF _ w 5 (by decide) (m_noAsk1 s w (by omega) (by rw [fnd_tag (by decide), g1]; exact hb))) (by decide) (by decide)
    · by_cases h : ¬ w < 0 ∧ ¬ nI n ≤ w
      · obtain ⟨i, hi, rfl⟩ := in_of (by omega) rfl h
        obtain ⟨w0, hw, w1, w2, I⟩ := sh_mI S
        obtain ⟨i1, q3, hc, C⟩ := c_read (l := l) (X := X) (ii := ii) (jj := jj) (kd := kd) s z i n w0 (by omega) hb z2 hz hi n8 S.c2 (S.kd6 hi) w1 (by omega)
        have J : jnk ii kd i1 (kU kd 24 q3) := (jnk_k (by decide)).tr (jnk_cq C)
        have t1 : ∀ a, a ≠ 20 → a ≠ 21 → i1 a = ii a := fun a p1 p2 => by
          funext b
          exact C a b (fun q => p1 q.1) (fun q => p2 q.1)
        have e26 := t1 26 (by decide) (by decide)
        obtain ⟨i2, hm, S2⟩ := m_read (l := l) (X := X) (ii := i1) (jj := jj) (kd := kU kd 24 q3) s i z n w0 (K := kd) (by omega) (by rw [t1 31 (by decide) (by decide), g1]; exact hb) (by rw [t1 32 (by decide) (by decide)]; exact z1) hz (mI_eq I (fun y _ => by rw [e26])) hi (by omega)
        rw [e26, mR_e e26, rdN_c (Q := rdP (jj 24 s) w0 (ii 17 0 5) (ii 21 i) z) 72 (fun k _ => by
          unfold rdP
          refine bkP_c z 0 (fun j _ hj => ⟨g4 j (by omega), ?_⟩)
          unfold frW
          rw [S.mo.eq, aF_c 12 (wkRs_c (fun x hx => ?_) j)]
          unfold rwS
          rw [(S.row hi) x hx])] at hm
        exact two_of hc hm (by decide) (by decide) (Rep_J R (J.tr (jnk_sm S2))) (J.tr (jnk_sm S2)).one J.one
      · exact two_fail R (c_read2 s w (by omega) hb (by rw [S.c2]; exact h)) (m_readF _ w 0 (by decide) (m_noAsk2 s w (by omega) (by rw [fnd_tag (by decide), g1]; exact hb) n8 (by rw [fnd_tag (by decide)]; exact S.m2) h)) (by decide) (by decide)
end T1
section SB
variable {ii : Nat → Nat → Nat → Int32} {kd A B : Nat → Nat}
theorem hbI_ne {x : Nat} : ∀ n, (∀ k, k < n → x ≠ A k) → hbI A B ii n 20 x = ii 20 x ∧ hbI A B ii n 21 x = ii 21 x
  | 0, _ => ⟨rfl, rfl⟩
  | n + 1, h => by
    obtain ⟨h1, h2⟩ := hbI_ne n (fun k hk => h k (by omega))
    have hx := h n (by omega)
    rw [← h1, ← h2, hbI]
    unfold tI
    constructor
    · funext c
      rw [wA_tg (by decide), up3_num hx]
    · funext c
      rw [wA_ne (fun q => hx q.2), up3_tag (by decide)]
theorem hbI_at {k : Nat} : ∀ n, k < n → (∀ a, a < n → ∀ b, b < n → A a = A b → a = b) → (∀ a, a < n → ∀ b, b < n → B a ≠ A b) → hbI A B ii n 20 (A k) 2 = ii 20 (B k) 2 ∧ ∀ t, t < 12 → hbI A B ii n 21 (A k) t = ii 21 (B k) t
  | 0, h, _, _ => absurd h (Nat.not_lt_zero _)
  | n + 1, h, inj, dis => by
    by_cases e : k = n
    · obtain ⟨h1, h2⟩ := hbI_ne (A := A) (B := B) (ii := ii) (x := B n) n (fun b hb => dis n (by omega) b (by omega))
      rw [e, hbI]
      unfold tI
      refine ⟨?_, fun t ht => ?_⟩
      · rw [wA_tg (by decide), up3_rd, h1]
      · rw [wA_lt ht, h2]
    · obtain ⟨h1, h2⟩ := hbI_at (k := k) n (by omega) (fun a ha b hb => inj a (by omega) b (by omega)) (fun a ha b hb => dis a (by omega) b (by omega))
      have hx : A k ≠ A n := fun q => e (inj k (by omega) n (by omega) q)
      rw [hbI]
      unfold tI
      refine ⟨?_, fun t ht => ?_⟩
      · rw [wA_tg (by decide), up3_num hx, h1]
      · rw [wA_ne (fun q => hx q.2), up3_tag (by decide), h2 t ht]
theorem hbK_at {k : Nat} : ∀ n, k < n → (∀ a, a < n → ∀ b, b < n → A a = A b → a = b) → (∀ a, a < n → ∀ b, b < n → B a ≠ A b) → hbK A B kd n (A k) = kd (B k)
  | 0, h, _, _ => absurd h (Nat.not_lt_zero _)
  | n + 1, h, inj, dis => by
    by_cases e : k = n
    · rw [e, hbK, kU_at, hbK_ne n (fun b hb => dis n (by omega) b (by omega))]
    · rw [hbK, kU_ne (fun q => e (inj k (by omega) n (by omega) q)), hbK_at n (by omega) (fun a ha b hb => inj a (by omega) b (by omega)) (fun a ha b hb => dis a (by omega) b (by omega))]
theorem dbI_ne {x : Nat} : ∀ n, (∀ k, k < n → x ≠ A k) → dbI A B ii n 22 x = ii 22 x
  | 0, _ => rfl
  | n + 1, h => by
    have hx := h n (by omega)
    rw [← dbI_ne n (fun k hk => h k (by omega)), dbI]
    funext c
    rw [up3_num hx, up3_num hx, up3_num hx]
theorem dbI_at {k : Nat} : ∀ n, k < n → (∀ a, a < n → ∀ b, b < n → A a = A b → a = b) → (∀ a, a < n → ∀ b, b < n → B a ≠ A b) → ∀ c, c < 3 → dbI A B ii n 22 (A k) c = ii 22 (B k) c
  | 0, h, _, _, _, _ => absurd h (Nat.not_lt_zero _)
  | n + 1, h, inj, dis, c, hc => by
    by_cases e : k = n
    · have h1 := dbI_ne (A := A) (B := B) (ii := ii) (x := B n) n (fun b hb => dis n (by omega) b (by omega))
      rw [e, dbI]
      match c, hc with
      | 0, _ => rw [up3_pl (by decide), up3_pl (by decide), up3_rd, h1]
      | 1, _ => rw [up3_pl (by decide), up3_rd, h1]
      | 2, _ => rw [up3_rd, h1]
    · have hx : A k ≠ A n := fun q => e (inj k (by omega) n (by omega) q)
      rw [dbI, up3_num hx, up3_num hx, up3_num hx]
      exact dbI_at n (by omega) (fun a ha b hb => inj a (by omega) b (by omega)) (fun a ha b hb => dis a (by omega) b (by omega)) c hc
end SB
/-- the same shop at another place -/
theorem ShR_re {c c' : Nat → Int32} {P F H P' F' H' : Nat → Nat → Int32} {kd kd' : Nat → Nat} {hb db hb' db' : Nat} {m m' : Nat → Int32} {n d : Nat} (S : ShR c P F H kd hb db m n d) (ec : ∀ k, 2 ≤ k → k < 6 → c' k = c k) (eP : ∀ i, i < n → P' (i + hb') 2 = P (i + hb) 2) (eF : ∀ i, i < n → ∀ t, t < 12 → F' (i + hb') t = F (i + hb) t) (eH : ∀ j, j < d → ∀ k, k < 3 → H' (j + db') k = H (j + db) k) (ek : ∀ i, i < n → kd' (i + hb') = kd (i + hb)) (em : ∀ k, k < 134 → m' k = m k) : ShR c' P' F' H' kd' hb' db' m' n d := by
  obtain ⟨h1, h2, h3, h4, h5, h6, h7⟩ := S
  refine ⟨h1, ?_, ?_, ?_, ?_, fun i hi => ?_, fun j hj k hk => ?_⟩
  · rw [em 2 (by decide), ec 2 (by decide) (by decide)]; exact h2
  · rw [em 3 (by decide), ec 3 (by decide) (by decide)]; exact h3
  · rw [em 0 (by decide), ec 4 (by decide) (by decide)]; exact h4
  · rw [em 1 (by decide), ec 5 (by decide) (by decide)]; exact h5
  · obtain ⟨q1, q2, q3⟩ := h6 i hi
    rw [ek i hi, em _ (by omega), em _ (by omega), eP i hi]
    refine ⟨q1, q2, fun t ht => ?_⟩
    rw [em _ (by omega), eF i hi t ht]
    exact q3 t ht
  · rw [em _ (by omega), eH j hj k hk]
    exact h7 j hj k hk
