/-! WHAT A CALL LEAVES AS IT IS -/
def smK (ii : Nat → Nat → Nat → Int32) (kd : Nat → Nat) (i2 : Nat → Nat → Nat → Int32) (k2 : Nat → Nat) : Prop := (∀ a, a ≠ 17 → a ≠ 20 → a ≠ 21 → a ≠ 22 → a ≠ 26 → a ≠ 28 → i2 a = ii a) ∧ (∀ k, k < 6 → i2 17 1 k = ii 17 1 k) ∧ (∀ i, 8 ≤ i → i < 16 → i2 20 i 2 = ii 20 i 2 ∧ (∀ t, t < 12 → i2 21 i t = ii 21 i t) ∧ k2 i = kd i) ∧ ∀ j, 6 ≤ j → j < 12 → ∀ k, k < 3 → i2 22 j k = ii 22 j k
/-- nothing but what was only thought -/
def jnk (ii : Nat → Nat → Nat → Int32) (kd : Nat → Nat) (i2 : Nat → Nat → Nat → Int32) (k2 : Nat → Nat) : Prop := (∀ a, a ≠ 20 → a ≠ 21 → a ≠ 26 → a ≠ 28 → i2 a = ii a) ∧ (∀ i, i < 16 → i2 20 i 2 = ii 20 i 2 ∧ (∀ t, t < 12 → i2 21 i t = ii 21 i t) ∧ k2 i = kd i) ∧ ∀ k, k < 134 → i2 26 0 k = ii 26 0 k
section FR
variable {ii i1 i2 i3 : Nat → Nat → Nat → Int32} {jj : Nat → Nat → Nat → Int64} {kd k1 k2 k3 : Nat → Nat}
theorem smK.tr (h1 : smK ii kd i2 k2) (h2 : smK i2 k2 i3 k3) : smK ii kd i3 k3 :=
  ⟨fun a p1 p2 p3 p4 p5 p6 => (h2.1 a p1 p2 p3 p4 p5 p6).trans (h1.1 a p1 p2 p3 p4 p5 p6), fun k hk => (h2.2.1 k hk).trans (h1.2.1 k hk), fun i p1 p2 => ⟨(h2.2.2.1 i p1 p2).1.trans (h1.2.2.1 i p1 p2).1, fun t ht => ((h2.2.2.1 i p1 p2).2.1 t ht).trans ((h1.2.2.1 i p1 p2).2.1 t ht), (h2.2.2.1 i p1 p2).2.2.trans (h1.2.2.1 i p1 p2).2.2⟩, fun j p1 p2 k hk => (h2.2.2.2 j p1 p2 k hk).trans (h1.2.2.2 j p1 p2 k hk)⟩
theorem smK.rf : smK ii kd ii kd := ⟨fun _ _ _ _ _ _ _ => rfl, fun _ _ => rfl, fun _ _ _ => ⟨rfl, fun _ _ => rfl, rfl⟩, fun _ _ _ _ _ => rfl⟩
theorem smK.one (h : smK ii kd i2 k2) : i2 1 = ii 1 := h.1 1 (by decide) (by decide) (by decide) (by decide) (by decide) (by decide)
theorem smK_t (h : ∀ a, a ≠ 26 → a ≠ 28 → i2 a = ii a) : smK ii kd i2 kd := ⟨fun a _ _ _ _ p5 p6 => h a p5 p6, fun k _ => by rw [h 17 (by decide) (by decide)], fun i _ _ => ⟨by rw [h 20 (by decide) (by decide)], fun t _ => by rw [h 21 (by decide) (by decide)], rfl⟩, fun j _ _ k _ => by rw [h 22 (by decide) (by decide)]⟩
theorem smK_up {T i k : Nat} {v : Int32} (h : (T = 17 ∧ i = 0) ∨ ((T = 20 ∨ T = 21) ∧ (i < 8 ∨ 16 ≤ i)) ∨ (T = 22 ∧ (i < 6 ∨ 12 ≤ i))) : smK ii kd (up3 ii T i k v) kd := by
  refine ⟨fun a p1 p2 p3 p4 p5 p6 => up3_tag (by omega), fun c hc => ?_, fun x p1 p2 => ⟨?_, fun t ht => ?_, rfl⟩, fun j p1 p2 c hc => ?_⟩
  all_goals unfold up3
  all_goals rw [if_neg (fun q => by omega)]
theorem smK_wA {i n : Nat} {F : Nat → Int32} (h : i < 8 ∨ 16 ≤ i) : smK ii kd (wA ii 21 i n F) kd := by
  refine ⟨fun a p1 p2 p3 p4 p5 p6 => wA_tg (by omega), fun c hc => ?_, fun x p1 p2 => ⟨?_, fun t ht => ?_, rfl⟩, fun j p1 p2 c hc => ?_⟩
  all_goals exact wA_ne (fun q => by omega)
theorem smK_k {i x : Nat} (h : i < 8 ∨ 16 ≤ i) : smK ii kd ii (kU kd i x) := ⟨fun _ _ _ _ _ _ _ => rfl, fun _ _ => rfl, fun y p1 p2 => ⟨rfl, fun _ _ => rfl, kU_ne (by omega)⟩, fun _ _ _ _ _ => rfl⟩
theorem smK_21 (h : ∀ a, a ≠ 21 → i2 a = ii a) (h2 : ∀ i, 8 ≤ i → i < 16 → i2 21 i = ii 21 i) : smK ii kd i2 kd := ⟨fun a _ _ p3 _ _ _ => h a p3, fun k _ => by rw [h 17 (by decide)], fun i p1 p2 => ⟨by rw [h 20 (by decide)], fun t _ => by rw [h2 i p1 p2], rfl⟩, fun j _ _ k _ => by rw [h 22 (by decide)]⟩
theorem Rep_S (R : Rep ii jj kd) (h : smK ii kd i2 k2) (hA : ∃ n d, ShR (i2 17 0) (i2 20) (i2 21) (i2 22) k2 0 0 (i2 26 0) n d) : Rep i2 jj k2 := Rep_A R h.1 h.2.1 h.2.2.1 h.2.2.2 hA
theorem jnk.tr (h1 : jnk ii kd i2 k2) (h2 : jnk i2 k2 i3 k3) : jnk ii kd i3 k3 :=
  ⟨fun a p1 p2 p3 p4 => (h2.1 a p1 p2 p3 p4).trans (h1.1 a p1 p2 p3 p4), fun i p => ⟨(h2.2.1 i p).1.trans (h1.2.1 i p).1, fun t ht => ((h2.2.1 i p).2.1 t ht).trans ((h1.2.1 i p).2.1 t ht), (h2.2.1 i p).2.2.trans (h1.2.1 i p).2.2⟩, fun k hk => (h2.2.2 k hk).trans (h1.2.2 k hk)⟩
theorem jnk.rf : jnk ii kd ii kd := ⟨fun _ _ _ _ _ => rfl, fun _ _ => ⟨rfl, fun _ _ => rfl, rfl⟩, fun _ _ => rfl⟩
theorem jnk_sm (h : smM ii i2) : jnk ii kd i2 kd := ⟨fun a _ _ p3 p4 => h.2 a p3 p4, fun i _ => ⟨by rw [h.2 20 (by decide) (by decide)], fun t _ => by rw [h.2 21 (by decide) (by decide)], rfl⟩, h.1⟩
theorem jnk_k {i x : Nat} (h : 16 ≤ i) : jnk ii kd ii (kU kd i x) := ⟨fun _ _ _ _ _ => rfl, fun y p => ⟨rfl, fun _ _ => rfl, kU_ne (by omega)⟩, fun _ _ => rfl⟩
theorem jnk_tI {j i : Nat} (h : 16 ≤ j) : jnk ii kd (tI ii j i) kd := by
  refine ⟨fun a p1 p2 _ _ => tI_tag p1 p2, fun x p => ⟨?_, fun t ht => ?_, rfl⟩, fun k _ => by rw [tI_tag (by decide) (by decide)]⟩
  · unfold tI
    rw [wA_tg (by decide), up3_num (by omega)]
  · unfold tI
    rw [wA_ne (fun q => by omega), up3_tag (by decide)]
theorem jnk_pW {j c : Nat} {w mo : Int32} (h : 16 ≤ j) : jnk ii kd (pW ii j c w mo) kd := ⟨fun a _ p2 _ _ => pW_tag p2, fun x p => ⟨by rw [pW_tag (by decide)], fun t _ => by rw [pW_ne (by omega)], rfl⟩, fun k _ => by rw [pW_tag (by decide)]⟩
theorem jnk_trW {j c : Nat} (h : 16 ≤ j) : ∀ k, jnk ii kd (trW j c ii k) kd
  | 0 => jnk.rf
  | k + 1 => (jnk_trW h k).tr (jnk_pW h)
theorem jnk_trB {c e : Nat} : ∀ k, jnk ii kd (trB c e ii k) kd
  | 0 => jnk.rf
  | k + 1 => ((jnk_trB k).tr (jnk_pW (by decide))).tr (jnk_pW (by decide))
theorem jnk_cq (h : cqI ii i2) : jnk ii kd i2 kd := ⟨fun a p1 p2 _ _ => by funext b; exact h a b (by omega) (by omega), fun x p => ⟨by rw [h 20 x (by omega) (by omega)], fun t _ => by rw [h 21 x (by omega) (by omega)], rfl⟩, fun k _ => by rw [h 26 0 (by omega) (by omega)]⟩
theorem Rep_J (R : Rep ii jj kd) (h : jnk ii kd i2 k2) : Rep i2 jj k2 := by
  obtain ⟨n, d, S⟩ := R.1
  have n8 := S.n8
  refine Rep_A R (fun a _ p2 p3 _ p5 p6 => h.1 a p2 p3 p5 p6) (fun k _ => by rw [h.1 17 (by decide) (by decide) (by decide) (by decide)]) (fun i _ p => h.2.1 i p) (fun j _ _ k _ => by rw [h.1 22 (by decide) (by decide) (by decide) (by decide)]) ⟨n, d, ?_⟩
  exact ShR_c S (fun k _ => by rw [h.1 17 (by decide) (by decide) (by decide) (by decide)]) (fun i hi => (h.2.1 i (by omega)).1) (fun i hi => (h.2.1 i (by omega)).2.1) (fun j _ k _ => by rw [h.1 22 (by decide) (by decide) (by decide) (by decide)]) (fun i hi => (h.2.1 i (by omega)).2.2) h.2.2
theorem jnk.one (h : jnk ii kd i2 k2) : i2 1 = ii 1 := h.1 1 (by decide) (by decide) (by decide) (by decide)
end FR
/-! THE CALLS, both sides: hats, heads -/
section T1
variable {l : Launch} {X : FX} {ii : Nat → Nat → Nat → Int32} {jj : Nat → Nat → Nat → Int64} {kd : Nat → Nat}
theorem tw_hat (R : Rep ii jj kd) (k : Int32) : Two l X 73 153 [vI k] ii jj kd := by
  obtain ⟨n, d, S⟩ := R.1
  by_cases h : uT k 5 = true
  · rcases Nat.lt_or_ge n 8 with hn | hn
    · obtain ⟨x, hx, rfl⟩ := uT_of (b := 5) (by decide) h
      have e26 : up3 (wA (up3 ii 20 n 2 5) 21 n 12 (fun _ => 0)) 17 0 2 (nI (n + 1)) 26 = ii 26 := by rw [up3_tag (by decide), wA_tg (by decide), up3_tag (by decide)]
      have nt : ∀ a, a ≠ 26 → nHm (up3 (wA (up3 ii 20 n 2 5) 21 n 12 (fun _ => 0)) 17 0 2 (nI (n + 1))) n (nI x) 5 0 a = up3 (wA (up3 ii 20 n 2 5) 21 n 12 (fun _ => 0)) 17 0 2 (nI (n + 1)) a := fun a p => by unfold nHm; rw [wR_tag p, up3_tag p, up3_tag p, up3_tag p]
      have K1 : smK ii (kU kd n x) (up3 (wA (up3 ii 20 n 2 5) 21 n 12 (fun _ => 0)) 17 0 2 (nI (n + 1))) (kU kd n x) := (smK_up (by omega)).tr ((smK_wA (by omega)).tr (smK_up (by omega)))
      have K : smK ii kd (nHm (up3 (wA (up3 ii 20 n 2 5) 21 n 12 (fun _ => 0)) 17 0 2 (nI (n + 1))) n (nI x) 5 0) (kU kd n x) := ((smK_k (x := x) (Or.inl hn)).tr K1).tr (smK_t (fun a p _ => nt a p))
      refine two_of (c_hat x n (by omega) hn S.c2) (m_hat _ n h hn (by rw [e26]; exact S.m2)) (by decide) (by decide) (Rep_S R K ⟨n + 1, d, ?_⟩) K.one (by rw [up3_tag (by decide), wA_tg (by decide), up3_tag (by decide)])
      rw [nt 17 (by decide), nt 20 (by decide), nt 21 (by decide), nt 22 (by decide)]
      rw [up3_tag (show (22 : Nat) ≠ 17 by decide), wA_tg (show (22 : Nat) ≠ 21 by decide), up3_tag (show (22 : Nat) ≠ 20 by decide)]
      refine ShR_hat S hn up3_rd (fun k hk k2 => ?_) (fun i hi => ?_) (fun i hi t ht => ?_) (fun i hi => kU_ne (by omega)) ?_ (fun k hk k2 k3 => ?_) ⟨by rw [kU_at]; omega, ?_⟩ ?_ (fun t ht => ?_)
      · rw [up3_pl k2, wA_tg (by decide), up3_tag (by decide)]
      · rw [up3_tag (by decide), wA_tg (by decide), up3_num (by omega)]
      · rw [up3_tag (by decide), wA_ne (fun q => by omega), up3_tag (by decide)]
      · unfold nHm
        rw [wR_out (by omega), up3_pl (by omega), up3_pl (by omega), up3_rd]
      · unfold nHm
        rw [wR_out (by omega), up3_pl (by omega), up3_pl (by omega), up3_pl k2, e26]
      · unfold nHm
        rw [wR_out (by omega), up3_pl (by omega), up3_rd, kU_at]
      · refine bth.of (x := 5) ?_ ?_ (by decide)
        · unfold nHm
          rw [wR_out (by omega), up3_rd]
          rfl
        · rw [up3_tag (by decide), wA_tg (by decide), up3_rd]
          rfl
      · refine bth.of (x := 0) ?_ ?_ (by decide)
        · unfold nHm
          rw [wR_lt ht, if_pos (show (0 : Int32) &&& bT t = 0 from Int32.zero_and)]
          rfl
        · rw [up3_tag (by decide), wA_lt ht]
          rfl
    · have e8 : n = 8 := by have := S.n8; omega
      rw [e8] at S
      exact two_fail R (c_hat1 k h S.c2) (m_hat1 k h (by rw [fnd_tag (by decide)]; exact S.m2)) (by decide) (by decide)
  · exact two_fail R (c_hat0 k h) (m_hat0 k h) (by decide) (by decide)
theorem tw_fresh (R : Rep ii jj kd) (v t x : Int32) : Two l X 74 154 [vI v, vI t, vI x] ii jj kd := by
  obtain ⟨n, d, S⟩ := R.1
  by_cases h : (¬ v < 0 ∧ ¬ nI n ≤ v) ∧ uT t 11 = true ∧ uT x 9 = true
  · obtain ⟨i, hi, rfl⟩ := in_of (by have := S.n8; omega) rfl h.1
    obtain ⟨t, ht, rfl⟩ := uT_of (b := 11) (by decide) h.2.1
    obtain ⟨y, hy, rfl⟩ := uT_of (b := 9) (by decide) h.2.2
    have n8 := S.n8
    have K : smK ii kd (up3 (up3 ii 21 i t (nI y)) 26 0 (6 + 14 * i + t) (nI y)) kd := (smK_up (by omega)).tr (smK_t (fun a p _ => up3_tag p))
    have hm := m_fresh (l := l) (X := X) (ii := up3 ii 21 i t (nI y)) (jj := jj) (kd := kd) i t n (nI y) hi n8 (by rw [up3_tag (by decide)]; exact S.m2) (by omega) h.2.2
    rw [show mR (up3 ii 21 i t (nI y)) i t = ii 21 i t by rw [mR_e (up3_tag (by decide))]; exact (S.row hi) t (by omega)] at hm
    refine two_of (c_fresh i t n (nI y) hi n8 S.c2 (by omega) h.2.2) hm (by decide) (by decide) (Rep_S R K ⟨n, d, ?_⟩) K.one (up3_tag (by decide))
    rw [up3_tag (show (17 : Nat) ≠ 26 by decide), up3_tag (show (17 : Nat) ≠ 21 by decide), up3_tag (show (20 : Nat) ≠ 26 by decide), up3_tag (show (20 : Nat) ≠ 21 by decide), up3_tag (show (22 : Nat) ≠ 26 by decide), up3_tag (show (22 : Nat) ≠ 21 by decide), up3_tag (show (21 : Nat) ≠ 26 by decide)]
    refine ShR_row S hi (fun z hz e c hc => up3_num e) (fun k hk q => ?_) (fun c hc => ?_)
    · rw [up3_pl (by omega), up3_tag (by decide)]
    · by_cases e : c = t
      · rw [e, up3_rd, up3_rd]
        exact bth.self hy
      · rw [up3_pl (by omega), up3_pl e, up3_tag (by decide)]
        exact S.fr hi hc
  · exact two_fail R (c_fresh0 v t x (by rw [S.c2]; exact h)) (m_fresh0 v t x S.n8 (by rw [fnd_tag (by decide)]; exact S.m2) h) (by decide) (by decide)
theorem tw_told (R : Rep ii jj kd) (v t : Int32) : Two l X 76 156 [vI v, vI t] ii jj kd := by
  obtain ⟨n, d, S⟩ := R.1
  by_cases h : (¬ v < 0 ∧ ¬ nI n ≤ v) ∧ uT t 11 = true
  · obtain ⟨i, hi, rfl⟩ := in_of (by have := S.n8; omega) rfl h.1
    obtain ⟨t, ht, rfl⟩ := uT_of (b := 11) (by decide) h.2
    have hm := m_told (l := l) (X := X) (ii := ii) (jj := jj) (kd := kd) i t n hi S.n8 S.m2 (by omega)
    rw [show mR ii i t = ii 21 i t from (S.row hi) t (by omega)] at hm
    exact two_of (c_told i t n hi S.n8 S.c2 (by omega)) hm (by decide) (by decide) R rfl rfl
  · exact two_fail R (c_told0 v t (by rw [S.c2]; exact h)) (m_told0 v t S.n8 (by rw [fnd_tag (by decide)]; exact S.m2) h) (by decide) (by decide)
theorem tw_of (R : Rep ii jj kd) (v w : Int32) : Two l X 75 155 [vI v, vI w] ii jj kd := by
  obtain ⟨n, d, S⟩ := R.1
  by_cases h : ¬ v < 0 ∧ ¬ nI n ≤ v
  · obtain ⟨i, hi, rfl⟩ := in_of (by have := S.n8; omega) rfl h
    cases hw : uT w 4 with
    | true =>
      obtain ⟨w, hw4, rfl⟩ := uT_of (b := 4) (by decide) hw
      have hm := m_of (l := l) (X := X) (ii := ii) (jj := jj) (kd := kd) i n w (kd i) hi S.n8 S.m2 (S.kd6 hi) (S.mk hi) hw4
      rw [hF_c (S.row hi) 12 (by decide), aF_c 12 (S.row hi), (S.pl hi).eq, S.wk.eq] at hm
      have hc := c_of (l := l) (X := X) (ii := ii) (jj := jj) (kd := kd) i n w hi S.n8 S.c2 (S.kd6 hi) R.2.2.2.2.2 hw4
      match w, hw4, hc, hm with
      | 0, _, hc, hm => exact two_of hc hm (by decide) (by decide) R rfl rfl
      | 1, _, hc, hm => exact two_of hc hm (by decide) (by decide) R rfl rfl
      | 2, _, hc, hm => exact two_of hc hm (by decide) (by decide) R rfl rfl
      | 3, _, hc, hm => exact two_of hc hm (by decide) (by decide) R rfl rfl
      | 4, _, hc, hm => exact two_of hc hm (by decide) (by decide) R rfl rfl
      | w + 5, h5, _, _ => exact absurd h5 (by omega)
    | false => exact two_fail R (c_of_bad i n w hi S.n8 S.c2 hw) (m_of_bad i n w hi S.n8 (by rw [fnd_tag (by decide)]; exact S.m2) hw) (by decide) (by decide)
  · exact two_fail R (c_of0 v w (by rw [S.c2]; exact h)) (m_of0 v w S.n8 (by rw [fnd_tag (by decide)]; exact S.m2) h) (by decide) (by decide)
theorem tw_pledge (R : Rep ii jj kd) (v x : Int32) : Two l X 77 157 [vI v, vI x] ii jj kd := by
  obtain ⟨n, d, S⟩ := R.1
  by_cases h : (¬ v < 0 ∧ ¬ nI n ≤ v) ∧ uT x 99 = true
  · obtain ⟨i, hi, rfl⟩ := in_of (by have := S.n8; omega) rfl h.1
    obtain ⟨y, hy, rfl⟩ := uT_of (b := 99) (by decide) h.2
    have n8 := S.n8
    have K : smK ii kd (up3 (up3 ii 20 i 2 (nI y)) 26 0 (5 + 14 * i) (nI y)) kd := (smK_up (by omega)).tr (smK_t (fun a p _ => up3_tag p))
    have hm := m_pledge (l := l) (X := X) (ii := up3 ii 20 i 2 (nI y)) (jj := jj) (kd := kd) i n (nI y) hi n8 (by rw [up3_tag (by decide)]; exact S.m2) h.2
    rw [up3_tag (show (26 : Nat) ≠ 20 by decide), (S.pl hi).eq] at hm
    refine two_of (c_pledge i n (nI y) hi n8 S.c2 h.2) hm (by decide) (by decide) (Rep_S R K ⟨n, d, ?_⟩) K.one (up3_tag (by decide))
    rw [up3_tag (show (17 : Nat) ≠ 26 by decide), up3_tag (show (17 : Nat) ≠ 20 by decide), up3_tag (show (21 : Nat) ≠ 26 by decide), up3_tag (show (21 : Nat) ≠ 20 by decide), up3_tag (show (22 : Nat) ≠ 26 by decide), up3_tag (show (22 : Nat) ≠ 20 by decide), up3_tag (show (20 : Nat) ≠ 26 by decide)]
    refine ShR_pl S hi (fun z hz e => up3_num e) (fun k hk q => ?_) ?_
    · rw [up3_pl q, up3_tag (by decide)]
    · rw [up3_rd, up3_rd]
      exact bth.self hy
  · exact two_fail R (c_pledge0 v x (by rw [S.c2]; exact h)) (m_pledge0 v x S.n8 (by rw [fnd_tag (by decide)]; exact S.m2) h) (by decide) (by decide)
theorem tw_turn (R : Rep ii jj kd) (v x : Int32) : Two l X 78 158 [vI v, vI x] ii jj kd := by
  obtain ⟨n, d, S⟩ := R.1
  by_cases h : (¬ v < 0 ∧ ¬ nI n ≤ v) ∧ uT x 5 = true
  · obtain ⟨i, hi, rfl⟩ := in_of (by have := S.n8; omega) rfl h.1
    obtain ⟨y, hy, rfl⟩ := uT_of (b := 5) (by decide) h.2
    have n8 := S.n8
    have K : smK ii kd (up3 ii 26 0 (4 + 14 * i) (nI y)) (kU kd i y) := (smK_k (by omega)).tr (smK_t (fun a p _ => up3_tag p))
    have hm := m_turn (l := l) (X := X) (ii := ii) (jj := jj) (kd := kU kd i y) i n (nI y) hi n8 S.m2 h.2
    rw [S.mk hi] at hm
    refine two_of (c_turn i n y hi n8 S.c2 (by omega) (S.kd6 hi) R.2.2.2.2.2) hm (by decide) (by decide) (Rep_S R K ⟨n, d, ?_⟩) K.one rfl
    rw [up3_tag (show (17 : Nat) ≠ 26 by decide), up3_tag (show (20 : Nat) ≠ 26 by decide), up3_tag (show (21 : Nat) ≠ 26 by decide), up3_tag (show (22 : Nat) ≠ 26 by decide)]
    exact ShR_kd S hi (by omega) (fun k hk q => up3_pl q) up3_rd
  · exact two_fail R (c_turn0 v x (by rw [S.c2]; exact h)) (m_turn0 v x S.n8 (by rw [fnd_tag (by decide)]; exact S.m2) h) (by decide) (by decide)
theorem tw_as (R : Rep ii jj kd) (v x : Int32) : Two l X 79 159 [vI v, vI x] ii jj kd := by
  obtain ⟨n, d, S⟩ := R.1
  by_cases h : (¬ v < 0 ∧ ¬ nI n ≤ v) ∧ uT x 5 = true
  · obtain ⟨i, hi, rfl⟩ := in_of (by have := S.n8; omega) rfl h.1
    obtain ⟨y, hy, rfl⟩ := uT_of (b := 5) (by decide) h.2
    have hc := c_as (l := l) (X := X) (ii := ii) (jj := jj) (kd := kd) i n (nI y) hi S.n8 S.c2 h.2 (S.kd6 hi)
    cases e : alO (kd i) (nI y) with
    | true =>
      have hm := m_as (l := l) (X := X) (ii := ii) (jj := jj) (kd := kd) i n (kd i) (nI y) hi S.n8 S.m2 h.2 (S.mk hi)
      rw [alM_O (kd i) (S.kd6 hi) y (by omega), e, cond_true, cond_true, (S.pl hi).eq] at hm
      rw [e, cond_true, cond_true] at hc
      exact two_of hc hm (by decide) (by decide) R rfl rfl
    | false =>
      have hm := m_as (l := l) (X := X) (ii := fnd ii 2) (jj := jj) (kd := kd) i n (kd i) (nI y) hi S.n8 (by rw [fnd_tag (by decide)]; exact S.m2) h.2 (by rw [fnd_tag (by decide)]; exact S.mk hi)
      rw [alM_O (kd i) (S.kd6 hi) y (by omega), e, cond_false, cond_false] at hm
      rw [e, cond_false, cond_false] at hc
      exact two_fail R hc hm (by decide) (by decide)
  · exact two_fail R (c_as0 v x (by rw [S.c2]; exact h)) (m_as0 v x S.n8 (by rw [fnd_tag (by decide)]; exact S.m2) h) (by decide) (by decide)
theorem tw_head (R : Rep ii jj kd) (k : Int32) : Two l X 80 161 [vI k] ii jj kd := by
  obtain ⟨n, d, S⟩ := R.1
  by_cases h : uT k 4095 = true
  · rcases Nat.lt_or_ge d 6 with hd | hd
    · obtain ⟨x, hx, rfl⟩ := uT_of (b := 4095) (by decide) h
      have e26 : up3 (up3 (up3 (up3 ii 22 d 0 (nI x)) 22 d 1 0) 22 d 2 0) 17 0 3 (nI (d + 1)) 26 = ii 26 := by rw [up3_tag (by decide), up3_tag (by decide), up3_tag (by decide), up3_tag (by decide)]
      have nt : ∀ a, a ≠ 26 → nDm (up3 (up3 (up3 (up3 ii 22 d 0 (nI x)) 22 d 1 0) 22 d 2 0) 17 0 3 (nI (d + 1))) d (nI x) 0 a = up3 (up3 (up3 (up3 ii 22 d 0 (nI x)) 22 d 1 0) 22 d 2 0) 17 0 3 (nI (d + 1)) a := fun a p => by unfold nDm; rw [up3_tag p, up3_tag p, up3_tag p, up3_tag p]
      have K1 : smK ii kd (up3 (up3 (up3 (up3 ii 22 d 0 (nI x)) 22 d 1 0) 22 d 2 0) 17 0 3 (nI (d + 1))) kd := (smK_up (by omega)).tr ((smK_up (by omega)).tr ((smK_up (by omega)).tr (smK_up (by omega))))
      have K : smK ii kd (nDm (up3 (up3 (up3 (up3 ii 22 d 0 (nI x)) 22 d 1 0) 22 d 2 0) 17 0 3 (nI (d + 1))) d (nI x) 0) kd := K1.tr (smK_t (fun a p _ => nt a p))
      refine two_of (c_head (nI x) d h hd S.c3) (m_head _ d h hd (by rw [e26]; exact S.m3)) (by decide) (by decide) (Rep_S R K ⟨n, d + 1, ?_⟩) K.one (by rw [up3_tag (by decide), up3_tag (by decide), up3_tag (by decide), up3_tag (by decide)])
      rw [nt 17 (by decide), nt 20 (by decide), nt 21 (by decide), nt 22 (by decide)]
      rw [up3_tag (show (20 : Nat) ≠ 17 by decide), up3_tag (show (20 : Nat) ≠ 22 by decide), up3_tag (show (20 : Nat) ≠ 22 by decide), up3_tag (show (20 : Nat) ≠ 22 by decide), up3_tag (show (21 : Nat) ≠ 17 by decide), up3_tag (show (21 : Nat) ≠ 22 by decide), up3_tag (show (21 : Nat) ≠ 22 by decide), up3_tag (show (21 : Nat) ≠ 22 by decide), up3_tag (show (22 : Nat) ≠ 17 by decide)]
      refine ShR_head S hd up3_rd (fun k hk k2 => ?_) (fun j hj k hk => ?_) ?_ (fun k hk k2 k3 => ?_) (fun k hk => ?_)
      · rw [up3_pl k2, up3_tag (by decide), up3_tag (by decide), up3_tag (by decide)]
      · rw [up3_num (by omega), up3_num (by omega), up3_num (by omega)]
      · unfold nDm
        rw [up3_pl (by omega), up3_pl (by omega), up3_pl (by omega), up3_rd]
      · unfold nDm
        rw [up3_pl (by omega), up3_pl (by omega), up3_pl (by omega), up3_pl k2, e26]
      · unfold nDm
        match k, hk with
        | 0, _ =>
          refine bth.of (x := x) ?_ ?_ hx
          · rw [up3_pl (by omega), up3_pl (by omega), show 116 + 3 * d + 0 = 116 + 3 * d from rfl, up3_rd]
          · rw [up3_pl (by decide), up3_pl (by decide), up3_rd]
        | 1, _ =>
          refine bth.of (x := 0) ?_ ?_ (by decide)
          · rw [up3_pl (by omega), up3_rd]
            rfl
          · rw [up3_pl (by decide), up3_rd]
            rfl
        | 2, _ =>
          refine bth.of (x := 0) ?_ ?_ (by decide)
          · rw [up3_rd]
            rfl
          · rw [up3_rd]
            rfl
    · have e6 : d = 6 := by have := S.d6; omega
      rw [e6] at S
      exact two_fail R (c_head1 k h S.c3) (m_head1 k h (by rw [fnd_tag (by decide)]; exact S.m3)) (by decide) (by decide)
  · exact two_fail R (c_head0 k h) (m_head0 k h) (by decide) (by decide)
end T1
