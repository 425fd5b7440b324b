/-! THE CALLS, both sides: tape, sheets, images, counts -/
section RX
variable {ii i2 : Nat → Nat → Nat → Int32} {jj j2 : Nat → Nat → Nat → Int64} {kd : Nat → Nat}
/-- only the tape has changed -/
theorem Rep_T (R : Rep ii jj kd) (h : ∀ a, a ≠ 7 → a ≠ 8 → a ≠ 25 → a ≠ 30 → i2 a = ii a) (h3 : i2 25 0 3 = ii 25 0 3) (hC : tapR (i2 7 0 1) (i2 25 0 6) (i2 8 0) (i2 30 0)) : Rep i2 jj kd := by
  obtain ⟨A, B, C, D, E, F⟩ := R
  refine ⟨?_, ?_, hC, ?_, ?_, fun c hc => ?_⟩
  · rw [h 17 (by decide) (by decide) (by decide) (by decide), h 20 (by decide) (by decide) (by decide) (by decide), h 21 (by decide) (by decide) (by decide) (by decide), h 22 (by decide) (by decide) (by decide) (by decide), h 26 (by decide) (by decide) (by decide) (by decide)]
    exact A
  · rw [h 10 (by decide) (by decide) (by decide) (by decide), h 29 (by decide) (by decide) (by decide) (by decide)]
    exact B
  · rw [h3, h 5 (by decide) (by decide) (by decide) (by decide), h 17 (by decide) (by decide) (by decide) (by decide), h 20 (by decide) (by decide) (by decide) (by decide), h 21 (by decide) (by decide) (by decide) (by decide), h 22 (by decide) (by decide) (by decide) (by decide), h 27 (by decide) (by decide) (by decide) (by decide)]
    exact D
  · rw [h 31 (by decide) (by decide) (by decide) (by decide), h 32 (by decide) (by decide) (by decide) (by decide), h 23 (by decide) (by decide) (by decide) (by decide)]
    exact E
  · rw [h (c + 11) (by omega) (by omega) (by omega) (by omega)]
    exact F c hc
/-- only sheets have changed -/
theorem Rep_E (R : Rep ii jj kd) (h : ∀ a, a ≠ 23 → a ≠ 31 → a ≠ 32 → i2 a = ii a) (hE : shtR (i2 31 0) (i2 32 0) (i2 23) (j2 33 0) (j2 24)) : Rep i2 j2 kd := by
  obtain ⟨A, B, C, D, E, F⟩ := R
  refine ⟨?_, ?_, ?_, ?_, hE, fun c hc => ?_⟩
  · rw [h 17 (by decide) (by decide) (by decide), h 20 (by decide) (by decide) (by decide), h 21 (by decide) (by decide) (by decide), h 22 (by decide) (by decide) (by decide), h 26 (by decide) (by decide) (by decide)]
    exact A
  · rw [h 10 (by decide) (by decide) (by decide), h 29 (by decide) (by decide) (by decide)]
    exact B
  · rw [h 7 (by decide) (by decide) (by decide), h 25 (by decide) (by decide) (by decide), h 8 (by decide) (by decide) (by decide), h 30 (by decide) (by decide) (by decide)]
    exact C
  · rw [h 25 (by decide) (by decide) (by decide), h 5 (by decide) (by decide) (by decide), h 17 (by decide) (by decide) (by decide), h 20 (by decide) (by decide) (by decide), h 21 (by decide) (by decide) (by decide), h 22 (by decide) (by decide) (by decide), h 27 (by decide) (by decide) (by decide)]
    exact D
  · rw [h (c + 11) (by omega) (by omega) (by omega)]
    exact F c hc
end RX
section BY
theorem i32_nat (b : Int32) : b.toInt = if 2 * b.toBitVec.toNat < 4294967296 then (b.toBitVec.toNat : Int) else (b.toBitVec.toNat : Int) - 4294967296 := by
  show b.toBitVec.toInt = _
  rw [BitVec.toInt_eq_toNat_cond]
  rfl
/-- a byte of a number: both ways -/
theorem by_eq (b : Int32) {k : Nat} (hk : k < 4) : ∃ x, x ≤ 255 ∧ b >>> (8 * nI k &&& 31) &&& 255 = nI x ∧ byC b k = nI x := by
  refine ⟨b.toBitVec.toNat / 2 ^ (8 * k) % 256, by omega, ?_, ?_⟩
  · rw [pk_and _ 8 (by decide)]
    congr 1
    have hs : ((8 * nI k &&& 31).toBitVec.smod 32).toNat = 8 * k := by
      have : ∀ k, k < 4 → ((8 * nI k &&& 31).toBitVec.smod 32).toNat = 8 * k := by decide
      exact this k hk
    have h1 := pk_shr b (8 * nI k &&& 31) (8 * k) hs
    rw [i32_nat b, i32_nat (b >>> (8 * nI k &&& 31)), Int.shiftRight_eq_div_pow] at h1
    have hn := b.toBitVec.isLt
    have hm := (b >>> (8 * nI k &&& 31)).toBitVec.isLt
    generalize (b >>> (8 * nI k &&& 31)).toBitVec.toNat = m at *
    generalize b.toBitVec.toNat = n at *
    match k, hk with
    | 0, _ =>
      show m % 256 = n / 1 % 256
      replace h1 : (if 2 * m < 4294967296 then (m : Int) else (m : Int) - 4294967296) = (if 2 * n < 4294967296 then (n : Int) else (n : Int) - 4294967296) / 1 := h1
      split at h1 <;> split at h1 <;> omega
    | 1, _ =>
      show m % 256 = n / 256 % 256
      replace h1 : (if 2 * m < 4294967296 then (m : Int) else (m : Int) - 4294967296) = (if 2 * n < 4294967296 then (n : Int) else (n : Int) - 4294967296) / 256 := h1
      split at h1 <;> split at h1 <;> omega
    | 2, _ =>
      show m % 256 = n / 65536 % 256
      replace h1 : (if 2 * m < 4294967296 then (m : Int) else (m : Int) - 4294967296) = (if 2 * n < 4294967296 then (n : Int) else (n : Int) - 4294967296) / 65536 := h1
      split at h1 <;> split at h1 <;> omega
    | 3, _ =>
      show m % 256 = n / 16777216 % 256
      replace h1 : (if 2 * m < 4294967296 then (m : Int) else (m : Int) - 4294967296) = (if 2 * n < 4294967296 then (n : Int) else (n : Int) - 4294967296) / 16777216 := h1
      split at h1 <;> split at h1 <;> omega
  · unfold byC
    rw [pk_and _ 8 (by decide)]
    congr 1
    rw [pk_ushr b (8 * nI k) (8 * k) (by
      have : ∀ k, k < 4 → (((8 * nI k).toUInt32 &&& Int32.toUInt32 31).toBitVec % 32).toNat = 8 * k := by decide
      exact this k hk)]
end BY
section TP
variable {b : Int32}
theorem fdC_tag {a : Nat} (h7 : a ≠ 7) (h8 : a ≠ 8) : ∀ k z ii, fdC b ii k z a = ii a
  | 0, _, _ => rfl
  | k + 1, z, ii => by
    rw [fdC, fdC_tag h7 h8 k, up3_tag h7, up3_tag h8]
theorem fdM_tag {a : Nat} (h7 : a ≠ 25) (h8 : a ≠ 30) : ∀ k z ii, fdM b ii k z a = ii a
  | 0, _, _ => rfl
  | k + 1, z, ii => by
    rw [fdM, fdM_tag h7 h8 k, up3_tag h7, up3_tag h8]
theorem fdM_3 : ∀ k z ii, fdM b ii k z 25 0 3 = ii 25 0 3
  | 0, _, _ => rfl
  | k + 1, z, ii => by
    rw [fdM, fdM_3 k, up3_pl (by decide), up3_tag (by decide)]
/-- both tapes, byte by byte -/
def tbR (ii i' : Nat → Nat → Nat → Int32) (z : Nat) : Prop := ii 7 0 1 = nI z ∧ i' 25 0 6 = nI z ∧ ∀ j, j < z → bth (i' 30 0 j) (ii 8 0 j) 255
theorem fd_sim : ∀ k z (ii i' : Nat → Nat → Nat → Int32), k ≤ 4 → tbR ii i' z → tbR (fdC b ii k z) (fdM b i' k z) (z + k)
  | 0, _, _, _, _, h => h
  | k + 1, z, ii, i', hk, h => by
    rw [show z + (k + 1) = (z + 1) + k by omega, fdC, fdM]
    refine fd_sim k (z + 1) _ _ (by omega) ⟨up3_rd, up3_rd, fun j hj => ?_⟩
    rw [up3_tag (show (30 : Nat) ≠ 25 by decide), up3_tag (show (8 : Nat) ≠ 7 by decide)]
    by_cases e : j = z
    · rw [e, up3_rd, up3_rd]
      obtain ⟨x, hx, e1, e2⟩ := by_eq b (show k < 4 by omega)
      exact bth.of e1 e2 hx
    · rw [up3_pl e, up3_pl e]
      exact h.2.2 j (by omega)
end TP
section T1
variable {l : Launch} {X : FX} {ii : Nat → Nat → Nat → Int32} {jj : Nat → Nat → Nat → Int64} {kd : Nat → Nat}
theorem tw_feed (R : Rep ii jj kd) (b v : Int32) : Two l X 102 191 [vI b, vI v] ii jj kd := by
  obtain ⟨z, hz, z1, z2, zb⟩ := R.2.2.1
  by_cases h : ¬ v < 1 ∧ ¬ 4 < v
  · have hv0 : ¬ v < 0 := fun q => h.1 (Int32.lt_trans q (by decide))
    obtain ⟨N, hN, rfl⟩ := nI_of2 (M := 4) (n := 4) (by decide) hv0 (Int32.not_lt.mp h.2)
    have hN1 : 1 ≤ N := Nat.pos_of_ne_zero (fun e => h.1 (by rw [e]; decide))
    match N, hN1, hN with
    | k + 1, _, hN =>
      by_cases hl : z + (k + 1) ≤ 120
      · have hm := m_feed (l := l) (X := X) (ii := fdC b ii (k + 1) z) (jj := jj) (kd := kd) b k z hN (by rw [fdC_tag (by decide) (by decide)]; exact z2) hl
        have T := fd_sim (b := b) (k + 1) z ii (fdC b ii (k + 1) z) hN ⟨z1, by rw [fdC_tag (by decide) (by decide)]; exact z2, fun j hj => by rw [fdC_tag (by decide) (by decide)]; exact zb j hj⟩
        refine two_of (c_feed b k z hN z1 hl) hm (by decide) (by decide) (Rep_T R (fun a p1 p2 p3 p4 => by rw [fdM_tag p3 p4, fdC_tag p1 p2]) (by rw [fdM_3, fdC_tag (by decide) (by decide)]) ⟨z + (k + 1), hl, ?_, T.2.1, fun j hj => ?_⟩) (by rw [fdM_tag (by decide) (by decide), fdC_tag (by decide) (by decide)]) (fdC_tag (by decide) (by decide) _ _ _)
        · rw [fdM_tag (by decide) (by decide)]
          exact T.1
        · rw [fdM_tag (show (8 : Nat) ≠ 25 by decide) (by decide)]
          exact T.2.2 j hj
      · have q : ¬ nI z + nI (k + 1) ≤ 120 := by rw [nI_add]; exact nI_ge (a := 120) (by omega) (by omega)
        exact two_fail R (c_feed1 b _ h (by rw [z1]; exact q)) (m_feed1 b _ h (by rw [fnd_tag (by decide), z2]; exact q)) (by decide) (by decide)
  · have h2 : v < 1 ∨ 4 < v := by
      by_cases q : v < 1
      · exact Or.inl q
      · exact Or.inr (Classical.not_not.mp (fun z => h ⟨q, z⟩))
    exact two_fail R (c_feed0 b v h2) (m_feed0 b v h2) (by decide) (by decide)
theorem tw_wipe (R : Rep ii jj kd) : Two l X 103 192 [] ii jj kd := by
  obtain ⟨z, hz, z1, z2, zb⟩ := R.2.2.1
  have hm := m_wipe (l := l) (X := X) (ii := up3 ii 7 0 1 0) (jj := jj) (kd := kd)
  rw [show up3 ii 7 0 1 0 25 0 6 = ii 7 0 1 by rw [up3_tag (by decide), z1, z2]] at hm
  refine two_of c_wipe hm (by decide) (by decide) (Rep_T R (fun a p1 p2 p3 p4 => by rw [up3_tag p3, up3_tag p1]) (by rw [up3_pl (by decide), up3_tag (by decide)]) ⟨0, by decide, ?_, up3_rd, fun j hj => absurd hj (Nat.not_lt_zero _)⟩) (by rw [up3_tag (by decide), up3_tag (by decide)]) (up3_tag (by decide))
  rw [up3_tag (by decide), up3_rd]
  rfl
theorem tw_tear (R : Rep ii jj kd) : Two l X 113 218 [] ii jj kd := by
  have hm := m_tear (l := l) (X := X) (ii := up3 ii 5 0 9 0) (jj := jj) (kd := kd)
  rw [show up3 ii 5 0 9 0 25 0 3 = ii 5 0 9 by rw [up3_tag (by decide), R.2.2.2.1.1.eq]] at hm
  have e : ∀ a, a ≠ 5 → a ≠ 25 → up3 (up3 ii 5 0 9 0) 25 0 3 0 a = ii a := fun a h1 h2 => by rw [up3_tag h2, up3_tag h1]
  obtain ⟨A, B, C, D, E, F⟩ := R
  refine two_of c_tear hm (by decide) (by decide) ⟨?_, ?_, ?_, ⟨?_, fun q => absurd ?_ q⟩, ?_, fun c hc => ?_⟩ (e 1 (by decide) (by decide)) (up3_tag (by decide))
  · rw [e 17 (by decide) (by decide), e 20 (by decide) (by decide), e 21 (by decide) (by decide), e 22 (by decide) (by decide), e 26 (by decide) (by decide)]
    exact A
  · rw [e 10 (by decide) (by decide), e 29 (by decide) (by decide)]
    exact B
  · rw [e 7 (by decide) (by decide), e 8 (by decide) (by decide), e 30 (by decide) (by decide), up3_pl (by decide), up3_tag (by decide)]
    exact C
  · rw [up3_rd, up3_tag (by decide), up3_rd]
    exact bth.self (x := 0) (by decide)
  · rw [up3_tag (by decide), up3_rd]
  · rw [e 31 (by decide) (by decide), e 32 (by decide) (by decide), e 23 (by decide) (by decide)]
    exact E
  · rw [e (c + 11) (by omega) (by omega)]
    exact F c hc
theorem tw_count (R : Rep ii jj kd) (w : Int32) : Two l X 114 219 [vI w] ii jj kd := by
  obtain ⟨n, d, S⟩ := R.1
  obtain ⟨z, hz, z1, z2, zb⟩ := R.2.2.1
  cases hw : uT w 3 with
  | true =>
    obtain ⟨w, hw3, rfl⟩ := uT_of (b := 3) (by decide) hw
    have hm := m_count (l := l) (X := X) (ii := ii) (jj := jj) (kd := kd) w n hw3 S.n8 S.m2
    have hc := c_count (l := l) (X := X) (ii := ii) (jj := jj) (kd := kd) w n hw3 S.n8 S.c2
    rw [show ii 26 0 2 = ii 17 0 2 from S.m2.trans S.c2.symm, show ii 26 0 3 = ii 17 0 3 from S.m3.trans S.c3.symm, z2.trans z1.symm, aF_c (g := fun k => ii 20 k 2) n (fun k hk => (S.pl hk).eq)] at hm
    match w, hw3, hc, hm with
    | 0, _, hc, hm => exact two_of hc hm (by decide) (by decide) R rfl rfl
    | 1, _, hc, hm => exact two_of hc hm (by decide) (by decide) R rfl rfl
    | 2, _, hc, hm => exact two_of hc hm (by decide) (by decide) R rfl rfl
    | 3, _, hc, hm => exact two_of hc hm (by decide) (by decide) R rfl rfl
    | w + 4, h5, _, _ => exact absurd h5 (by omega)
  | false => exact two_fail R (c_count0 w hw) (m_count0 w hw) (by decide) (by decide)
theorem stS_n {f : Nat → Int32} {k : Nat} (hk : k < 7) : ∀ n, n ≤ 7 → stS f (nI k) n = if k < n then f k else 0
  | 0, _ => by rw [if_neg (Nat.not_lt_zero _)]; rfl
  | n + 1, hn => by
    rw [stS, stS_n hk n (by omega)]
    by_cases e : k = n
    · rw [if_neg (show ¬ k < n by omega), if_pos (Or.inr (by rw [e])), if_pos (by omega), e, Int32.zero_add]
    · rw [if_neg (show ¬ (nI k < 0 ∨ nI k = nI n) by
        rintro (q | q)
        · exact nI_pos (by omega) q
        · exact e ((nI_eq (by omega) (by omega)).mp q)), Int32.add_zero]
      by_cases q : k < n
      · rw [if_pos q, if_pos (by omega)]
      · rw [if_neg q, if_neg (by omega)]
theorem stS_a {f : Nat → Int32} : ∀ n, stS f (-1) n = aF f n
  | 0 => rfl
  | n + 1 => by rw [stS, if_pos (Or.inl (by decide)), stS_a n]; rfl
theorem tw_status (R : Rep ii jj kd) (w : Int32) : Two l X 115 220 [vI w] ii jj kd := by
  by_cases h : ¬ w < -1 ∧ ¬ 6 < w
  · have hm := m_status (l := l) (X := X) (ii := ii) (jj := jj) (kd := kd) w h
    by_cases q : w < 0
    · have e : w = -1 := by
        rw [Int32.lt_iff_toInt_lt] at q
        have h1 := h.1
        rw [Int32.lt_iff_toInt_lt] at h1
        replace q : w.toInt < 0 := q
        replace h1 : ¬ w.toInt < -1 := h1
        exact Int32.toInt_inj.mp (show w.toInt = -1 by omega)
      subst e
      rw [stS_a, aF_c 7 (fun k hk => (R.2.1 k hk).symm)] at hm
      exact two_of c_statusA hm (by decide) (by decide) R rfl rfl
    · obtain ⟨k, hk, rfl⟩ := nI_of2 (M := 6) (n := 6) (by decide) q (Int32.not_lt.mp h.2)
      rw [stS_n (show k < 7 by omega) 7 (by decide), if_pos (show k < 7 by omega), ← R.2.1 k (by omega)] at hm
      exact two_of (c_status k (by omega)) hm (by decide) (by decide) R rfl rfl
  · have h2 : w < -1 ∨ 6 < w := by
      by_cases q : w < -1
      · exact Or.inl q
      · exact Or.inr (Classical.not_not.mp (fun z => h ⟨q, z⟩))
    refine two_fail R (c_status0 w ?_) (m_status0 w h2) (by decide) (by decide)
    rcases h2 with q | q
    · exact Or.inl q
    · refine Or.inr (fun z => ?_)
      rw [Int32.lt_iff_toInt_lt] at q z
      replace q : 6 < w.toInt := q
      replace z : w.toInt < 7 := z
      omega
theorem tw_sheet (R : Rep ii jj kd) (v b x : Int32) : Two l X 105 205 [vI v, vI b, vI x] ii jj kd := by
  by_cases h : uT v 3 = true ∧ (b = 0 ∨ b = 8 ∨ b = 16 ∨ b = 64)
  · by_cases h1 : x < 0
    · exact two_fail R (c_sheet1 v b x h h1) (m_sheet1 v b x h h1) (by decide) (by decide)
    · by_cases h2 : x ≤ 40
      · obtain ⟨s, hs, rfl⟩ := uT_of (b := 3) (by decide) h.1
        obtain ⟨y, hy, rfl⟩ := nI_of2 (M := 40) (n := 40) (by decide) h1 h2
        have hz : ∃ q, q ≤ 40 ∧ szO b (nI y) = nI q := by
          unfold szO
          split
          · exact ⟨0, by decide, rfl⟩
          · exact ⟨y, hy, rfl⟩
        obtain ⟨q, hq, eq⟩ := hz
        refine two_of (c_sheet s b (nI y) (by omega) h.2 h1 h2) (m_sheet s b (nI y) (by omega) h.2 h1 h2) (by decide) (by decide) (Rep_E R (fun a p1 p2 p3 => by rw [up3_tag p3, up3_tag p2, up3_tag p1, up3_tag p1]) (fun t ht => ?_)) (by rw [up3_tag (by decide), up3_tag (by decide), up3_tag (by decide), up3_tag (by decide)]) (by rw [up3_tag (by decide), up3_tag (by decide)])
        have e31 : up3 (up3 (up3 (up3 ii 23 s 1 b) 23 s 2 (szO b (nI y))) 31 0 s b) 32 0 s (szO b (nI y)) 31 0 t = if t = s then b else ii 31 0 t := by
          rw [up3_tag (by decide)]
          by_cases e : t = s
          · rw [if_pos e, e, up3_rd]
          · rw [if_neg e, up3_pl e, up3_tag (by decide), up3_tag (by decide)]
        have e32 : up3 (up3 (up3 (up3 ii 23 s 1 b) 23 s 2 (szO b (nI y))) 31 0 s b) 32 0 s (szO b (nI y)) 32 0 t = if t = s then szO b (nI y) else ii 32 0 t := by
          by_cases e : t = s
          · rw [if_pos e, e, up3_rd]
          · rw [if_neg e, up3_pl e, up3_tag (by decide), up3_tag (by decide), up3_tag (by decide)]
        have e23 : up3 (up3 (up3 (up3 ii 23 s 1 b) 23 s 2 (szO b (nI y))) 31 0 s b) 32 0 s (szO b (nI y)) 23 = up3 (up3 ii 23 s 1 b) 23 s 2 (szO b (nI y)) 23 := by rw [up3_tag (by decide), up3_tag (by decide)]
        rw [e31, e32, e23]
        by_cases e : t = s
        · rw [if_pos e, if_pos e, e, up3_pl (by decide), up3_rd, up3_rd, eq]
          refine ⟨rfl, h.2, bth.self hq, fun k hk => ?_⟩
          rw [wL_lt hk, wL_tag (by decide), wA_lt hk]
        · obtain ⟨g1, g2, g3, g4⟩ := R.2.2.2.2.1 t ht
          rw [if_neg e, if_neg e, up3_num e, up3_num e, up3_num e, up3_num e]
          refine ⟨g1, g2, g3, fun k hk => ?_⟩
          rw [wL_out (by omega), wL_tag (by decide), wA_ne (fun q => absurd q.1 (by decide)), wA_ne (fun q => e q.2)]
          exact g4 k hk
      · exact two_fail R (c_sheet2 v b x h h1 h2) (m_sheet2 v b x h h1 h2) (by decide) (by decide)
  · exact two_fail R (c_sheet0 v b x h) (m_sheet0 v b x h) (by decide) (by decide)
theorem tw_write (R : Rep ii jj kd) (v i : Int32) (x : Int64) : TwoL l X 106 208 [vI v, vI i, vL x] ii jj kd := by
  cases hv : uT v 3 with
  | false => exact twl_fail R (c_write0 v i x hv) (m_write0 v i x hv) (by decide) (by decide)
  | true =>
    obtain ⟨s, hs, rfl⟩ := uT_of (b := 3) (by decide) hv
    obtain ⟨g1, g2, ⟨z, hz, z1, z2⟩, g4⟩ := R.2.2.2.2.1 s (by omega)
    by_cases hb : ii 23 s 1 = 0
    · exact twl_fail R (c_write1 s i x (by omega) hb) (m_write1 s i x (by omega) (by rw [fnd_tag (by decide), g1]; exact hb)) (by decide) (by decide)
    · by_cases h : ¬ i < 0 ∧ ¬ nI z ≤ i
      · obtain ⟨k, hk, rfl⟩ := in_of (by omega) rfl h
        have hm := m_write (l := l) (X := X) (ii := ii) (jj := up3 jj 24 s k (ctO (ii 23 s 1) x)) (kd := kd) s z k x (by omega) (by rw [g1]; exact hb) z1 hz hk
        rw [show up3 jj 24 s k (ctO (ii 23 s 1) x) 33 0 (40 * s + k) = jj 24 s k by rw [up3_tag (by decide)]; exact g4 k (by omega), g1] at hm
        refine twl_of (c_write s z k x (by omega) hb z2 hz hk) hm (by decide) (by decide) (Rep_E R (fun _ _ _ _ => rfl) (fun t ht => ?_)) rfl rfl
        obtain ⟨f1, f2, f3, f4⟩ := R.2.2.2.2.1 t ht
        refine ⟨f1, f2, f3, fun c hc => ?_⟩
        rw [up3_tag (show (24 : Nat) ≠ 33 by decide)]
        by_cases e : t = s ∧ c = k
        · rw [e.1, e.2, up3_rd, up3_rd]
        · rw [up3_pl (by omega), up3_tag (by decide)]
          unfold up3
          rw [if_neg (fun q => e ⟨q.2.1, q.2.2⟩)]
          exact f4 c hc
      · exact twl_fail R (c_write2 s i x (by omega) hb (by rw [z2]; exact h)) (m_write2 s z i x (by omega) (by rw [fnd_tag (by decide), g1]; exact hb) (by rw [fnd_tag (by decide)]; exact z1) hz h) (by decide) (by decide)
end T1
