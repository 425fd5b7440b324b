/-! CLASS AND MODEL TELL THE SAME -/
/-- two numbers are the same, from 0 to N -/
def bth (u v : Int32) (N : Nat) : Prop := ∃ x, x ≤ N ∧ u = nI x ∧ v = nI x
theorem bth.eq {u v : Int32} {N : Nat} (h : bth u v N) : u = v := by
  obtain ⟨x, _, e1, e2⟩ := h
  rw [e1, e2]
theorem bth.of {u v : Int32} {N x : Nat} (h1 : u = nI x) (h2 : v = nI x) (hx : x ≤ N) : bth u v N := ⟨x, hx, h1, h2⟩
theorem bth.self {x N : Nat} (hx : x ≤ N) : bth (nI x) (nI x) N := ⟨x, hx, rfl, rfl⟩
def liM (c : Nat) : Nat := match c with
  | 0 => 4095
  | 1 => 1
  | _ => 9999
/-- a shop of the class (its numbers c, pledges P, freshness F, heads H, kinds) and a row of the model -/
def ShR (c : Nat → Int32) (P F H : Nat → Nat → Int32) (kd : Nat → Nat) (hb db : Nat) (m : Nat → Int32) (n d : Nat) : Prop :=
  (n ≤ 8 ∧ d ≤ 6) ∧ (m 2 = nI n ∧ c 2 = nI n) ∧ (m 3 = nI d ∧ c 3 = nI d) ∧ bth (m 0) (c 4) 9999 ∧ bth (m 1) (c 5) 1 ∧
  (∀ i, i < n → (kd (i + hb) < 6 ∧ m (4 + 14 * i) = nI (kd (i + hb))) ∧ bth (m (5 + 14 * i)) (P (i + hb) 2) 99 ∧ ∀ t, t < 12 → bth (m (6 + 14 * i + t)) (F (i + hb) t) 9) ∧
  ∀ j, j < d → ∀ k, k < 3 → bth (m (116 + 3 * j + k)) (H (j + db) k) (liM k)
theorem ShR_c {c c' : Nat → Int32} {P F H P' F' H' : Nat → Nat → Int32} {kd kd' : Nat → Nat} {hb db : Nat} {m m' : Nat → Int32} {n d : Nat} (h : ShR c P F H kd hb db m n d) (ec : ∀ k, k < 6 → c' k = c k) (eP : ∀ i, i < n → P' (i + hb) 2 = P (i + hb) 2) (eF : ∀ i, i < n → ∀ t, t < 12 → F' (i + hb) t = F (i + hb) t) (eH : ∀ j, j < d → ∀ k, k < 3 → H' (j + db) k = H (j + db) k) (ek : ∀ i, i < n → kd' (i + hb) = kd (i + hb)) (em : ∀ k, k < 134 → m' k = m k) : ShR c' P' F' H' kd' hb db m' n d := by
  obtain ⟨h1, h2, h3, h4, h5, h6, h7⟩ := h
  refine ⟨h1, ?_, ?_, ?_, ?_, fun i hi => ?_, fun j hj k hk => ?_⟩
  · rw [em 2 (by decide), ec 2 (by decide)]; exact h2
  · rw [em 3 (by decide), ec 3 (by decide)]; exact h3
  · rw [em 0 (by decide), ec 4 (by decide)]; exact h4
  · rw [em 1 (by decide), ec 5 (by decide)]; exact h5
  · obtain ⟨q1, q2, q3⟩ := h6 i hi
    rw [ek i hi, em _ (by omega), em _ (by omega), eP i hi]
    refine ⟨q1, q2, fun t ht => ?_⟩
    rw [em _ (by omega), eF i hi t ht]
    exact q3 t ht
  · rw [em _ (by omega), eH j hj k hk]
    exact h7 j hj k hk
def fndR (f g : Nat → Int32) : Prop := ∀ k, k < 7 → f k = g k
def tapR (cz mz : Int32) (cb mb : Nat → Int32) : Prop := ∃ z, z ≤ 120 ∧ cz = nI z ∧ mz = nI z ∧ ∀ k, k < z → bth (mb k) (cb k) 255
def shtR (mb mz : Nat → Int32) (S : Nat → Nat → Int32) (mc : Nat → Int64) (C : Nat → Nat → Int64) : Prop := ∀ s, s < 4 → mb s = S s 1 ∧ (S s 1 = 0 ∨ S s 1 = 8 ∨ S s 1 = 16 ∨ S s 1 = 64) ∧ bth (mz s) (S s 2) 40 ∧ ∀ k, k < 40 → mc (40 * s + k) = C s k
def kepR (mk ck : Int32) (c : Nat → Int32) (P F H : Nat → Nat → Int32) (kd : Nat → Nat) (m : Nat → Int32) : Prop := bth mk ck 1 ∧ (¬ ck = 0 → ∃ n d, ShR c P F H kd 8 6 m n d)
def numR (ii : Nat → Nat → Nat → Int32) : Prop := ∀ c, c < 6 → ii (c + 11) 0 0 = nI c
/-- the picture holds class and model in the same state -/
def Rep (ii : Nat → Nat → Nat → Int32) (jj : Nat → Nat → Nat → Int64) (kd : Nat → Nat) : Prop :=
  (∃ n d, ShR (ii 17 0) (ii 20) (ii 21) (ii 22) kd 0 0 (ii 26 0) n d) ∧ fndR (ii 10 0) (ii 29 0) ∧ tapR (ii 7 0 1) (ii 25 0 6) (ii 8 0) (ii 30 0) ∧ kepR (ii 25 0 3) (ii 5 0 9) (ii 17 1) (ii 20) (ii 21) (ii 22) kd (ii 27 0) ∧ shtR (ii 31 0) (ii 32 0) (ii 23) (jj 33 0) (jj 24) ∧ numR ii
section RP
variable {ii i2 : Nat → Nat → Nat → Int32} {jj j2 : Nat → Nat → Nat → Int64} {kd k2 : Nat → Nat}
/-- the kept shop is as it was -/
theorem kep_c {mk ck : Int32} {c c' : Nat → Int32} {P F H P' F' H' : Nat → Nat → Int32} {m m' : Nat → Int32} (h : kepR mk ck c P F H kd m) (ec : ∀ k, k < 6 → c' k = c k) (eh : ∀ i, 8 ≤ i → i < 16 → P' i 2 = P i 2 ∧ (∀ t, t < 12 → F' i t = F i t) ∧ k2 i = kd i) (ed : ∀ j, 6 ≤ j → j < 12 → ∀ k, k < 3 → H' j k = H j k) (em : ∀ k, k < 134 → m' k = m k) : kepR mk ck c' P' F' H' k2 m' := by
  refine ⟨h.1, fun q => ?_⟩
  obtain ⟨n, d, S⟩ := h.2 q
  have n8 := S.1.1
  have d6 := S.1.2
  exact ⟨n, d, ShR_c S ec (fun i hi => (eh _ (by omega) (by omega)).1) (fun i hi => (eh _ (by omega) (by omega)).2.1) (fun j hj k hk => ed _ (by omega) (by omega) k hk) (fun i hi => (eh _ (by omega) (by omega)).2.2) em⟩
/-- only the shop has changed -/
theorem Rep_A (R : Rep ii jj kd) (h0 : ∀ a, a ≠ 17 → a ≠ 20 → a ≠ 21 → a ≠ 22 → a ≠ 26 → a ≠ 28 → i2 a = ii a) (h1 : ∀ k, k < 6 → i2 17 1 k = ii 17 1 k) (h2 : ∀ i, 8 ≤ i → i < 16 → i2 20 i 2 = ii 20 i 2 ∧ (∀ t, t < 12 → i2 21 i t = ii 21 i t) ∧ k2 i = kd i) (h3 : ∀ j, 6 ≤ j → j < 12 → ∀ k, k < 3 → i2 22 j k = ii 22 j k) (hA : ∃ n d, ShR (i2 17 0) (i2 20) (i2 21) (i2 22) k2 0 0 (i2 26 0) n d) : Rep i2 jj k2 := by
  obtain ⟨-, B, C, D, E, F⟩ := R
  refine ⟨hA, ?_, ?_, ?_, ?_, ?_⟩
  · rw [h0 10 (by decide) (by decide) (by decide) (by decide) (by decide) (by decide), h0 29 (by decide) (by decide) (by decide) (by decide) (by decide) (by decide)]
    exact B
  · rw [h0 7 (by decide) (by decide) (by decide) (by decide) (by decide) (by decide), h0 25 (by decide) (by decide) (by decide) (by decide) (by decide) (by decide), h0 8 (by decide) (by decide) (by decide) (by decide) (by decide) (by decide), h0 30 (by decide) (by decide) (by decide) (by decide) (by decide) (by decide)]
    exact C
  · rw [h0 25 (by decide) (by decide) (by decide) (by decide) (by decide) (by decide), h0 5 (by decide) (by decide) (by decide) (by decide) (by decide) (by decide), h0 27 (by decide) (by decide) (by decide) (by decide) (by decide) (by decide)]
    exact kep_c D h1 h2 h3 (fun _ _ => rfl)
  · rw [h0 31 (by decide) (by decide) (by decide) (by decide) (by decide) (by decide), h0 32 (by decide) (by decide) (by decide) (by decide) (by decide) (by decide), h0 23 (by decide) (by decide) (by decide) (by decide) (by decide) (by decide)]
    exact E
  · intro c hc
    rw [h0 (c + 11) (by omega) (by omega) (by omega) (by omega) (by omega) (by omega)]
    exact F c hc
/-- a finding counted on both sides -/
theorem Rep_fnd (R : Rep ii jj kd) {k : Nat} : Rep (fnm (fnd ii k) k) jj kd := by
  have e : ∀ a, a ≠ 10 → a ≠ 29 → fnm (fnd ii k) k a = ii a := fun a h1 h2 => by
    unfold fnm fnd
    rw [up3_tag h2, up3_tag h1]
  obtain ⟨A, B, C, D, E, F⟩ := R
  refine ⟨?_, ?_, ?_, ?_, ?_, ?_⟩
  · rw [e 17 (by decide) (by decide), e 20 (by decide) (by decide), e 21 (by decide) (by decide), e 22 (by decide) (by decide), e 26 (by decide) (by decide)]
    exact A
  · intro j hj
    unfold fnm fnd
    rw [up3_tag (show (10 : Nat) ≠ 29 by decide), up3_tag (show (29 : Nat) ≠ 10 by decide)]
    unfold up3
    by_cases q : j = k
    · rw [if_pos ⟨rfl, rfl, q⟩, if_pos ⟨rfl, rfl, q⟩, ← q, B j hj]
    · rw [if_neg (fun z => q z.2.2), if_neg (fun z => q z.2.2), B j hj, if_neg (fun z => absurd z.1 (by decide))]
  · rw [e 7 (by decide) (by decide), e 25 (by decide) (by decide), e 8 (by decide) (by decide), e 30 (by decide) (by decide)]
    exact C
  · rw [e 25 (by decide) (by decide), e 5 (by decide) (by decide), e 17 (by decide) (by decide), e 20 (by decide) (by decide), e 21 (by decide) (by decide), e 22 (by decide) (by decide), e 27 (by decide) (by decide)]
    exact D
  · rw [e 31 (by decide) (by decide), e 32 (by decide) (by decide), e 23 (by decide) (by decide)]
    exact E
  · intro c hc
    rw [e (c + 11) (by omega) (by omega)]
    exact F c hc
end RP
/-- a call of both: the answers are the same, and so is the state -/
def Two (l : Launch) (X : FX) (y y' : Nat) (as : List MV) (ii : Nat → Nat → Nat → Int32) (jj : Nat → Nat → Nat → Int64) (kd : Nat → Nat) : Prop :=
  ∃ (r : Int32) (i1 : Nat → Nat → Nat → Int32) (j1 : Nat → Nat → Nat → Int64) (k1 : Nat → Nat) (i2 : Nat → Nat → Nat → Int32) (j2 : Nat → Nat → Nat → Int64) (k2 : Nat → Nat), SK l X 30 y (vR 5 0 :: as) (ii, jj, mj_rk kd, 108) (some (vI r)) (i1, j1, mj_rk k1, 108) ∧ SK l X 30 y' (vR 25 0 :: as) (i1, j1, mj_rk k1, 108) (some (vI r)) (i2, j2, mj_rk k2, 108) ∧ Rep i2 j2 k2 ∧ i2 1 = ii 1 ∧ i1 1 = ii 1
/-- the same, where the answer is a long -/
def TwoL (l : Launch) (X : FX) (y y' : Nat) (as : List MV) (ii : Nat → Nat → Nat → Int32) (jj : Nat → Nat → Nat → Int64) (kd : Nat → Nat) : Prop :=
  ∃ (r : Int64) (i1 : Nat → Nat → Nat → Int32) (j1 : Nat → Nat → Nat → Int64) (k1 : Nat → Nat) (i2 : Nat → Nat → Nat → Int32) (j2 : Nat → Nat → Nat → Int64) (k2 : Nat → Nat), SK l X 30 y (vR 5 0 :: as) (ii, jj, mj_rk kd, 108) (some (vL r)) (i1, j1, mj_rk k1, 108) ∧ SK l X 30 y' (vR 25 0 :: as) (i1, j1, mj_rk k1, 108) (some (vL r)) (i2, j2, mj_rk k2, 108) ∧ Rep i2 j2 k2 ∧ i2 1 = ii 1 ∧ i1 1 = ii 1
section TW
variable {l : Launch} {X : FX} {ii i1 i2 : Nat → Nat → Nat → Int32} {jj j1 j2 : Nat → Nat → Nat → Int64} {kd k1 k2 : Nat → Nat} {y y' d d' k : Nat} {as : List MV} {r : Int32} {q : Int64}
theorem two_of (hc : SK l X d y (vR 5 0 :: as) (ii, jj, mj_rk kd, 108) (some (vI r)) (i1, j1, mj_rk k1, 108)) (hm : SK l X d' y' (vR 25 0 :: as) (i1, j1, mj_rk k1, 108) (some (vI r)) (i2, j2, mj_rk k2, 108)) (hd : d ≤ 30) (hd' : d' ≤ 30) (R : Rep i2 j2 k2) (e2 : i2 1 = ii 1) (e1 : i1 1 = ii 1) : Two l X y y' as ii jj kd := ⟨r, i1, j1, k1, i2, j2, k2, hc.up hd, hm.up hd', R, e2, e1⟩
theorem two_fail (R : Rep ii jj kd) (hc : SK l X d y (vR 5 0 :: as) (ii, jj, mj_rk kd, 108) (some (vI r)) (fnd ii k, jj, mj_rk kd, 108)) (hm : SK l X d' y' (vR 25 0 :: as) (fnd ii k, jj, mj_rk kd, 108) (some (vI r)) (fnm (fnd ii k) k, jj, mj_rk kd, 108)) (hd : d ≤ 30) (hd' : d' ≤ 30) : Two l X y y' as ii jj kd :=
  two_of hc hm hd hd' (Rep_fnd R) (by unfold fnm fnd; rw [up3_tag (by decide), up3_tag (by decide)]) (by unfold fnd; rw [up3_tag (by decide)])
theorem twl_of (hc : SK l X d y (vR 5 0 :: as) (ii, jj, mj_rk kd, 108) (some (vL q)) (i1, j1, mj_rk k1, 108)) (hm : SK l X d' y' (vR 25 0 :: as) (i1, j1, mj_rk k1, 108) (some (vL q)) (i2, j2, mj_rk k2, 108)) (hd : d ≤ 30) (hd' : d' ≤ 30) (R : Rep i2 j2 k2) (e2 : i2 1 = ii 1) (e1 : i1 1 = ii 1) : TwoL l X y y' as ii jj kd := ⟨q, i1, j1, k1, i2, j2, k2, hc.up hd, hm.up hd', R, e2, e1⟩
theorem twl_fail (R : Rep ii jj kd) (hc : SK l X d y (vR 5 0 :: as) (ii, jj, mj_rk kd, 108) (some (vL q)) (fnd ii k, jj, mj_rk kd, 108)) (hm : SK l X d' y' (vR 25 0 :: as) (fnd ii k, jj, mj_rk kd, 108) (some (vL q)) (fnm (fnd ii k) k, jj, mj_rk kd, 108)) (hd : d ≤ 30) (hd' : d' ≤ 30) : TwoL l X y y' as ii jj kd :=
  twl_of hc hm hd hd' (Rep_fnd R) (by unfold fnm fnd; rw [up3_tag (by decide), up3_tag (by decide)]) (by unfold fnd; rw [up3_tag (by decide)])
theorem fnd_tag {a : Nat} (h : a ≠ 10) : fnd ii k a = ii a := up3_tag h
theorem fnm_tag {a : Nat} (h : a ≠ 29) : fnm ii k a = ii a := up3_tag h
end TW
