/-! ROWS OF HATS: the model -/
def arP (n a b c : Nat) : Bool := decide (a ≤ n ∧ b ≤ n ∧ c ≤ n)
def twP (a b c : Nat) : Bool := decide ((0 < a ∧ (a = b ∨ a = c)) ∨ (0 < b ∧ b = c))
def gpP (a b c : Nat) : Bool := decide ((a = 0 ∧ 0 < b) ∨ (b = 0 ∧ 0 < c))
def ct1 (a : Nat) : Nat := if 0 < a then 1 else 0
/-- how many hats a row has, by its three digits -/
def hiN (n a b c : Nat) : Option Nat := cond (arP n a b c && !twP a b c && !gpP a b c) (some (ct1 a + ct1 b + ct1 c)) none
/-- what is had behind a hat of a row (0: none) -/
def hv (T : Nat → Int32 → Int32) (a : Nat) (x : Int32) : Int32 := match a with
  | 0 => x
  | a + 1 => x ||| T a x
theorem hv_0 {T : Nat → Int32 → Int32} {a : Nat} {x : Int32} (h : a = 0) : hv T a x = x := by rw [h]; rfl
theorem hv_p {T : Nat → Int32 → Int32} {a : Nat} {x : Int32} (h : 0 < a) : hv T a x = x ||| T (a - 1) x := by
  match a, h with
  | a + 1, _ => rfl
def mTT (ii : Nat → Nat → Nat → Int32) (K : Nat → Nat) (h : Nat) (x : Int32) : Int32 := mT ii (K h) h x
theorem nle0 {a : Nat} (h : a < 2 ^ 31) : nI a ≤ 0 ↔ a = 0 := by
  rw [show (0 : Int32) = nI 0 from rfl, nI_leI h (by decide)]
  omega
theorem nlt0 {a : Nat} (h : a < 2 ^ 31) : 0 < nI a ↔ 0 < a := by
  rw [show (0 : Int32) = nI 0 from rfl, nI_ltI (by decide) h]
theorem ne0 {a : Nat} (h : a < 2 ^ 31) : nI a = 0 ↔ a = 0 := by
  rw [show (0 : Int32) = nI 0 from rfl, nI_eq h (by decide)]
theorem nle0n {a : Nat} (h : a < 2 ^ 31) (d : ¬ nI a ≤ 0) : 0 < a := Nat.pos_of_ne_zero (fun z => d ((nle0 h).mpr z))
theorem ne0n {a : Nat} (h : a < 2 ^ 31) (d : ¬ nI a = 0) : a ≠ 0 := fun z => d ((ne0 h).mpr z)
theorem nlt0n {a : Nat} (h : a < 2 ^ 31) (d : ¬ 0 < nI a) : ¬ 0 < a := fun z => d ((nlt0 h).mpr z)
theorem neqn {a b : Nat} (ha : a < 2 ^ 31) (hb : b < 2 ^ 31) (d : ¬ nI a = nI b) : a ≠ b := fun z => d ((nI_eq ha hb).mpr z)
section MQ
variable {l : Launch} {X : FX} {ii : Nat → Nat → Nat → Int32} {jj : Nat → Nat → Nat → Int64} {kd : Nat → Nat}
theorem m_hi4 (r : Int32) (a b c : Nat) (ha : a < 10) (hb : b < 10) (hc : c < 10) (p t g : Bool) : GB l X 2 0 0 184 (128, [some (vR 25 0), some (vI r), some (vI (nI a)), some (vI (nI b)), some (vI (nI c)), some (vI (bI p)), some (vI (bI t)), some (vI (bI g))], [], (ii, jj, mj_rk kd, 108)) (some (vI (oI (cond (p && !t && !g) (some (ct1 a + ct1 b + ct1 c)) none)))) (ii, jj, mj_rk kd, 108) := by
  have no : GB l X 2 0 0 184 (143, [some (vR 25 0), some (vI r), some (vI (nI a)), some (vI (nI b)), some (vI (nI c)), some (vI (bI p)), some (vI (bI t)), some (vI (bI g))], [], (ii, jj, mj_rk kd, 108)) (some (vI (oI none))) (ii, jj, mj_rk kd, 108) := by
    refine GB.go 9999 rfl aB0 ?_
    exact GB.ret rfl rfl aB0
  have k3 : ∀ x : Nat, GB l X 2 0 0 184 (166, [some (vR 25 0), some (vI r), some (vI (nI a)), some (vI (nI b)), some (vI (nI c)), some (vI (bI p)), some (vI (bI t)), some (vI (bI g))], [vI (nI x)], (ii, jj, mj_rk kd, 108)) (some (vI (nI (x + ct1 c)))) (ii, jj, mj_rk kd, 108) := fun x => by
    unfold ct1
    refine GB.go 9999 rfl aB0 ?_
    refine GB.br rfl rfl (fun d => ?_) (fun d => ?_)
    · rw [if_neg (by have := (nle0 (show c < 2 ^ 31 by omega)).mp d; omega)]
      refine GB.go 177 rfl aB0 ?_
      rw [show nI x + 0 = nI (x + 0) from nI_add x 0]
      exact GB.ret rfl rfl aB0
    · rw [if_pos (by have := nle0n (show c < 2 ^ 31 by omega) d; omega)]
      refine GB.go 177 rfl aB0 ?_
      rw [show nI x + 1 = nI (x + 1) from nI_add x 1]
      exact GB.ret rfl rfl aB0
  have k2 : ∀ x : Nat, GB l X 2 0 0 184 (156, [some (vR 25 0), some (vI r), some (vI (nI a)), some (vI (nI b)), some (vI (nI c)), some (vI (bI p)), some (vI (bI t)), some (vI (bI g))], [vI (nI x)], (ii, jj, mj_rk kd, 108)) (some (vI (nI (x + ct1 b + ct1 c)))) (ii, jj, mj_rk kd, 108) := fun x => by
    have q := fun y => k3 (x + y)
    refine GB.go 9999 rfl aB0 ?_
    refine GB.br rfl rfl (fun d => ?_) (fun d => ?_)
    · rw [show ct1 b = 0 from if_neg (by have := (nle0 (show b < 2 ^ 31 by omega)).mp d; omega)]
      refine GB.go 166 rfl aB0 ?_
      rw [show nI x + 0 = nI (x + 0) from nI_add x 0]
      exact q 0
    · rw [show ct1 b = 1 from if_pos (by have := nle0n (show b < 2 ^ 31 by omega) d; omega)]
      refine GB.go 166 rfl aB0 ?_
      rw [show nI x + 1 = nI (x + 1) from nI_add x 1]
      exact q 1
  refine GB.go 9999 rfl aB0 ?_
  refine GB.br rfl rfl (fun c1 => ?_) (fun c1 => ?_)
  · rw [show (p && !t && !g) = false by rw [bI_f c1]; rfl]
    exact no
  · refine GB.go 9999 rfl aB0 ?_
    refine GB.br rfl rfl (fun c2 => ?_) (fun c2 => ?_)
    · refine GB.go 9999 rfl aB0 ?_
      refine GB.br rfl rfl (fun c3 => ?_) (fun c3 => ?_)
      · rw [show (p && !t && !g) = true by rw [bI_t c1, bI_f c2, bI_f c3]; rfl]
        refine GB.go 9999 rfl aB0 ?_
        refine GB.br rfl rfl (fun d => ?_) (fun d => ?_)
        · rw [show ct1 a = 0 from if_neg (by have := (nle0 (show a < 2 ^ 31 by omega)).mp d; omega)]
          refine GB.go 156 rfl aB0 ?_
          exact k2 0
        · rw [show ct1 a = 1 from if_pos (by have := nle0n (show a < 2 ^ 31 by omega) d; omega)]
          refine GB.go 156 rfl aB0 ?_
          exact k2 1
      · rw [show (p && !t && !g) = false by rw [bI_t c3, Bool.not_true, Bool.and_false]]
        exact no
    · rw [show (p && !t && !g) = false by rw [bI_t c2, Bool.not_true, Bool.and_false, Bool.false_and]]
      exact no
theorem m_hi3 (r : Int32) (a b c : Nat) (ha : a < 10) (hb : b < 10) (hc : c < 10) (p t : Bool) : GB l X 2 0 0 184 (104, [some (vR 25 0), some (vI r), some (vI (nI a)), some (vI (nI b)), some (vI (nI c)), some (vI (bI p)), some (vI (bI t)), none], [], (ii, jj, mj_rk kd, 108)) (some (vI (oI (cond (p && !t && !gpP a b c) (some (ct1 a + ct1 b + ct1 c)) none)))) (ii, jj, mj_rk kd, 108) := by
  have Y := fun g => m_hi4 (l := l) (X := X) (ii := ii) (jj := jj) (kd := kd) r a b c ha hb hc p t g
  have yes : gpP a b c = true → GB l X 2 0 0 184 (121, [some (vR 25 0), some (vI r), some (vI (nI a)), some (vI (nI b)), some (vI (nI c)), some (vI (bI p)), some (vI (bI t)), none], [], (ii, jj, mj_rk kd, 108)) (some (vI (oI (cond (p && !t && !gpP a b c) (some (ct1 a + ct1 b + ct1 c)) none)))) (ii, jj, mj_rk kd, 108) := fun h => by
    rw [h]
    refine GB.go 128 rfl aB0 ?_
    exact Y true
  have no : gpP a b c = false → GB l X 2 0 0 184 (125, [some (vR 25 0), some (vI r), some (vI (nI a)), some (vI (nI b)), some (vI (nI c)), some (vI (bI p)), some (vI (bI t)), none], [], (ii, jj, mj_rk kd, 108)) (some (vI (oI (cond (p && !t && !gpP a b c) (some (ct1 a + ct1 b + ct1 c)) none)))) (ii, jj, mj_rk kd, 108) := fun h => by
    rw [h]
    refine GB.go 128 rfl aB0 ?_
    exact Y false
  have mid : ¬ (a = 0 ∧ 0 < b) → GB l X 2 0 0 184 (112, [some (vR 25 0), some (vI r), some (vI (nI a)), some (vI (nI b)), some (vI (nI c)), some (vI (bI p)), some (vI (bI t)), none], [], (ii, jj, mj_rk kd, 108)) (some (vI (oI (cond (p && !t && !gpP a b c) (some (ct1 a + ct1 b + ct1 c)) none)))) (ii, jj, mj_rk kd, 108) := fun h => by
    refine GB.go 9999 rfl aB0 ?_
    refine GB.br rfl rfl (fun c1 => ?_) (fun c1 => ?_)
    · have b0 := (ne0 (show b < 2 ^ 31 by omega)).mp c1
      refine GB.go 9999 rfl aB0 ?_
      refine GB.br rfl rfl (fun c2 => ?_) (fun c2 => ?_)
      · have := (nle0 (show c < 2 ^ 31 by omega)).mp c2
        exact no (decide_eq_false (by omega))
      · have := nle0n (show c < 2 ^ 31 by omega) c2
        exact yes (decide_eq_true (by omega))
    · have := ne0n (show b < 2 ^ 31 by omega) c1
      exact no (decide_eq_false (by omega))
  refine GB.go 9999 rfl aB0 ?_
  refine GB.br rfl rfl (fun c1 => ?_) (fun c1 => ?_)
  · have a0 := (ne0 (show a < 2 ^ 31 by omega)).mp c1
    refine GB.go 9999 rfl aB0 ?_
    refine GB.br rfl rfl (fun c2 => ?_) (fun c2 => ?_)
    · have := (nlt0 (show b < 2 ^ 31 by omega)).mp c2
      exact yes (decide_eq_true (by omega))
    · have := nlt0n (show b < 2 ^ 31 by omega) c2
      exact mid (by omega)
  · have := ne0n (show a < 2 ^ 31 by omega) c1
    exact mid (by omega)
theorem m_hi2 (r : Int32) (a b c : Nat) (ha : a < 10) (hb : b < 10) (hc : c < 10) (p : Bool) : GB l X 2 0 0 184 (72, [some (vR 25 0), some (vI r), some (vI (nI a)), some (vI (nI b)), some (vI (nI c)), some (vI (bI p)), none, none], [], (ii, jj, mj_rk kd, 108)) (some (vI (oI (cond (p && !twP a b c && !gpP a b c) (some (ct1 a + ct1 b + ct1 c)) none)))) (ii, jj, mj_rk kd, 108) := by
  have Y := fun t => m_hi3 (l := l) (X := X) (ii := ii) (jj := jj) (kd := kd) r a b c ha hb hc p t
  have yes : twP a b c = true → GB l X 2 0 0 184 (97, [some (vR 25 0), some (vI r), some (vI (nI a)), some (vI (nI b)), some (vI (nI c)), some (vI (bI p)), none, none], [], (ii, jj, mj_rk kd, 108)) (some (vI (oI (cond (p && !twP a b c && !gpP a b c) (some (ct1 a + ct1 b + ct1 c)) none)))) (ii, jj, mj_rk kd, 108) := fun h => by
    rw [h]
    refine GB.go 104 rfl aB0 ?_
    exact Y true
  have no : twP a b c = false → GB l X 2 0 0 184 (101, [some (vR 25 0), some (vI r), some (vI (nI a)), some (vI (nI b)), some (vI (nI c)), some (vI (bI p)), none, none], [], (ii, jj, mj_rk kd, 108)) (some (vI (oI (cond (p && !twP a b c && !gpP a b c) (some (ct1 a + ct1 b + ct1 c)) none)))) (ii, jj, mj_rk kd, 108) := fun h => by
    rw [h]
    refine GB.go 104 rfl aB0 ?_
    exact Y false
  have mid : ¬ (0 < a ∧ (a = b ∨ a = c)) → GB l X 2 0 0 184 (87, [some (vR 25 0), some (vI r), some (vI (nI a)), some (vI (nI b)), some (vI (nI c)), some (vI (bI p)), none, none], [], (ii, jj, mj_rk kd, 108)) (some (vI (oI (cond (p && !twP a b c && !gpP a b c) (some (ct1 a + ct1 b + ct1 c)) none)))) (ii, jj, mj_rk kd, 108) := fun h => by
    refine GB.go 9999 rfl aB0 ?_
    refine GB.br rfl rfl (fun c1 => ?_) (fun c1 => ?_)
    · have := (nle0 (show b < 2 ^ 31 by omega)).mp c1
      exact no (decide_eq_false (by omega))
    · have b0 := nle0n (show b < 2 ^ 31 by omega) c1
      refine GB.go 9999 rfl aB0 ?_
      refine GB.br rfl rfl (fun c2 => ?_) (fun c2 => ?_)
      · have := (nI_eq (show b < 2 ^ 31 by omega) (show c < 2 ^ 31 by omega)).mp c2
        exact yes (decide_eq_true (by omega))
      · have := neqn (show b < 2 ^ 31 by omega) (show c < 2 ^ 31 by omega) c2
        exact no (decide_eq_false (by omega))
  refine GB.go 9999 rfl aB0 ?_
  refine GB.br rfl rfl (fun c1 => ?_) (fun c1 => ?_)
  · have := (nle0 (show a < 2 ^ 31 by omega)).mp c1
    exact mid (by omega)
  · have a0 := nle0n (show a < 2 ^ 31 by omega) c1
    refine GB.go 9999 rfl aB0 ?_
    refine GB.br rfl rfl (fun c2 => ?_) (fun c2 => ?_)
    · have := (nI_eq (show a < 2 ^ 31 by omega) (show b < 2 ^ 31 by omega)).mp c2
      exact yes (decide_eq_true (by omega))
    · have ab := neqn (show a < 2 ^ 31 by omega) (show b < 2 ^ 31 by omega) c2
      refine GB.go 9999 rfl aB0 ?_
      refine GB.br rfl rfl (fun c3 => ?_) (fun c3 => ?_)
      · have := (nI_eq (show a < 2 ^ 31 by omega) (show c < 2 ^ 31 by omega)).mp c3
        exact yes (decide_eq_true (by omega))
      · have := neqn (show a < 2 ^ 31 by omega) (show c < 2 ^ 31 by omega) c3
        exact mid (by omega)
theorem uT_iff {a n : Nat} (ha : a < 2 ^ 31) (hn : n < 2 ^ 31) : uT (nI a) (nI n) = decide (a ≤ n) := by
  by_cases h : a ≤ n
  · rw [uT_ok h hn, decide_eq_true h]
  · rw [decide_eq_false h]
    exact decide_eq_false (fun q => q.2 (nI_lt (by omega) ha))
theorem m_hatsIn (r n : Nat) (hr : r < 1000) (hn : n ≤ 8) (h0 : ii 26 0 2 = nI n) : SK l X 2 184 [vR 25 0, vI (nI r)] (ii, jj, mj_rk kd, 108) (some (vI (oI (hiN n (r / 100) (r / 10 % 10) (r % 10))))) (ii, jj, mj_rk kd, 108) := by
  unfold hiN
  have Y := fun p => m_hi2 (l := l) (X := X) (ii := ii) (jj := jj) (kd := kd) (nI r) (r / 100) (r / 10 % 10) (r % 10) (by omega) (by omega) (by omega) p
  have e1 : nI r / 100 = nI (r / 100) := pk_div (by omega) (by decide) (by decide)
  have e2 : nI r / 10 = nI (r / 10) := pk_div (by omega) (by decide) (by decide)
  have e3 : nI (r / 10) - nI (r / 10) / 10 * 10 = nI (r / 10 % 10) := pk_rem (by omega) (by decide) (by decide)
  have e4 : nI r - nI r / 10 * 10 = nI (r % 10) := pk_rem (by omega) (by decide) (by decide)
  refine SK.of (by decide) (by decide) rfl ?_
  refine GB.go 4 rfl (aB1 (by decide) aB0) ?_
  rw [e1]
  refine GB.go 9 rfl (aB1 (by decide) aB0) ?_
  rw [e2]
  refine GB.go 12 rfl (aB1 (by decide) aB0) ?_
  rw [e3]
  refine GB.go 17 rfl (aB1 (by decide) aB0) ?_
  rw [e4]
  have no : arP n (r / 100) (r / 10 % 10) (r % 10) = false → GB l X 2 0 0 184 (69, [some (vR 25 0), some (vI (nI r)), some (vI (nI (r / 100))), some (vI (nI (r / 10 % 10))), some (vI (nI (r % 10))), none, none, none], [], (ii, jj, mj_rk kd, 108)) (some (vI (oI (cond (arP n (r / 100) (r / 10 % 10) (r % 10) && !twP (r / 100) (r / 10 % 10) (r % 10) && !gpP (r / 100) (r / 10 % 10) (r % 10)) (some (ct1 (r / 100) + ct1 (r / 10 % 10) + ct1 (r % 10))) none)))) (ii, jj, mj_rk kd, 108) := fun h => by
    rw [h]
    refine GB.go 72 rfl aB0 ?_
    exact Y false
  refine GB.go 28 rfl (aB1 (by decide) aB0) ?_
  rw [show ii 26 0 (Int32.toNatClampNeg 2) = nI n from h0]
  refine GB.cal rfl rfl (by decide) (m_up _ _ _) ?_
  rw [uT_iff (by omega) (by omega)]
  refine GB.br rfl rfl (fun c1 => ?_) (fun c1 => ?_)
  · have := bd_f c1
    exact no (decide_eq_false (by omega))
  · have q1 := bd_t c1
    refine GB.go 43 rfl (aB1 (by decide) aB0) ?_
    rw [show ii 26 0 (Int32.toNatClampNeg 2) = nI n from h0]
    refine GB.cal rfl rfl (by decide) (m_up _ _ _) ?_
    rw [uT_iff (by omega) (by omega)]
    refine GB.br rfl rfl (fun c2 => ?_) (fun c2 => ?_)
    · have := bd_f c2
      exact no (decide_eq_false (by omega))
    · have q2 := bd_t c2
      refine GB.go 59 rfl (aB1 (by decide) aB0) ?_
      rw [show ii 26 0 (Int32.toNatClampNeg 2) = nI n from h0]
      refine GB.cal rfl rfl (by decide) (m_up _ _ _) ?_
      rw [uT_iff (by omega) (by omega)]
      refine GB.br rfl rfl (fun c3 => ?_) (fun c3 => ?_)
      · have := bd_f c3
        exact no (decide_eq_false (by omega))
      · have q3 := bd_t c3
        rw [show arP n (r / 100) (r / 10 % 10) (r % 10) = true from decide_eq_true ⟨q1, q2, q3⟩]
        refine GB.go 72 rfl aB0 ?_
        exact Y true
theorem m_hasBy (r n : Nat) {K : Nat → Nat} (x : Int32) (hr : r < 1000) (hn : n ≤ 8) (ha : r / 100 ≤ n) (hb : r / 10 % 10 ≤ n) (hc : r % 10 ≤ n) (hK : ∀ i, i < n → K i < 6 ∧ ii 26 0 (4 + 14 * i) = nI (K i)) : SK l X 4 183 [vR 25 0, vI x, vI (nI r)] (ii, jj, mj_rk kd, 108) (some (vI (hv (mTT ii K) (r % 10) (hv (mTT ii K) (r / 10 % 10) (hv (mTT ii K) (r / 100) x))))) (ii, jj, mj_rk kd, 108) := by
  have e1 : nI r / 100 = nI (r / 100) := pk_div (by omega) (by decide) (by decide)
  have e2 : nI r / 10 = nI (r / 10) := pk_div (by omega) (by decide) (by decide)
  have e3 : nI (r / 10) - nI (r / 10) / 10 * 10 = nI (r / 10 % 10) := pk_rem (by omega) (by decide) (by decide)
  have e4 : nI r - nI r / 10 * 10 = nI (r % 10) := pk_rem (by omega) (by decide) (by decide)
  have nx : ∀ q : Nat, 0 < q → nI q - 1 = nI (q - 1) := fun q hq => by
    rw [show (1 : Int32) = nI 1 from rfl, pk_sub (by omega)]
  have s3 : ∀ y : Int32, GB l X 4 0 0 183 (58, [some (vR 25 0), some (vI x), some (vI (nI r)), some (vI y)], [], (ii, jj, mj_rk kd, 108)) (some (vI (hv (mTT ii K) (r % 10) y))) (ii, jj, mj_rk kd, 108) := fun y => by
    refine GB.go 62 rfl (aB1 (by decide) aB0) ?_
    rw [e4]
    refine GB.br rfl rfl (fun c => ?_) (fun c => ?_)
    · rw [hv_0 ((nle0 (show r % 10 < 2 ^ 31 by omega)).mp c)]
      refine GB.go 9999 rfl aB0 ?_
      exact GB.ret rfl rfl aB0
    · have q : 0 < r % 10 := by have := nle0n (show r % 10 < 2 ^ 31 by omega) c; omega
      rw [hv_p q]
      refine GB.go 71 rfl (aB1 (by decide) aB0) ?_
      rw [e4]
      refine GB.go 73 rfl aB0 ?_
      rw [nx _ q]
      refine GB.go 9999 rfl aB0 ?_
      refine GB.cal rfl rfl (by decide) (m_takesOf (r % 10 - 1) (K (r % 10 - 1)) (by omega) (hK _ (by omega)).1 (hK _ (by omega)).2 y) ?_
      refine GB.go 9999 rfl aB0 ?_
      exact GB.ret rfl rfl aB0
  have s2 : ∀ y : Int32, GB l X 4 0 0 183 (27, [some (vR 25 0), some (vI x), some (vI (nI r)), some (vI y)], [], (ii, jj, mj_rk kd, 108)) (some (vI (hv (mTT ii K) (r % 10) (hv (mTT ii K) (r / 10 % 10) y)))) (ii, jj, mj_rk kd, 108) := fun y => by
    refine GB.go 31 rfl (aB1 (by decide) aB0) ?_
    rw [e2]
    refine GB.go 34 rfl (aB1 (by decide) aB0) ?_
    rw [e3]
    refine GB.br rfl rfl (fun c => ?_) (fun c => ?_)
    · rw [hv_0 ((nle0 (show r / 10 % 10 < 2 ^ 31 by omega)).mp c)]
      refine GB.go 58 rfl aB0 ?_
      exact s3 y
    · have q : 0 < r / 10 % 10 := by have := nle0n (show r / 10 % 10 < 2 ^ 31 by omega) c; omega
      rw [hv_p q]
      refine GB.go 43 rfl (aB1 (by decide) aB0) ?_
      rw [e2]
      refine GB.go 46 rfl (aB1 (by decide) aB0) ?_
      rw [e3]
      refine GB.go 48 rfl aB0 ?_
      rw [nx _ q]
      refine GB.go 9999 rfl aB0 ?_
      refine GB.cal rfl rfl (by decide) (m_takesOf (r / 10 % 10 - 1) (K (r / 10 % 10 - 1)) (by omega) (hK _ (by omega)).1 (hK _ (by omega)).2 y) ?_
      refine GB.go 58 rfl aB0 ?_
      exact s3 _
  refine SK.of (by decide) (by decide) rfl ?_
  refine GB.go 6 rfl (aB1 (by decide) aB0) ?_
  rw [e1]
  refine GB.br rfl rfl (fun c => ?_) (fun c => ?_)
  · rw [hv_0 ((nle0 (show r / 100 < 2 ^ 31 by omega)).mp c)]
    refine GB.go 27 rfl aB0 ?_
    exact s2 x
  · have q : 0 < r / 100 := by have := nle0n (show r / 100 < 2 ^ 31 by omega) c; omega
    rw [hv_p q]
    refine GB.go 15 rfl (aB1 (by decide) aB0) ?_
    rw [e1]
    refine GB.go 17 rfl aB0 ?_
    rw [nx _ q]
    refine GB.go 9999 rfl aB0 ?_
    refine GB.cal rfl rfl (by decide) (m_takesOf (r / 100 - 1) (K (r / 100 - 1)) (by omega) (hK _ (by omega)).1 (hK _ (by omega)).2 x) ?_
    refine GB.go 27 rfl aB0 ?_
    exact s2 _
theorem hiN_le {n a b c k : Nat} (h : hiN n a b c = some k) : a ≤ n ∧ b ≤ n ∧ c ≤ n := by
  unfold hiN at h
  cases e : arP n a b c with
  | true => exact of_decide_eq_true e
  | false =>
    rw [e, Bool.false_and, Bool.false_and] at h
    cases h
theorem oI_eq {o : Option Nat} {k : Nat} (hk : k < 2 ^ 31) (ho : ∀ x, o = some x → x < 2 ^ 31) : oI o = nI k ↔ o = some k := by
  cases o with
  | none =>
    constructor
    · intro h
      have h2 : ¬ nI k < 0 := nI_pos hk
      rw [← h] at h2
      exact absurd (show (-1 : Int32) < 0 by decide) h2
    · intro h
      cases h
  | some x =>
    constructor
    · intro h
      rw [(nI_eq (ho x rfl) hk).mp h]
    · intro h
      cases h
      rfl
theorem hiN_3 {n a b c k : Nat} (h : hiN n a b c = some k) : k ≤ 3 := by
  unfold hiN at h
  cases e : (arP n a b c && !twP a b c && !gpP a b c) with
  | true =>
    rw [e] at h
    cases h
    unfold ct1
    split <;> split <;> split <;> omega
  | false =>
    rw [e] at h
    cases h
/-- what is had behind a row, by its code; the rows that are asked for -/
def rwH (T : Nat → Int32 → Int32) (x : Int32) (r : Nat) : Int32 := hv T (r % 10) (hv T (r / 10 % 10) (hv T (r / 100) x))
def roP (T : Nat → Int32 → Int32) (n : Nat) (x set : Int32) (k r : Nat) : Bool := decide (hiN n (r / 100) (r / 10 % 10) (r % 10) = some k ∧ set &&& (rwH T x r ^^^ -1) = 0)
def rsP (T : Nat → Int32 → Int32) (n : Nat) (x set : Int32) (k r : Nat) : Bool := decide (hiN n (r / 100) (r / 10 % 10) (r % 10) = some k ∧ rwH T x r = set)
theorem m_row0 (v t : Int32) {n : Nat} (hn : n ≤ 6) (h0 : ii 26 0 3 = nI n) (h : ¬ ((¬ v < 0 ∧ ¬ nI n ≤ v) ∧ uT t 4095 = true)) : SK l X 8 185 [vR 25 0, vI v, vI t] (ii, jj, mj_rk kd, 108) (some (vI (fA 0))) (fnm ii 0, jj, mj_rk kd, 108) := by
  refine SK.of (by decide) (by decide) rfl ?_
  have tail : GB l X 8 0 0 185 (15, [some (vR 25 0), some (vI v), some (vI t), none, none], [], (ii, jj, mj_rk kd, 108)) (some (vI (fA 0))) (fnm ii 0, jj, mj_rk kd, 108) := by
    refine GB.go 9999 rfl aB0 ?_
    refine GB.cal rfl rfl (by decide) (m_finds 0 (by decide)) ?_
    exact GB.ret rfl rfl aB0
  refine GB.go 9999 rfl aB0 ?_
  refine GB.cal rfl rfl (by decide) (m_isHead v hn h0) ?_
  refine GB.br rfl rfl (fun c => ?_) (fun c => ?_)
  · exact tail
  · refine GB.go 9999 rfl aB0 ?_
    refine GB.cal rfl rfl (by decide) (m_isSet _ t) ?_
    refine GB.br rfl rfl (fun c2 => ?_) (fun c2 => ?_)
    · exact tail
    · exact absurd ⟨bd_t c, bI_t c2⟩ h
theorem m_rowI (d n k : Nat) {K : Nat → Nat} (set : Int32) (hd : d < 6) (hn : n ≤ 8) (h0 : ii 26 0 2 = nI n) (hK : ∀ i, i < n → K i < 6 ∧ ii 26 0 (4 + 14 * i) = nI (K i)) (hk : k ≤ 3) {rest : Option Nat} (fin : ∀ v4, GB l X 8 0 0 185 (78, [some (vR 25 0), some (vI (nI d)), some (vI set), some (vI (nI k)), v4], [], (ii, jj, mj_rk kd, 108)) (some (vI (anO rest))) (piM ii rest, jj, mj_rk kd, 108)) : ∀ N r, r + N = 1000 → GB l X 8 0 0 185 (32, [some (vR 25 0), some (vI (nI d)), some (vI set), some (vI (nI k)), some (vI (nI r))], [], (ii, jj, mj_rk kd, 108)) (some (vI (anO ((fstK (roP (mTT ii K) n (ii 26 0 (116 + 3 * d)) set k) N r).or rest)))) (piM ii ((fstK (roP (mTT ii K) n (ii 26 0 (116 + 3 * d)) set k) N r).or rest), jj, mj_rk kd, 108)
  | 0, r, e => by
    rw [show r = 1000 by omega]
    refine GB.go 9999 rfl aB0 ?_
    refine GB.br rfl rfl (fun c => ?_) (fun c => ?_)
    · exact fin _
    · exact absurd (Int32.le_refl _) c
  | N + 1, r, e => by
    have ih := m_rowI d n k set hd hn h0 hK hk fin N (r + 1) (by omega)
    rw [nI_succ r] at ih
    have no : roP (mTT ii K) n (ii 26 0 (116 + 3 * d)) set k r = false → GB l X 8 0 0 185 (72, [some (vR 25 0), some (vI (nI d)), some (vI set), some (vI (nI k)), some (vI (nI r))], [], (ii, jj, mj_rk kd, 108)) (some (vI (anO ((fstK (roP (mTT ii K) n (ii 26 0 (116 + 3 * d)) set k) (N + 1) r).or rest)))) (piM ii ((fstK (roP (mTT ii K) n (ii 26 0 (116 + 3 * d)) set k) (N + 1) r).or rest), jj, mj_rk kd, 108) := fun h => by
      rw [show fstK (roP (mTT ii K) n (ii 26 0 (116 + 3 * d)) set k) (N + 1) r = fstK (roP (mTT ii K) n (ii 26 0 (116 + 3 * d)) set k) N (r + 1) by rw [fstK, h]; rfl]
      refine GB.go 32 rfl aB0 ?_
      exact ih
    refine GB.go 9999 rfl aB0 ?_
    refine GB.br rfl rfl (fun c => ?_) (fun c => ?_)
    · exact absurd c (nI_ge (show r < 1000 by omega) (by decide))
    · refine GB.go 9999 rfl aB0 ?_
      refine GB.cal rfl rfl (by decide) (m_hatsIn r n (by omega) hn h0) ?_
      refine GB.go 9999 rfl aB0 ?_
      refine GB.br rfl rfl (fun c2 => ?_) (fun c2 => ?_)
      · have q := (oI_eq (by omega) (fun x hx => by have := hiN_3 hx; omega)).mp c2
        have ql := hiN_le q
        refine GB.go 9999 rfl aB0 ?_
        refine GB.cal rfl rfl (by decide) (m_has d 0 hd (by decide)) ?_
        rw [show 116 + 3 * d + 0 = 116 + 3 * d from rfl]
        refine GB.go 9999 rfl aB0 ?_
        refine GB.cal rfl rfl (by decide) (m_hasBy r n _ (by omega) hn ql.1 ql.2.1 ql.2.2 hK) ?_
        refine GB.go 9999 rfl aB0 ?_
        refine GB.br rfl rfl (fun c3 => ?_) (fun c3 => ?_)
        · rw [show fstK (roP (mTT ii K) n (ii 26 0 (116 + 3 * d)) set k) (N + 1) r = some r by rw [fstK, show roP (mTT ii K) n (ii 26 0 (116 + 3 * d)) set k r = true from decide_eq_true ⟨q, c3⟩]; rfl]
          refine GB.go 9999 rfl aB0 ?_
          exact GB.ret rfl rfl aB0
        · exact no (decide_eq_false (fun h => c3 h.2))
      · exact no (decide_eq_false (fun h => c2 ((oI_eq (by omega) (fun x hx => by have := hiN_3 hx; omega)).mpr h.1)))
theorem fstO_or {f : Nat → Option Nat} {N k : Nat} : fstO f (N + 1) k = (f k).or (fstO f N (k + 1)) := by
  rw [fstO]
  cases f k <;> rfl
theorem m_rowL (d n : Nat) {K : Nat → Nat} (set : Int32) (hd : d < 6) (hn : n ≤ 8) (h0 : ii 26 0 2 = nI n) (hK : ∀ i, i < n → K i < 6 ∧ ii 26 0 (4 + 14 * i) = nI (K i)) : ∀ N k v4, k + N = 4 → GB l X 8 0 0 185 (24, [some (vR 25 0), some (vI (nI d)), some (vI set), some (vI (nI k)), v4], [], (ii, jj, mj_rk kd, 108)) (some (vI (anO (fstO (fun k => fstK (roP (mTT ii K) n (ii 26 0 (116 + 3 * d)) set k) 1000 0) N k)))) (piM ii (fstO (fun k => fstK (roP (mTT ii K) n (ii 26 0 (116 + 3 * d)) set k) 1000 0) N k), jj, mj_rk kd, 108)
  | 0, k, v4, e => by
    rw [show k = 4 by omega]
    refine GB.go 9999 rfl aB0 ?_
    refine GB.br rfl rfl (fun c => ?_) (fun c => ?_)
    · refine GB.go 9999 rfl aB0 ?_
      refine GB.cal rfl rfl (by decide) (m_finds 3 (by decide)) ?_
      exact GB.ret rfl rfl aB0
    · exact absurd (by decide) c
  | N + 1, k, v4, e => by
    have ih := m_rowL d n set hd hn h0 hK N (k + 1)
    rw [nI_succ k] at ih
    rw [fstO_or]
    refine GB.go 9999 rfl aB0 ?_
    refine GB.br rfl rfl (fun c => ?_) (fun c => ?_)
    · exact absurd c (nI_nlt (show k ≤ 3 by omega) (by decide))
    · refine GB.go 32 rfl aB0 ?_
      refine m_rowI d n k set hd hn h0 hK (by omega) (fun v4 => ?_) 1000 0 rfl
      refine GB.go 24 rfl aB0 ?_
      exact ih _ (by omega)
theorem m_row (d m n : Nat) {K : Nat → Nat} (set : Int32) (hd : d < m) (hm : m ≤ 6) (h1 : ii 26 0 3 = nI m) (hn : n ≤ 8) (h0 : ii 26 0 2 = nI n) (hK : ∀ i, i < n → K i < 6 ∧ ii 26 0 (4 + 14 * i) = nI (K i)) (hs : uT set 4095 = true) : SK l X 8 185 [vR 25 0, vI (nI d), vI set] (ii, jj, mj_rk kd, 108) (some (vI (anO (fstO (fun k => fstK (roP (mTT ii K) n (ii 26 0 (116 + 3 * d)) set k) 1000 0) 4 0)))) (piM ii (fstO (fun k => fstK (roP (mTT ii K) n (ii 26 0 (116 + 3 * d)) set k) 1000 0) 4 0), jj, mj_rk kd, 108) := by
  refine SK.of (by decide) (by decide) rfl ?_
  refine GB.go 9999 rfl aB0 ?_
  refine GB.cal rfl rfl (by decide) (m_isHead _ hm h1) ?_
  refine GB.br rfl rfl (fun c => ?_) (fun c => ?_)
  · exact absurd (in_ok hd (by omega) rfl) (bd_f c)
  · refine GB.go 9999 rfl aB0 ?_
    refine GB.cal rfl rfl (by decide) (m_isSet _ set) ?_
    refine GB.br rfl rfl (fun c2 => ?_) (fun c2 => ?_)
    · exact absurd c2 (b0_of hs)
    · refine GB.go 24 rfl aB0 ?_
      exact m_rowL d n set (by omega) hn h0 hK 4 0 _ rfl
theorem m_rows0 (v t x : Int32) {n : Nat} (hn : n ≤ 6) (h0 : ii 26 0 3 = nI n) (h : ¬ ((¬ v < 0 ∧ ¬ nI n ≤ v) ∧ uT t 4095 = true ∧ uT x 3 = true)) : SK l X 8 186 [vR 25 0, vI v, vI t, vI x] (ii, jj, mj_rk kd, 108) (some (vI (fA 0))) (fnm ii 0, jj, mj_rk kd, 108) := by
  refine SK.of (by decide) (by decide) rfl ?_
  have tail : GB l X 8 0 0 186 (25, [some (vR 25 0), some (vI v), some (vI t), some (vI x), none, none], [], (ii, jj, mj_rk kd, 108)) (some (vI (fA 0))) (fnm ii 0, jj, mj_rk kd, 108) := by
    refine GB.go 9999 rfl aB0 ?_
    refine GB.cal rfl rfl (by decide) (m_finds 0 (by decide)) ?_
    exact GB.ret rfl rfl aB0
  refine GB.go 9999 rfl aB0 ?_
  refine GB.cal rfl rfl (by decide) (m_isHead v hn h0) ?_
  refine GB.br rfl rfl (fun c => ?_) (fun c => ?_)
  · exact tail
  · refine GB.go 9999 rfl aB0 ?_
    refine GB.cal rfl rfl (by decide) (m_isSet _ t) ?_
    refine GB.br rfl rfl (fun c2 => ?_) (fun c2 => ?_)
    · exact tail
    · refine GB.go 9999 rfl aB0 ?_
      refine GB.cal rfl rfl (by decide) (m_up _ x 3) ?_
      refine GB.br rfl rfl (fun c3 => ?_) (fun c3 => ?_)
      · exact tail
      · exact absurd ⟨bd_t c, bI_t c2, bI_t c3⟩ h
theorem m_rows (d m n k : Nat) {K : Nat → Nat} (set : Int32) (hd : d < m) (hm : m ≤ 6) (h1 : ii 26 0 3 = nI m) (hn : n ≤ 8) (h0 : ii 26 0 2 = nI n) (hK : ∀ i, i < n → K i < 6 ∧ ii 26 0 (4 + 14 * i) = nI (K i)) (hs : uT set 4095 = true) (hk : k ≤ 3) : SK l X 8 186 [vR 25 0, vI (nI d), vI set, vI (nI k)] (ii, jj, mj_rk kd, 108) (some (vI (aF (fun r => bI (rsP (mTT ii K) n (ii 26 0 (116 + 3 * d)) set k r)) 1000))) (ii, jj, mj_rk kd, 108) := by
  refine SK.of (by decide) (by decide) rfl ?_
  refine GB.go 9999 rfl aB0 ?_
  refine GB.cal rfl rfl (by decide) (m_isHead _ hm h1) ?_
  refine GB.br rfl rfl (fun c => ?_) (fun c => ?_)
  · exact absurd (in_ok hd (by omega) rfl) (bd_f c)
  · refine GB.go 9999 rfl aB0 ?_
    refine GB.cal rfl rfl (by decide) (m_isSet _ set) ?_
    refine GB.br rfl rfl (fun c2 => ?_) (fun c2 => ?_)
    · exact absurd c2 (b0_of hs)
    · refine GB.go 9999 rfl aB0 ?_
      refine GB.cal rfl rfl (by decide) (m_up _ _ 3) ?_
      refine GB.br rfl rfl (fun c3 => ?_) (fun c3 => ?_)
      · exact absurd c3 (b0_of (uT_ok hk (by decide)))
      · refine GB.go 38 rfl aB0 ?_
        refine GB.upto 1000 (fun r => (38, [some (vR 25 0), some (vI (nI d)), some (vI set), some (vI (nI k)), some (vI (aF (fun r => bI (rsP (mTT ii K) n (ii 26 0 (116 + 3 * d)) set k r)) r)), some (vI (nI r))], [], (ii, jj, mj_rk kd, 108))) (fun r hr ih => ?_) ?_ 1000 0 rfl
        · rw [nI_succ r, show aF (fun r => bI (rsP (mTT ii K) n (ii 26 0 (116 + 3 * d)) set k r)) (r + 1) = aF (fun r => bI (rsP (mTT ii K) n (ii 26 0 (116 + 3 * d)) set k r)) r + bI (rsP (mTT ii K) n (ii 26 0 (116 + 3 * d)) set k r) from rfl] at ih
          refine GB.go 9999 rfl aB0 ?_
          refine GB.br rfl rfl (fun c4 => ?_) (fun c4 => ?_)
          · exact absurd c4 (nI_ge hr (by decide))
          · refine GB.go 9999 rfl aB0 ?_
            refine GB.cal rfl rfl (by decide) (m_hatsIn r n hr hn h0) ?_
            refine GB.go 9999 rfl aB0 ?_
            refine GB.br rfl rfl (fun c5 => ?_) (fun c5 => ?_)
            · have q := (oI_eq (by omega) (fun x hx => by have := hiN_3 hx; omega)).mp c5
              have ql := hiN_le q
              refine GB.go 9999 rfl aB0 ?_
              refine GB.cal rfl rfl (by decide) (m_has d 0 (by omega) (by decide)) ?_
              rw [show 116 + 3 * d + 0 = 116 + 3 * d from rfl]
              refine GB.go 9999 rfl aB0 ?_
              refine GB.cal rfl rfl (by decide) (m_hasBy r n _ hr hn ql.1 ql.2.1 ql.2.2 hK) ?_
              refine GB.go 9999 rfl aB0 ?_
              refine GB.br rfl rfl (fun c6 => ?_) (fun c6 => ?_)
              · rw [show rsP (mTT ii K) n (ii 26 0 (116 + 3 * d)) set k r = true from decide_eq_true ⟨q, c6⟩] at ih
                refine GB.go 38 rfl aB0 ?_
                exact ih
              · rw [show rsP (mTT ii K) n (ii 26 0 (116 + 3 * d)) set k r = false from decide_eq_false (fun h => c6 h.2)] at ih
                refine GB.go 38 rfl aB0 ?_
                exact ih
            · rw [show rsP (mTT ii K) n (ii 26 0 (116 + 3 * d)) set k r = false from decide_eq_false (fun h => c5 ((oI_eq (by omega) (fun x hx => by have := hiN_3 hx; omega)).mpr h.1))] at ih
              refine GB.go 38 rfl aB0 ?_
              exact ih
        · refine GB.go 9999 rfl aB0 ?_
          refine GB.br rfl rfl (fun c4 => ?_) (fun c4 => ?_)
          · refine GB.go 9999 rfl aB0 ?_
            exact GB.ret rfl rfl aB0
          · exact absurd (Int32.le_refl _) c4
end MQ
