/-! THE RELATION: what it says, how it goes on -/
section SH
variable {c c' : Nat → Int32} {P F H P' F' H' : Nat → Nat → Int32} {kd kd' : Nat → Nat} {m m' : Nat → Int32} {n d : Nat}
theorem ShR.n8 {hb db : Nat} (S : ShR c P F H kd hb db m n d) : n ≤ 8 := S.1.1
theorem ShR.d6 {hb db : Nat} (S : ShR c P F H kd hb db m n d) : d ≤ 6 := S.1.2
theorem ShR.m2 {hb db : Nat} (S : ShR c P F H kd hb db m n d) : m 2 = nI n := S.2.1.1
theorem ShR.c2 {hb db : Nat} (S : ShR c P F H kd hb db m n d) : c 2 = nI n := S.2.1.2
theorem ShR.m3 {hb db : Nat} (S : ShR c P F H kd hb db m n d) : m 3 = nI d := S.2.2.1.1
theorem ShR.c3 {hb db : Nat} (S : ShR c P F H kd hb db m n d) : c 3 = nI d := S.2.2.1.2
theorem ShR.wk {hb db : Nat} (S : ShR c P F H kd hb db m n d) : bth (m 0) (c 4) 9999 := S.2.2.2.1
theorem ShR.mo {hb db : Nat} (S : ShR c P F H kd hb db m n d) : bth (m 1) (c 5) 1 := S.2.2.2.2.1
theorem ShR.kd6 (S : ShR c P F H kd 0 0 m n d) {i : Nat} (hi : i < n) : kd i < 6 := (S.2.2.2.2.2.1 i hi).1.1
theorem ShR.mk (S : ShR c P F H kd 0 0 m n d) {i : Nat} (hi : i < n) : m (4 + 14 * i) = nI (kd i) := (S.2.2.2.2.2.1 i hi).1.2
theorem ShR.pl (S : ShR c P F H kd 0 0 m n d) {i : Nat} (hi : i < n) : bth (m (5 + 14 * i)) (P i 2) 99 := (S.2.2.2.2.2.1 i hi).2.1
theorem ShR.fr (S : ShR c P F H kd 0 0 m n d) {i : Nat} (hi : i < n) {t : Nat} (ht : t < 12) : bth (m (6 + 14 * i + t)) (F i t) 9 := (S.2.2.2.2.2.1 i hi).2.2 t ht
theorem ShR.hd (S : ShR c P F H kd 0 0 m n d) {j : Nat} (hj : j < d) {k : Nat} (hk : k < 3) : bth (m (116 + 3 * j + k)) (H j k) (liM k) := S.2.2.2.2.2.2 j hj k hk
theorem ShR_mk (h1 : n ≤ 8) (h2 : d ≤ 6) (m2 : m 2 = nI n) (c2 : c 2 = nI n) (m3 : m 3 = nI d) (c3 : c 3 = nI d) (wk : bth (m 0) (c 4) 9999) (mo : bth (m 1) (c 5) 1) (kk : ∀ i, i < n → kd i < 6 ∧ m (4 + 14 * i) = nI (kd i)) (pl : ∀ i, i < n → bth (m (5 + 14 * i)) (P i 2) 99) (fr : ∀ i, i < n → ∀ t, t < 12 → bth (m (6 + 14 * i + t)) (F i t) 9) (hd : ∀ j, j < d → ∀ k, k < 3 → bth (m (116 + 3 * j + k)) (H j k) (liM k)) : ShR c P F H kd 0 0 m n d := ⟨⟨h1, h2⟩, ⟨m2, c2⟩, ⟨m3, c3⟩, wk, mo, fun i hi => ⟨kk i hi, pl i hi, fr i hi⟩, hd⟩
/-- the row of one hat changed -/
theorem ShR_row (S : ShR c P F H kd 0 0 m n d) {i : Nat} (hi : i < n) (eF : ∀ x, x < n → x ≠ i → ∀ t, t < 12 → F' x t = F x t) (em : ∀ k, k < 134 → (k < 6 + 14 * i ∨ 18 + 14 * i ≤ k) → m' k = m k) (hb : ∀ t, t < 12 → bth (m' (6 + 14 * i + t)) (F' i t) 9) : ShR c P F' H kd 0 0 m' n d := by
  have n8 := S.n8
  have d6 := S.d6
  refine ShR_mk n8 d6 (by rw [em 2 (by decide) (by omega)]; exact S.m2) S.c2 (by rw [em 3 (by decide) (by omega)]; exact S.m3) S.c3 (by rw [em 0 (by decide) (by omega)]; exact S.wk) (by rw [em 1 (by decide) (by omega)]; exact S.mo) (fun x hx => ?_) (fun x hx => ?_) (fun x hx t ht => ?_) (fun j hj k hk => ?_)
  · rw [em _ (by omega) (by omega)]
    exact ⟨S.kd6 hx, S.mk hx⟩
  · rw [em _ (by omega) (by omega)]
    exact S.pl hx
  · by_cases e : x = i
    · rw [e]
      exact hb t ht
    · rw [em _ (by omega) (by omega), eF x hx e t ht]
      exact S.fr hx ht
  · rw [em _ (by omega) (by omega)]
    exact S.hd hj hk
theorem ShR_pl (S : ShR c P F H kd 0 0 m n d) {i : Nat} (hi : i < n) (eP : ∀ x, x < n → x ≠ i → P' x 2 = P x 2) (em : ∀ k, k < 134 → k ≠ 5 + 14 * i → m' k = m k) (hb : bth (m' (5 + 14 * i)) (P' i 2) 99) : ShR c P' F H kd 0 0 m' n d := by
  have n8 := S.n8
  have d6 := S.d6
  refine ShR_mk n8 d6 (by rw [em 2 (by decide) (by omega)]; exact S.m2) S.c2 (by rw [em 3 (by decide) (by omega)]; exact S.m3) S.c3 (by rw [em 0 (by decide) (by omega)]; exact S.wk) (by rw [em 1 (by decide) (by omega)]; exact S.mo) (fun x hx => ?_) (fun x hx => ?_) (fun x hx t ht => ?_) (fun j hj k hk => ?_)
  · rw [em _ (by omega) (by omega)]
    exact ⟨S.kd6 hx, S.mk hx⟩
  · by_cases e : x = i
    · rw [e]
      exact hb
    · rw [em _ (by omega) (by omega), eP x hx e]
      exact S.pl hx
  · rw [em _ (by omega) (by omega)]
    exact S.fr hx ht
  · rw [em _ (by omega) (by omega)]
    exact S.hd hj hk
theorem ShR_kd (S : ShR c P F H kd 0 0 m n d) {i x : Nat} (hi : i < n) (hx : x < 6) (em : ∀ k, k < 134 → k ≠ 4 + 14 * i → m' k = m k) (hb : m' (4 + 14 * i) = nI x) : ShR c P F H (kU kd i x) 0 0 m' n d := by
  have n8 := S.n8
  have d6 := S.d6
  refine ShR_mk n8 d6 (by rw [em 2 (by decide) (by omega)]; exact S.m2) S.c2 (by rw [em 3 (by decide) (by omega)]; exact S.m3) S.c3 (by rw [em 0 (by decide) (by omega)]; exact S.wk) (by rw [em 1 (by decide) (by omega)]; exact S.mo) (fun y hy => ?_) (fun y hy => ?_) (fun y hy t ht => ?_) (fun j hj k hk => ?_)
  · by_cases e : y = i
    · rw [e, kU_at, hb]
      exact ⟨hx, rfl⟩
    · rw [kU_ne e, em _ (by omega) (by omega)]
      exact ⟨S.kd6 hy, S.mk hy⟩
  · rw [em _ (by omega) (by omega)]
    exact S.pl hy
  · rw [em _ (by omega) (by omega)]
    exact S.fr hy ht
  · rw [em _ (by omega) (by omega)]
    exact S.hd hj hk
theorem ShR_hd (S : ShR c P F H kd 0 0 m n d) {j k : Nat} (hj : j < d) (hk : k < 3) (eH : ∀ x, x < d → ∀ y, y < 3 → ¬ (x = j ∧ y = k) → H' x y = H x y) (em : ∀ x, x < 134 → x ≠ 116 + 3 * j + k → m' x = m x) (hb : bth (m' (116 + 3 * j + k)) (H' j k) (liM k)) : ShR c P F H' kd 0 0 m' n d := by
  have n8 := S.n8
  have d6 := S.d6
  refine ShR_mk n8 d6 (by rw [em 2 (by decide) (by omega)]; exact S.m2) S.c2 (by rw [em 3 (by decide) (by omega)]; exact S.m3) S.c3 (by rw [em 0 (by decide) (by omega)]; exact S.wk) (by rw [em 1 (by decide) (by omega)]; exact S.mo) (fun y hy => ?_) (fun y hy => ?_) (fun y hy t ht => ?_) (fun x hx y hy => ?_)
  · rw [em _ (by omega) (by omega)]
    exact ⟨S.kd6 hy, S.mk hy⟩
  · rw [em _ (by omega) (by omega)]
    exact S.pl hy
  · rw [em _ (by omega) (by omega)]
    exact S.fr hy ht
  · by_cases e : x = j ∧ y = k
    · rw [e.1, e.2]
      exact hb
    · rw [em _ (by omega) (by omega), eH x hx y hy e]
      exact S.hd hx hy
theorem ShR_mo (S : ShR c P F H kd 0 0 m n d) (ec : ∀ k, k < 5 → c' k = c k) (em : ∀ x, x < 134 → x ≠ 1 → m' x = m x) (hb : bth (m' 1) (c' 5) 1) : ShR c' P F H kd 0 0 m' n d := by
  have n8 := S.n8
  have d6 := S.d6
  refine ShR_mk n8 d6 (by rw [em 2 (by decide) (by omega)]; exact S.m2) (by rw [ec 2 (by decide)]; exact S.c2) (by rw [em 3 (by decide) (by omega)]; exact S.m3) (by rw [ec 3 (by decide)]; exact S.c3) (by rw [em 0 (by decide) (by omega), ec 4 (by decide)]; exact S.wk) hb (fun y hy => ?_) (fun y hy => ?_) (fun y hy t ht => ?_) (fun x hx y hy => ?_)
  · rw [em _ (by omega) (by omega)]
    exact ⟨S.kd6 hy, S.mk hy⟩
  · rw [em _ (by omega) (by omega)]
    exact S.pl hy
  · rw [em _ (by omega) (by omega)]
    exact S.fr hy ht
  · rw [em _ (by omega) (by omega)]
    exact S.hd hx hy
/-- a new hat -/
theorem ShR_hat (S : ShR c P F H kd 0 0 m n d) (hn : n < 8) (c2 : c' 2 = nI (n + 1)) (ec : ∀ k, k < 6 → k ≠ 2 → c' k = c k) (eP : ∀ i, i < n → P' i 2 = P i 2) (eF : ∀ i, i < n → ∀ t, t < 12 → F' i t = F i t) (ek : ∀ i, i < n → kd' i = kd i) (m2 : m' 2 = nI (n + 1)) (em : ∀ k, k < 134 → k ≠ 2 → (k < 4 + 14 * n ∨ 18 + 14 * n ≤ k) → m' k = m k) (hk : kd' n < 6 ∧ m' (4 + 14 * n) = nI (kd' n)) (hp : bth (m' (5 + 14 * n)) (P' n 2) 99) (hf : ∀ t, t < 12 → bth (m' (6 + 14 * n + t)) (F' n t) 9) : ShR c' P' F' H kd' 0 0 m' (n + 1) d := by
  have d6 := S.d6
  refine ShR_mk (by omega) d6 m2 c2 (by rw [em 3 (by decide) (by decide) (by omega)]; exact S.m3) (by rw [ec 3 (by decide) (by decide)]; exact S.c3) (by rw [em 0 (by decide) (by decide) (by omega), ec 4 (by decide) (by decide)]; exact S.wk) (by rw [em 1 (by decide) (by decide) (by omega), ec 5 (by decide) (by decide)]; exact S.mo) (fun y hy => ?_) (fun y hy => ?_) (fun y hy t ht => ?_) (fun x hx y hy => ?_)
  · by_cases e : y = n
    · rw [e]
      exact hk
    · rw [em _ (by omega) (by omega) (by omega), ek y (by omega)]
      exact ⟨S.kd6 (by omega), S.mk (by omega)⟩
  · by_cases e : y = n
    · rw [e]
      exact hp
    · rw [em _ (by omega) (by omega) (by omega), eP y (by omega)]
      exact S.pl (by omega)
  · by_cases e : y = n
    · rw [e]
      exact hf t ht
    · rw [em _ (by omega) (by omega) (by omega), eF y (by omega) t ht]
      exact S.fr (by omega) ht
  · rw [em _ (by omega) (by omega) (by omega)]
    exact S.hd hx hy
/-- a new head -/
theorem ShR_head (S : ShR c P F H kd 0 0 m n d) (hd : d < 6) (c3 : c' 3 = nI (d + 1)) (ec : ∀ k, k < 6 → k ≠ 3 → c' k = c k) (eH : ∀ j, j < d → ∀ k, k < 3 → H' j k = H j k) (m3 : m' 3 = nI (d + 1)) (em : ∀ k, k < 134 → k ≠ 3 → (k < 116 + 3 * d ∨ 119 + 3 * d ≤ k) → m' k = m k) (hh : ∀ k, k < 3 → bth (m' (116 + 3 * d + k)) (H' d k) (liM k)) : ShR c' P F H' kd 0 0 m' n (d + 1) := by
  have n8 := S.n8
  refine ShR_mk n8 (by omega) (by rw [em 2 (by decide) (by decide) (by omega)]; exact S.m2) (by rw [ec 2 (by decide) (by decide)]; exact S.c2) m3 c3 (by rw [em 0 (by decide) (by decide) (by omega), ec 4 (by decide) (by decide)]; exact S.wk) (by rw [em 1 (by decide) (by decide) (by omega), ec 5 (by decide) (by decide)]; exact S.mo) (fun y hy => ?_) (fun y hy => ?_) (fun y hy t ht => ?_) (fun x hx y hy => ?_)
  · rw [em _ (by omega) (by omega) (by omega)]
    exact ⟨S.kd6 hy, S.mk hy⟩
  · rw [em _ (by omega) (by omega) (by omega)]
    exact S.pl hy
  · rw [em _ (by omega) (by omega) (by omega)]
    exact S.fr hy ht
  · by_cases e : x = d
    · rw [e]
      exact hh y hy
    · rw [em _ (by omega) (by omega) (by omega), eH x (by omega) y hy]
      exact S.hd (by omega) hy
end SH
section SI
variable {ii : Nat → Nat → Nat → Int32} {kd : Nat → Nat} {n d : Nat}
theorem ShR.row (S : ShR (ii 17 0) (ii 20) (ii 21) (ii 22) kd 0 0 (ii 26 0) n d) {i : Nat} (hi : i < n) : eqR (mR ii i) (ii 21 i) := fun _ ht => (S.fr hi ht).eq
theorem ShR.rn (S : ShR (ii 17 0) (ii 20) (ii 21) (ii 22) kd 0 0 (ii 26 0) n d) {i : Nat} (hi : i < n) : rN (mR ii i) := fun _ ht => by
  obtain ⟨x, hx, e1, _⟩ := S.fr hi ht
  exact ⟨x, hx, e1⟩
theorem sh_mI (S : ShR (ii 17 0) (ii 20) (ii 21) (ii 22) kd 0 0 (ii 26 0) n d) : ∃ w, w ≤ 9999 ∧ ii 17 0 4 = nI w ∧ ii 26 0 0 = nI w ∧ mI ii n w kd := by
  obtain ⟨w, hw, e1, e2⟩ := S.wk
  exact ⟨w, hw, e2, e1, S.n8, S.m2, e1, fun i hi => ⟨S.kd6 hi, S.mk hi⟩, fun i hi => S.rn hi⟩
theorem ShR.set (S : ShR (ii 17 0) (ii 20) (ii 21) (ii 22) kd 0 0 (ii 26 0) n d) {j : Nat} (hj : j < d) : ii 26 0 (116 + 3 * j) = ii 22 j 0 ∧ sT (ii 22 j 0) := by
  obtain ⟨x, hx, e1, e2⟩ := S.hd hj (show (0 : Nat) < 3 by decide)
  exact ⟨e1.trans e2.symm, by rw [e2]; exact sT_nI (by have : x ≤ 4095 := hx; omega)⟩
theorem sh_mT (S : ShR (ii 17 0) (ii 20) (ii 21) (ii 22) kd 0 0 (ii 26 0) n d) {i : Nat} (hi : i < n) {c : Nat} {x : Int32} : mT ii c i x = tkO c (hF (ii 21 i) 1 12) (hF (ii 21 i) 3 12) x := by
  unfold mT
  rw [hF_c (S.row hi) 12 (by decide), hF_c (S.row hi) 12 (by decide)]
/-- the model's picture of another picture with the same row -/
theorem mR_e {i1 : Nat → Nat → Nat → Int32} (e : i1 26 = ii 26) : mR i1 = mR ii := by
  funext i t
  unfold mR
  rw [e]
end SI
