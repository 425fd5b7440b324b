/-! THE CALLS, both sides: image, undo -/
section CB
variable {ii : Nat → Nat → Nat → Int32} {T S : Nat}
theorem cbI_tag {a : Nat} (h : a ≠ 17) : cbI T S ii a = ii a := by
  unfold cbI
  rw [up3_tag h, up3_tag h, up3_tag h, up3_tag h]
theorem cbI_ne {x c : Nat} (h : x ≠ T) : cbI T S ii 17 x c = ii 17 x c := by
  unfold cbI
  rw [up3_num h, up3_num h, up3_num h, up3_num h]
theorem cbI_at {c : Nat} (h2 : 2 ≤ c) (h6 : c < 6) : cbI T S ii 17 T c = ii 17 S c := by
  unfold cbI
  match c, h2, h6 with
  | 2, _, _ => rw [up3_pl (by decide), up3_pl (by decide), up3_pl (by decide), up3_rd]
  | 3, _, _ => rw [up3_pl (by decide), up3_pl (by decide), up3_rd]
  | 4, _, _ => rw [up3_pl (by decide), up3_rd]
  | 5, _, _ => rw [up3_rd]
/-- a whole shop as another: what is where -/
theorem sb_tag {A B DA DB : Nat → Nat} {n m a : Nat} (h1 : a ≠ 17) (h2 : a ≠ 20) (h3 : a ≠ 21) (h4 : a ≠ 22) : dbI DA DB (hbI A B (cbI T S ii) n) m a = ii a := by rw [dbI_tag h4, hbI_tag h2 h3, cbI_tag h1]
theorem sb_17 {A B DA DB : Nat → Nat} {n m x c : Nat} : dbI DA DB (hbI A B (cbI T S ii) n) m 17 x c = cbI T S ii 17 x c := by rw [dbI_tag (by decide), hbI_tag (by decide) (by decide)]
theorem sb_hne {A B DA DB : Nat → Nat} {n m x : Nat} (h : ∀ k, k < n → x ≠ A k) : dbI DA DB (hbI A B (cbI T S ii) n) m 20 x = ii 20 x ∧ dbI DA DB (hbI A B (cbI T S ii) n) m 21 x = ii 21 x := by
  have q := hbI_ne (A := A) (B := B) (ii := cbI T S ii) n h
  rw [dbI_tag (show (20 : Nat) ≠ 22 by decide), dbI_tag (show (21 : Nat) ≠ 22 by decide), q.1, q.2, cbI_tag (by decide), cbI_tag (by decide)]
  exact ⟨rfl, rfl⟩
theorem sb_hat {A B DA DB : Nat → Nat} {n m k : Nat} (hk : k < n) (inj : ∀ a, a < n → ∀ b, b < n → A a = A b → a = b) (dis : ∀ a, a < n → ∀ b, b < n → B a ≠ A b) : dbI DA DB (hbI A B (cbI T S ii) n) m 20 (A k) 2 = ii 20 (B k) 2 ∧ ∀ t, t < 12 → dbI DA DB (hbI A B (cbI T S ii) n) m 21 (A k) t = ii 21 (B k) t := by
  have q := hbI_at (A := A) (B := B) (ii := cbI T S ii) n hk inj dis
  rw [dbI_tag (show (20 : Nat) ≠ 22 by decide), dbI_tag (show (21 : Nat) ≠ 22 by decide), q.1, cbI_tag (by decide)]
  refine ⟨rfl, fun t ht => ?_⟩
  rw [q.2 t ht, cbI_tag (by decide)]
theorem sb_dne {A B DA DB : Nat → Nat} {n m x : Nat} (h : ∀ k, k < m → x ≠ DA k) : dbI DA DB (hbI A B (cbI T S ii) n) m 22 x = ii 22 x := by rw [dbI_ne m h, hbI_tag (by decide) (by decide), cbI_tag (by decide)]
theorem sb_hd {A B DA DB : Nat → Nat} {n m k : Nat} (hk : k < m) (inj : ∀ a, a < m → ∀ b, b < m → DA a = DA b → a = b) (dis : ∀ a, a < m → ∀ b, b < m → DB a ≠ DA b) {c : Nat} (hc : c < 3) : dbI DA DB (hbI A B (cbI T S ii) n) m 22 (DA k) c = ii 22 (DB k) c := by rw [dbI_at m hk inj dis c hc, hbI_tag (by decide) (by decide), cbI_tag (by decide)]
end CB
section T1
variable {l : Launch} {X : FX} {ii : Nat → Nat → Nat → Int32} {jj : Nat → Nat → Nat → Int64} {kd : Nat → Nat}
theorem tw_image (R : Rep ii jj kd) : Two l X 111 216 [] ii jj kd := by
  obtain ⟨n, d, S⟩ := R.1
  have n8 := S.n8
  have d6 := S.d6
  have hc := c_image (l := l) (X := X) (ii := ii) (jj := jj) (kd := kd) n8 d6 S.c2 S.c3 (fun k hk => S.kd6 hk)
  have q1 : ∀ a, a ≠ 17 → a ≠ 20 → a ≠ 21 → a ≠ 22 → dbI (fun k => (k + 6)) (fun k => k) (hbI (fun k => (k + 8)) (fun k => k) (cbI 1 0 ii) n) d a = ii a := fun a p1 p2 p3 p4 => sb_tag p1 p2 p3 p4
  have q2 : ∀ c, dbI (fun k => (k + 6)) (fun k => k) (hbI (fun k => (k + 8)) (fun k => k) (cbI 1 0 ii) n) d 17 0 c = ii 17 0 c := fun c => sb_17.trans (cbI_ne (by decide))
  have q3 : ∀ c, 2 ≤ c → c < 6 → dbI (fun k => (k + 6)) (fun k => k) (hbI (fun k => (k + 8)) (fun k => k) (cbI 1 0 ii) n) d 17 1 c = ii 17 0 c := fun c p1 p2 => sb_17.trans (cbI_at p1 p2)
  have q4 : ∀ x, x < 8 → dbI (fun k => (k + 6)) (fun k => k) (hbI (fun k => (k + 8)) (fun k => k) (cbI 1 0 ii) n) d 20 x = ii 20 x ∧ dbI (fun k => (k + 6)) (fun k => k) (hbI (fun k => (k + 8)) (fun k => k) (cbI 1 0 ii) n) d 21 x = ii 21 x := fun x hx => sb_hne (fun k _ => by show x ≠ k + 8; omega)
  have q5 : ∀ k, k < n → dbI (fun k => (k + 6)) (fun k => k) (hbI (fun k => (k + 8)) (fun k => k) (cbI 1 0 ii) n) d 20 (k + 8) 2 = ii 20 k 2 ∧ ∀ t, t < 12 → dbI (fun k => (k + 6)) (fun k => k) (hbI (fun k => (k + 8)) (fun k => k) (cbI 1 0 ii) n) d 21 (k + 8) t = ii 21 k t := fun k hk => sb_hat (A := fun k => k + 8) (B := fun k => k) hk (fun a _ b _ e => by have : a + 8 = b + 8 := e; omega) (fun a ha b _ => by show a ≠ b + 8; omega)
  have q6 : ∀ x, x < 6 → dbI (fun k => (k + 6)) (fun k => k) (hbI (fun k => (k + 8)) (fun k => k) (cbI 1 0 ii) n) d 22 x = ii 22 x := fun x hx => sb_dne (fun k _ => by show x ≠ k + 6; omega)
  have q7 : ∀ k, k < d → ∀ c, c < 3 → dbI (fun k => (k + 6)) (fun k => k) (hbI (fun k => (k + 8)) (fun k => k) (cbI 1 0 ii) n) d 22 (k + 6) c = ii 22 k c := fun k hk c h3 => sb_hd (DA := fun k => k + 6) (DB := fun k => k) hk (fun a _ b _ e => by have : a + 6 = b + 6 := e; omega) (fun a ha b _ => by show a ≠ b + 6; omega) h3
  have q8 : ∀ x, x < 8 → hbK (fun k => (k + 8)) (fun k => k) kd n x = kd x := fun x hx => hbK_ne n (fun k _ => by show x ≠ k + 8; omega)
  have q9 : ∀ k, k < n → hbK (fun k => (k + 8)) (fun k => k) kd n (k + 8) = kd k := fun k hk => hbK_at (A := fun k => k + 8) (B := fun k => k) n hk (fun a _ b _ e => by have : a + 8 = b + 8 := e; omega) (fun a ha b _ => by show a ≠ b + 8; omega)
  generalize dbI (fun k => (k + 6)) (fun k => k) (hbI (fun k => (k + 8)) (fun k => k) (cbI 1 0 ii) n) d = i0 at *
  generalize hbK (fun k => (k + 8)) (fun k => k) kd n = k1 at *
  have hm := m_image (l := l) (X := X) (ii := up3 i0 5 0 9 1) (jj := jj) (kd := k1)
  have e : ∀ a, a ≠ 5 → a ≠ 25 → a ≠ 27 → up3 (wA (up3 i0 5 0 9 1) 27 0 134 (up3 i0 5 0 9 1 26 0)) 25 0 3 1 a = i0 a := fun a p1 p2 p3 => by rw [up3_tag p2, wA_tg p3, up3_tag p1]
  obtain ⟨-, B, C, D, E, F⟩ := R
  refine two_of hc hm (by decide) (by decide) ⟨⟨n, d, ?_⟩, ?_, ?_, ⟨?_, fun _ => ⟨n, d, ?_⟩⟩, ?_, fun c h6 => ?_⟩ ?_ ?_
  · rw [e 17 (by decide) (by decide) (by decide), e 20 (by decide) (by decide) (by decide), e 21 (by decide) (by decide) (by decide), e 22 (by decide) (by decide) (by decide), e 26 (by decide) (by decide) (by decide), q1 26 (by decide) (by decide) (by decide) (by decide)]
    exact ShR_c S (fun k _ => q2 k) (fun i hi => by rw [(q4 (i + 0) (by omega)).1]) (fun i hi t _ => by rw [(q4 (i + 0) (by omega)).2]) (fun j hj k _ => by rw [q6 (j + 0) (by omega)]) (fun i hi => q8 (i + 0) (by omega)) (fun _ _ => rfl)
  · rw [e 10 (by decide) (by decide) (by decide), e 29 (by decide) (by decide) (by decide), q1 10 (by decide) (by decide) (by decide) (by decide), q1 29 (by decide) (by decide) (by decide) (by decide)]
    exact B
  · rw [e 7 (by decide) (by decide) (by decide), e 8 (by decide) (by decide) (by decide), e 30 (by decide) (by decide) (by decide), up3_pl (by decide), wA_tg (by decide), up3_tag (by decide), q1 7 (by decide) (by decide) (by decide) (by decide), q1 8 (by decide) (by decide) (by decide) (by decide), q1 30 (by decide) (by decide) (by decide) (by decide), q1 25 (by decide) (by decide) (by decide) (by decide)]
    exact C
  · rw [up3_rd, up3_tag (by decide), wA_tg (by decide), up3_rd]
    exact bth.self (x := 1) (by decide)
  · rw [e 17 (by decide) (by decide) (by decide), e 20 (by decide) (by decide) (by decide), e 21 (by decide) (by decide) (by decide), e 22 (by decide) (by decide) (by decide)]
    refine ShR_re S (fun k p1 p2 => q3 k p1 p2) (fun i hi => (q5 i hi).1) (fun i hi t ht => (q5 i hi).2 t ht) (fun j hj k hk => q7 j hj k hk) (fun i hi => q9 i hi) (fun k hk => ?_)
    rw [up3_tag (by decide), wA_lt hk, up3_tag (by decide), q1 26 (by decide) (by decide) (by decide) (by decide)]
  · rw [e 31 (by decide) (by decide) (by decide), e 32 (by decide) (by decide) (by decide), e 23 (by decide) (by decide) (by decide), q1 31 (by decide) (by decide) (by decide) (by decide), q1 32 (by decide) (by decide) (by decide) (by decide), q1 23 (by decide) (by decide) (by decide) (by decide)]
    exact E
  · rw [e (c + 11) (by omega) (by omega) (by omega), q1 (c + 11) (by omega) (by omega) (by omega) (by omega)]
    exact F c h6
  · rw [e 1 (by decide) (by decide) (by decide), q1 1 (by decide) (by decide) (by decide) (by decide)]
  · rw [up3_tag (by decide), q1 1 (by decide) (by decide) (by decide) (by decide)]
theorem tw_undo (R : Rep ii jj kd) : Two l X 112 217 [] ii jj kd := by
  by_cases h : ii 5 0 9 = 0
  · exact two_fail R (c_undo0 h) (m_undo0 (by rw [fnd_tag (by decide), R.2.2.2.1.1.eq]; exact h)) (by decide) (by decide)
  · obtain ⟨n, d, S⟩ := R.2.2.2.1.2 h
    have n8 := S.n8
    have d6 := S.d6
    have hc := c_undo (l := l) (X := X) (ii := ii) (jj := jj) (kd := kd) h n8 d6 S.c2 S.c3 (fun k hk => (S.2.2.2.2.2.1 k hk).1.1)
    have q1 : ∀ a, a ≠ 17 → a ≠ 20 → a ≠ 21 → a ≠ 22 → dbI (fun k => k) (fun k => (k + 6)) (hbI (fun k => k) (fun k => (k + 8)) (cbI 0 1 ii) n) d a = ii a := fun a p1 p2 p3 p4 => sb_tag p1 p2 p3 p4
    have q2 : ∀ c, dbI (fun k => k) (fun k => (k + 6)) (hbI (fun k => k) (fun k => (k + 8)) (cbI 0 1 ii) n) d 17 1 c = ii 17 1 c := fun c => sb_17.trans (cbI_ne (by decide))
    have q3 : ∀ c, 2 ≤ c → c < 6 → dbI (fun k => k) (fun k => (k + 6)) (hbI (fun k => k) (fun k => (k + 8)) (cbI 0 1 ii) n) d 17 0 c = ii 17 1 c := fun c p1 p2 => sb_17.trans (cbI_at p1 p2)
    have q4 : ∀ x, 8 ≤ x → dbI (fun k => k) (fun k => (k + 6)) (hbI (fun k => k) (fun k => (k + 8)) (cbI 0 1 ii) n) d 20 x = ii 20 x ∧ dbI (fun k => k) (fun k => (k + 6)) (hbI (fun k => k) (fun k => (k + 8)) (cbI 0 1 ii) n) d 21 x = ii 21 x := fun x hx => sb_hne (fun k _ => by show x ≠ k; omega)
    have q5 : ∀ k, k < n → dbI (fun k => k) (fun k => (k + 6)) (hbI (fun k => k) (fun k => (k + 8)) (cbI 0 1 ii) n) d 20 k 2 = ii 20 (k + 8) 2 ∧ ∀ t, t < 12 → dbI (fun k => k) (fun k => (k + 6)) (hbI (fun k => k) (fun k => (k + 8)) (cbI 0 1 ii) n) d 21 k t = ii 21 (k + 8) t := fun k hk => sb_hat (A := fun k => k) (B := fun k => k + 8) hk (fun a _ b _ e => e) (fun a ha b _ => by show a + 8 ≠ b; omega)
    have q6 : ∀ x, 6 ≤ x → dbI (fun k => k) (fun k => (k + 6)) (hbI (fun k => k) (fun k => (k + 8)) (cbI 0 1 ii) n) d 22 x = ii 22 x := fun x hx => sb_dne (fun k _ => by show x ≠ k; omega)
    have q7 : ∀ k, k < d → ∀ c, c < 3 → dbI (fun k => k) (fun k => (k + 6)) (hbI (fun k => k) (fun k => (k + 8)) (cbI 0 1 ii) n) d 22 k c = ii 22 (k + 6) c := fun k hk c h3 => sb_hd (DA := fun k => k) (DB := fun k => k + 6) hk (fun a _ b _ e => e) (fun a ha b _ => by show a + 6 ≠ b; omega) h3
    have q8 : ∀ x, 8 ≤ x → hbK (fun k => k) (fun k => (k + 8)) kd n x = kd x := fun x hx => hbK_ne n (fun k _ => by show x ≠ k; omega)
    have q9 : ∀ k, k < n → hbK (fun k => k) (fun k => (k + 8)) kd n k = kd (k + 8) := fun k hk => hbK_at (A := fun k => k) (B := fun k => k + 8) n hk (fun a _ b _ e => e) (fun a ha b _ => by show a + 8 ≠ b; omega)
    generalize dbI (fun k => k) (fun k => (k + 6)) (hbI (fun k => k) (fun k => (k + 8)) (cbI 0 1 ii) n) d = i0 at *
    generalize hbK (fun k => k) (fun k => (k + 8)) kd n = k1 at *
    have e27 : i0 27 = ii 27 := q1 27 (by decide) (by decide) (by decide) (by decide)
    have hm := m_undo (l := l) (X := X) (ii := i0) (jj := jj) (kd := k1) (by rw [q1 25 (by decide) (by decide) (by decide) (by decide), R.2.2.2.1.1.eq]; exact h)
    rw [show i0 27 0 2 = nI n by rw [e27]; exact S.m2] at hm
    refine two_of hc hm (by decide) (by decide) (Rep_A R (fun a p1 p2 p3 p4 p5 p6 => by rw [wA_tg p5, q1 a p1 p2 p3 p4]) (fun k _ => by rw [wA_tg (by decide), q2]) (fun i p1 p2 => ⟨by rw [wA_tg (by decide), (q4 i p1).1], fun t _ => by rw [wA_tg (by decide), (q4 i p1).2], q8 i p1⟩) (fun j p1 p2 k _ => by rw [wA_tg (by decide), q6 j p1]) ⟨n, d, ?_⟩) (by rw [wA_tg (by decide), q1 1 (by decide) (by decide) (by decide) (by decide)]) (q1 1 (by decide) (by decide) (by decide) (by decide))
    rw [wA_tg (show (17 : Nat) ≠ 26 by decide), wA_tg (show (20 : Nat) ≠ 26 by decide), wA_tg (show (21 : Nat) ≠ 26 by decide), wA_tg (show (22 : Nat) ≠ 26 by decide)]
    refine ShR_re (hb' := 0) (db' := 0) S (fun k p1 p2 => q3 k p1 p2) (fun i hi => (q5 i hi).1) (fun i hi t ht => (q5 i hi).2 t ht) (fun j hj k hk => q7 j hj k hk) (fun i hi => q9 i hi) (fun k hk => ?_)
    rw [wA_lt hk, e27]
end T1
