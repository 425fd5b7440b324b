/-! ROWS OF HATS: both ways count the same -/
section PS
variable {f g : Nat → Int32}
theorem aF_app : ∀ A B, aF f (A + B) = aF f A + aF (fun j => f (A + j)) B
  | A, 0 => (Int32.add_zero _).symm
  | A, B + 1 => by
    show aF f (A + B) + f (A + B) = aF f A + (aF (fun j => f (A + j)) B + f (A + B))
    rw [aF_app A B, Int32.add_assoc]
theorem aF_zero : ∀ N, (∀ j, j < N → f j = 0) → aF f N = 0
  | 0, _ => rfl
  | N + 1, h => by
    show aF f N + f N = 0
    rw [aF_zero N (fun j hj => h j (by omega)), h N (by omega)]
    rfl
theorem aF_ten : ∀ N, aF f (10 * N) = aF (fun a => aF (fun b => f (10 * a + b)) 10) N
  | 0 => rfl
  | N + 1 => by
    rw [show 10 * (N + 1) = 10 * N + 10 by omega, aF_app, aF_ten N]
    rfl
theorem aF_hats {n : Nat} (hn : n ≤ 9) (h0 : f 0 = 0) (h1 : ∀ h, h < n → f (h + 1) = g h) (h2 : ∀ h, n ≤ h → h < 9 → f (h + 1) = 0) : aF f 10 = aF g n := by
  rw [show (10 : Nat) = 1 + (n + (9 - n)) by omega, aF_app, aF_app, aF_zero (9 - n) (fun j hj => by rw [show 1 + (n + j) = (n + j) + 1 by omega]; exact h2 _ (by omega) (by omega)), Int32.add_zero]
  rw [aF_c (g := g) n (fun j hj => by rw [show 1 + j = j + 1 by omega]; exact h1 j hj)]
  show 0 + f 0 + aF g n = aF g n
  rw [h0, Int32.add_zero, Int32.zero_add]
theorem aF_one (h : ∀ j, 1 ≤ j → j < 10 → f j = 0) : aF f 10 = f 0 := by
  rw [show (10 : Nat) = 1 + 9 from rfl, aF_app, aF_zero 9 (fun j hj => h _ (by omega) (by omega)), Int32.add_zero]
  show 0 + f 0 = f 0
  rw [Int32.zero_add]
theorem aF_1000 : aF f 1000 = aF (fun a => aF (fun b => aF (fun c => f (10 * (10 * a + b) + c)) 10) 10) 10 := by
  rw [show (1000 : Nat) = 10 * 100 from rfl, aF_ten, show (100 : Nat) = 10 * 10 from rfl, aF_ten]
end PS
section PS
variable {T : Nat → Int32 → Int32} {n : Nat} {x set : Int32}
theorem rs_f {k a b c : Nat} (hb : b < 10) (hc : c < 10) (h : ¬ hiN n a b c = some k) : bI (rsP T n x set k (10 * (10 * a + b) + c)) = 0 := by
  rw [rs_dg hb hc, decide_eq_false (fun q => h q.1)]
  rfl
theorem rs_t {k a b c : Nat} (hb : b < 10) (hc : c < 10) (h : hiN n a b c = some k) {y : Int32} (hy : hv T c (hv T b (hv T a x)) = y) {used : Int32} : bI (rsP T n x set k (10 * (10 * a + b) + c)) = cRo T n set 0 y used := by
  rw [rs_dg hb hc, hy]
  unfold cRo
  by_cases q : y = set
  · rw [if_pos q, decide_eq_true ⟨h, q⟩]
    rfl
  · rw [if_neg q, decide_eq_false (fun z => q z.2)]
    rfl
theorem cR_0 : aF (fun r => bI (rsP T n x set 0 r)) 1000 = cRo T n set 0 x 0 := by
  rw [aF_1000, aF_one (fun a h1 h2 => aF_zero 10 (fun b hb => aF_zero 10 (fun c hc => rs_f (by omega) (by omega) (fun q => by have := hi_0.mp q; omega)))),
    aF_one (fun b h1 h2 => aF_zero 10 (fun c hc => rs_f (by omega) (by omega) (fun q => by have := hi_0.mp q; omega))), aF_one (fun c h1 h2 => rs_f (by omega) (by omega) (fun q => by have := hi_0.mp q; omega)),
    rs_t (y := x) (used := 0) (by decide) (by decide) (hi_0.mpr ⟨rfl, rfl, rfl⟩) rfl]
theorem cR_1 (hn : n ≤ 8) : aF (fun r => bI (rsP T n x set 1 r)) 1000 = cRo T n set 1 x 0 := by
  rw [aF_1000, cRo]
  refine aF_hats (by omega) ?_ (fun a ha => ?_) (fun a h1 h2 => ?_)
  · exact aF_zero 10 (fun b hb => aF_zero 10 (fun c hc => rs_f (by omega) (by omega) (fun q => by have := hi_1.mp q; omega)))
  · rw [if_pos (us_1 a (by omega)), aF_one (fun b h1 h2 => aF_zero 10 (fun c hc => rs_f (by omega) (by omega) (fun q => by have := hi_1.mp q; omega))), aF_one (fun c h1 h2 => rs_f (by omega) (by omega) (fun q => by have := hi_1.mp q; omega)),
      rs_t (y := x ||| T a x) (used := 0 ||| bT a) (by decide) (by decide) (hi_1.mpr (by omega)) rfl]
  · exact aF_zero 10 (fun b hb => aF_zero 10 (fun c hc => rs_f (by omega) (by omega) (fun q => by have := hi_1.mp q; omega)))
theorem cR_2 (hn : n ≤ 8) : aF (fun r => bI (rsP T n x set 2 r)) 1000 = cRo T n set 2 x 0 := by
  rw [aF_1000, cRo]
  refine aF_hats (by omega) ?_ (fun a ha => ?_) (fun a h1 h2 => ?_)
  · exact aF_zero 10 (fun b hb => aF_zero 10 (fun c hc => rs_f (by omega) (by omega) (fun q => by have := hi_2.mp q; omega)))
  · rw [if_pos (us_1 a (by omega)), cRo]
    refine aF_hats (by omega) ?_ (fun b hb => ?_) (fun b h1 h2 => ?_)
    · exact aF_zero 10 (fun c hc => rs_f (by omega) (by omega) (fun q => by have := hi_2.mp q; omega))
    · by_cases e : a = b
      · rw [if_neg (fun q => (us_2 a (by omega) b (by omega)).mp q e)]
        exact aF_zero 10 (fun c hc => rs_f (by omega) (by omega) (fun q => by have := hi_2.mp q; omega))
      · rw [if_pos ((us_2 a (by omega) b (by omega)).mpr e), aF_one (fun c h1 h2 => rs_f (by omega) (by omega) (fun q => by have := hi_2.mp q; omega)),
          rs_t (y := x ||| T a x ||| T b (x ||| T a x)) (used := 0 ||| bT a ||| bT b) (by omega) (by decide) (hi_2.mpr (by omega)) rfl]
    · exact aF_zero 10 (fun c hc => rs_f (by omega) (by omega) (fun q => by have := hi_2.mp q; omega))
  · exact aF_zero 10 (fun b hb => aF_zero 10 (fun c hc => rs_f (by omega) (by omega) (fun q => by have := hi_2.mp q; omega)))
theorem cR_3 (hn : n ≤ 8) : aF (fun r => bI (rsP T n x set 3 r)) 1000 = cRo T n set 3 x 0 := by
  rw [aF_1000, cRo]
  refine aF_hats (by omega) ?_ (fun a ha => ?_) (fun a h1 h2 => ?_)
  · exact aF_zero 10 (fun b hb => aF_zero 10 (fun c hc => rs_f (by omega) (by omega) (fun q => by have := hi_3.mp q; omega)))
  · rw [if_pos (us_1 a (by omega)), cRo]
    refine aF_hats (by omega) ?_ (fun b hb => ?_) (fun b h1 h2 => ?_)
    · exact aF_zero 10 (fun c hc => rs_f (by omega) (by omega) (fun q => by have := hi_3.mp q; omega))
    · by_cases e : a = b
      · rw [if_neg (fun q => (us_2 a (by omega) b (by omega)).mp q e)]
        exact aF_zero 10 (fun c hc => rs_f (by omega) (by omega) (fun q => by have := hi_3.mp q; omega))
      · rw [if_pos ((us_2 a (by omega) b (by omega)).mpr e), cRo]
        refine aF_hats (by omega) ?_ (fun c hc => ?_) (fun c h1 h2 => ?_)
        · exact rs_f (by omega) (by omega) (fun q => by have := hi_3.mp q; omega)
        · by_cases e2 : a ≠ c ∧ b ≠ c
          · rw [if_pos ((us_3 a (by omega) b (by omega) c (by omega)).mpr e2),
              rs_t (y := x ||| T a x ||| T b (x ||| T a x) ||| T c (x ||| T a x ||| T b (x ||| T a x))) (used := 0 ||| bT a ||| bT b ||| bT c) (by omega) (by omega) (hi_3.mpr (by omega)) rfl]
          · rw [if_neg (fun q => e2 ((us_3 a (by omega) b (by omega) c (by omega)).mp q))]
            exact rs_f (by omega) (by omega) (fun q => by have := hi_3.mp q; omega)
        · exact rs_f (by omega) (by omega) (fun q => by have := hi_3.mp q; omega)
    · exact aF_zero 10 (fun c hc => rs_f (by omega) (by omega) (fun q => by have := hi_3.mp q; omega))
  · exact aF_zero 10 (fun b hb => aF_zero 10 (fun c hc => rs_f (by omega) (by omega) (fun q => by have := hi_3.mp q; omega)))
theorem rows_eq (hn : n ≤ 8) {k : Nat} (hk : k ≤ 3) : aF (fun r => bI (rsP T n x set k r)) 1000 = cRo T n set k x 0 := by
  match k, hk with
  | 0, _ => exact cR_0
  | 1, _ => exact cR_1 hn
  | 2, _ => exact cR_2 hn
  | 3, _ => exact cR_3 hn
  | k + 4, hk => exact absurd hk (by omega)
/-- the same hats give the same rows -/
theorem fRo_c {S : Nat → Int32 → Int32} (h : ∀ i, i < n → ∀ y, T i y = S i y) : ∀ left y used u, fRo T n set left y used u = fRo S n set left y used u
  | 0, _, _, _ => rfl
  | left + 1, y, used, u => by
    rw [fRo, fRo]
    refine fstO_c n 0 (fun j _ hj => ?_)
    rw [h j (by omega), fRo_c h left]
theorem cRo_c {S : Nat → Int32 → Int32} (h : ∀ i, i < n → ∀ y, T i y = S i y) : ∀ left y used, cRo T n set left y used = cRo S n set left y used
  | 0, _, _ => rfl
  | left + 1, y, used => by
    rw [cRo, cRo]
    refine aF_c n (fun j hj => ?_)
    rw [h j hj, cRo_c h left]
end PS
