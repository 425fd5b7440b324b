/-! ROWS OF HATS: both ways name the same -/
section PR
variable {f g : Nat → Option Nat} {P : Nat → Bool}
theorem fstO_c : ∀ N k, (∀ j, k ≤ j → j < k + N → f j = g j) → fstO f N k = fstO g N k
  | 0, _, _ => rfl
  | N + 1, k, h => by rw [fstO_or, fstO_or, h k (Nat.le_refl k) (by omega), fstO_c N (k + 1) (fun j h1 h2 => h j (by omega) (by omega))]
theorem fstO_none : ∀ N k, (∀ j, k ≤ j → j < k + N → f j = none) → fstO f N k = none
  | 0, _, _ => rfl
  | N + 1, k, h => by
    rw [fstO_or, h k (Nat.le_refl k) (by omega), fstO_none N (k + 1) (fun j h1 h2 => h j (by omega) (by omega))]
    rfl
theorem fstO_app : ∀ A B k, fstO f (A + B) k = (fstO f A k).or (fstO f B (k + A))
  | 0, B, k => by
    rw [Nat.zero_add]
    rfl
  | A + 1, B, k => by
    rw [show A + 1 + B = (A + B) + 1 by omega, fstO_or, fstO_or, fstO_app A B (k + 1), show k + 1 + A = k + (A + 1) by omega]
    cases f k <;> rfl
theorem fstO_sh : ∀ N j k, fstO f N (j + k) = fstO (fun b => f (j + b)) N k
  | 0, _, _ => rfl
  | N + 1, j, k => by rw [fstO_or, fstO_or, show j + k + 1 = j + (k + 1) by omega, fstO_sh N j (k + 1)]
theorem fstO_map {F : Nat → Nat} : ∀ N k, (fstO f N k).map F = fstO (fun b => (f b).map F) N k
  | 0, _ => rfl
  | N + 1, k => by
    rw [fstO_or, fstO_or, ← fstO_map N (k + 1)]
    cases f k <;> rfl
theorem fstO_ten : ∀ N k, fstO f (10 * N) (10 * k) = fstO (fun a => fstO (fun b => f (10 * a + b)) 10 0) N k
  | 0, _ => rfl
  | N + 1, k => by
    rw [show 10 * (N + 1) = 10 + 10 * N by omega, fstO_app, show 10 * k + 10 = 10 * (k + 1) by omega, fstO_ten N (k + 1), show fstO f 10 (10 * k) = fstO (fun b => f (10 * k + b)) 10 0 from fstO_sh 10 (10 * k) 0]
    exact (fstO_or (f := fun a => fstO (fun b => f (10 * a + b)) 10 0)).symm
def pO (P : Nat → Bool) (r : Nat) : Option Nat := cond (P r) (some r) none
theorem fstK_O : ∀ N k, fstK P N k = fstO (pO P) N k
  | 0, _ => rfl
  | N + 1, k => by
    rw [fstK, fstO_or, fstK_O N (k + 1), pO]
    cases P k <;> rfl
theorem fstK_1000 : fstK P 1000 0 = fstO (fun a => fstO (fun b => fstO (fun c => pO P (10 * (10 * a + b) + c)) 10 0) 10 0) 10 0 := by
  rw [fstK_O, show (1000 : Nat) = 10 * 100 from rfl, show (0 : Nat) = 10 * 0 from rfl, fstO_ten, show (100 : Nat) = 10 * 10 from rfl, show (0 : Nat) = 10 * 0 from rfl, fstO_ten]
/-- ten turns, of which only those of hats tell something -/
theorem fstO_hats {n : Nat} (hn : n ≤ 9) (h0 : f 0 = none) (h1 : ∀ h, h < n → f (h + 1) = g h) (h2 : ∀ h, n ≤ h → h < 9 → f (h + 1) = none) : fstO f 10 0 = fstO g n 0 := by
  rw [fstO_or, h0, show (9 : Nat) = n + (9 - n) by omega, fstO_app, fstO_none (9 - n) (0 + 1 + n) (fun j k1 k2 => by rw [show j = (j - 1) + 1 by omega]; exact h2 _ (by omega) (by omega))]
  rw [show fstO f n (0 + 1) = fstO (fun b => f (1 + b)) n 0 from fstO_sh n 1 0, fstO_c (g := g) n 0 (fun j _ k2 => by rw [show 1 + j = j + 1 by omega]; exact h1 j (by omega))]
  cases fstO g n 0 <;> rfl
end PR
theorem hiN_iff {n a b c k : Nat} : hiN n a b c = some k ↔ (a ≤ n ∧ b ≤ n ∧ c ≤ n) ∧ ¬ ((0 < a ∧ (a = b ∨ a = c)) ∨ (0 < b ∧ b = c)) ∧ ¬ ((a = 0 ∧ 0 < b) ∨ (b = 0 ∧ 0 < c)) ∧ ct1 a + ct1 b + ct1 c = k := by
  unfold hiN
  by_cases h1 : a ≤ n ∧ b ≤ n ∧ c ≤ n
  · rw [show arP n a b c = true from decide_eq_true h1]
    by_cases h2 : (0 < a ∧ (a = b ∨ a = c)) ∨ (0 < b ∧ b = c)
    · rw [show twP a b c = true from decide_eq_true h2]
      exact ⟨fun h => (by cases h), fun h => absurd h2 h.2.1⟩
    · rw [show twP a b c = false from decide_eq_false h2]
      by_cases h3 : (a = 0 ∧ 0 < b) ∨ (b = 0 ∧ 0 < c)
      · rw [show gpP a b c = true from decide_eq_true h3]
        exact ⟨fun h => (by cases h), fun h => absurd h3 h.2.2.1⟩
      · rw [show gpP a b c = false from decide_eq_false h3]
        exact ⟨fun h => ⟨h1, h2, h3, Option.some.inj h⟩, fun h => congrArg some h.2.2.2⟩
  · rw [show arP n a b c = false from decide_eq_false h1]
    exact ⟨fun h => (by cases h), fun h => absurd h.1 h1⟩
theorem ct1_0 {a : Nat} : ct1 a = 0 ↔ a = 0 := by unfold ct1; split <;> omega
theorem ct1_1 {a : Nat} : ct1 a = 1 ↔ 0 < a := by unfold ct1; split <;> omega
theorem ct1_le (a : Nat) : ct1 a ≤ 1 := by unfold ct1; split <;> omega
theorem hi_0 {n a b c : Nat} : hiN n a b c = some 0 ↔ a = 0 ∧ b = 0 ∧ c = 0 := by
  rw [hiN_iff]
  have := ct1_0 (a := a)
  have := ct1_0 (a := b)
  have := ct1_0 (a := c)
  constructor <;> intro h <;> omega
theorem hi_1 {n a b c : Nat} : hiN n a b c = some 1 ↔ 0 < a ∧ a ≤ n ∧ b = 0 ∧ c = 0 := by
  rw [hiN_iff]
  have := ct1_0 (a := a)
  have := ct1_0 (a := b)
  have := ct1_0 (a := c)
  have := ct1_1 (a := a)
  have := ct1_1 (a := b)
  have := ct1_1 (a := c)
  have := ct1_le a
  have := ct1_le b
  have := ct1_le c
  constructor <;> intro h <;> omega
theorem hi_2 {n a b c : Nat} : hiN n a b c = some 2 ↔ 0 < a ∧ a ≤ n ∧ 0 < b ∧ b ≤ n ∧ a ≠ b ∧ c = 0 := by
  rw [hiN_iff]
  have := ct1_0 (a := a)
  have := ct1_0 (a := b)
  have := ct1_0 (a := c)
  have := ct1_1 (a := a)
  have := ct1_1 (a := b)
  have := ct1_1 (a := c)
  have := ct1_le a
  have := ct1_le b
  have := ct1_le c
  constructor <;> intro h <;> omega
theorem hi_3 {n a b c : Nat} : hiN n a b c = some 3 ↔ 0 < a ∧ a ≤ n ∧ 0 < b ∧ b ≤ n ∧ a ≠ b ∧ 0 < c ∧ c ≤ n ∧ a ≠ c ∧ b ≠ c := by
  rw [hiN_iff]
  have := ct1_0 (a := a)
  have := ct1_0 (a := b)
  have := ct1_0 (a := c)
  have := ct1_1 (a := a)
  have := ct1_1 (a := b)
  have := ct1_1 (a := c)
  have := ct1_le a
  have := ct1_le b
  have := ct1_le c
  constructor <;> intro h <;> omega
theorem us_1 : ∀ q, q < 8 → (0 : Int32) &&& bT q = 0 := by decide +kernel
theorem us_2 : ∀ p, p < 8 → ∀ q, q < 8 → ((0 ||| bT p) &&& bT q = 0 ↔ p ≠ q) := by decide +kernel
theorem us_3 : ∀ p, p < 8 → ∀ q, q < 8 → ∀ r, r < 8 → (((0 ||| bT p) ||| bT q) &&& bT r = 0 ↔ p ≠ r ∧ q ≠ r) := by decide +kernel
/-- all of a set is had: both ways of asking -/
theorem sub_iff {x s : Int32} : x &&& s = s ↔ s &&& (x ^^^ -1) = 0 := by
  constructor
  · intro h
    refine i32_ext (fun i hi => ?_)
    have h1 := congrArg (fun z => z.toBitVec.getLsbD i) h
    have hm : (Int32.toBitVec (-1)).getLsbD i = true := by
      have : ∀ i, i < 32 → (Int32.toBitVec (-1)).getLsbD i = true := by decide
      exact this i hi
    simp only [Int32.toBitVec_and, Int32.toBitVec_xor, BitVec.getLsbD_and, BitVec.getLsbD_xor] at *
    rw [hm]
    revert h1
    cases x.toBitVec.getLsbD i <;> cases s.toBitVec.getLsbD i <;> simp
  · intro h
    refine i32_ext (fun i hi => ?_)
    have h1 := congrArg (fun z => z.toBitVec.getLsbD i) h
    have hm : (Int32.toBitVec (-1)).getLsbD i = true := by
      have : ∀ i, i < 32 → (Int32.toBitVec (-1)).getLsbD i = true := by decide
      exact this i hi
    simp only [Int32.toBitVec_and, Int32.toBitVec_xor, BitVec.getLsbD_and, BitVec.getLsbD_xor] at *
    rw [hm] at h1
    revert h1
    cases x.toBitVec.getLsbD i <;> cases s.toBitVec.getLsbD i <;> simp
section PR
variable {T : Nat → Int32 → Int32} {n : Nat} {x set : Int32}
theorem dg_3 {a b c : Nat} (hb : b < 10) (hc : c < 10) : (10 * (10 * a + b) + c) / 100 = a ∧ (10 * (10 * a + b) + c) / 10 % 10 = b ∧ (10 * (10 * a + b) + c) % 10 = c := by omega
theorem ro_dg {k a b c : Nat} (hb : b < 10) (hc : c < 10) : roP T n x set k (10 * (10 * a + b) + c) = decide (hiN n a b c = some k ∧ set &&& (hv T c (hv T b (hv T a x)) ^^^ -1) = 0) := by
  obtain ⟨e1, e2, e3⟩ := dg_3 (a := a) hb hc
  unfold roP rwH
  rw [e1, e2, e3]
theorem rs_dg {k a b c : Nat} (hb : b < 10) (hc : c < 10) : rsP T n x set k (10 * (10 * a + b) + c) = decide (hiN n a b c = some k ∧ hv T c (hv T b (hv T a x)) = set) := by
  obtain ⟨e1, e2, e3⟩ := dg_3 (a := a) hb hc
  unfold rsP rwH
  rw [e1, e2, e3]
theorem pO_f {P : Nat → Bool} {r : Nat} (h : P r = false) : pO P r = none := by unfold pO; rw [h]; rfl
/-- no hat more -/
theorem row_0 {y : Int32} {r k : Nat} (h : roP T n x set k r = decide (set &&& (y ^^^ -1) = 0)) {used : Int32} {u : Nat} : pO (roP T n x set k) r = (fRo T n set 0 y used u).map (fun z => r + z) := by
  unfold pO fRo
  rw [h]
  by_cases q : y &&& set = set
  · rw [if_pos q, decide_eq_true (sub_iff.mp q)]
    rfl
  · rw [if_neg q, decide_eq_false (fun z => q (sub_iff.mpr z))]
    rfl
theorem ro_f {k a b c : Nat} (hb : b < 10) (hc : c < 10) (h : ¬ hiN n a b c = some k) : pO (roP T n x set k) (10 * (10 * a + b) + c) = none := pO_f (by rw [ro_dg hb hc]; exact decide_eq_false (fun q => h q.1))
theorem ro_t {k a b c : Nat} (hb : b < 10) (hc : c < 10) (h : hiN n a b c = some k) {y : Int32} (hy : hv T c (hv T b (hv T a x)) = y) {used : Int32} {u : Nat} : pO (roP T n x set k) (10 * (10 * a + b) + c) = (fRo T n set 0 y used u).map (fun z => 10 * (10 * a + b) + c + z) := row_0 (by
  rw [ro_dg hb hc, hy]
  exact decide_eq_decide.mpr ⟨fun q => q.2, fun q => ⟨h, q⟩⟩)
theorem mapmap {o : Option Nat} {F G : Nat → Nat} : (o.map F).map G = o.map (fun z => G (F z)) := by cases o <;> rfl
theorem map_c {o : Option Nat} {F G : Nat → Nat} (h : ∀ z, F z = G z) : o.map F = o.map G := by
  cases o with
  | none => rfl
  | some z => exact congrArg some (h z)
theorem fst_1 {f : Nat → Option Nat} (h : ∀ j, 1 ≤ j → j < 10 → f j = none) : fstO f 10 0 = f 0 := by
  rw [fstO_or, fstO_none 9 1 (fun j h1 h2 => h j h1 (by omega))]
  cases f 0 <;> rfl
theorem fR_0 : fstK (roP T n x set 0) 1000 0 = fRo T n set 0 x 0 100 := by
  rw [fstK_1000, fst_1 (fun a h1 h2 => fstO_none 10 0 (fun b _ hb => fstO_none 10 0 (fun c _ hc => ro_f (by omega) (by omega) (fun q => by have := hi_0.mp q; omega)))),
    fst_1 (fun b h1 h2 => fstO_none 10 0 (fun c _ hc => ro_f (by omega) (by omega) (fun q => by have := hi_0.mp q; omega))), fst_1 (fun c h1 h2 => ro_f (by omega) (by omega) (fun q => by have := hi_0.mp q; omega)),
    ro_t (y := x) (used := 0) (u := 100) (by decide) (by decide) (hi_0.mpr ⟨rfl, rfl, rfl⟩) rfl]
  cases fRo T n set 0 x 0 100 with
  | none => rfl
  | some z =>
    show some (10 * (10 * 0 + 0) + 0 + z) = some z
    rw [show 10 * (10 * 0 + 0) + 0 + z = z by omega]
theorem fR_1 (hn : n ≤ 8) : fstK (roP T n x set 1) 1000 0 = fRo T n set 1 x 0 100 := by
  rw [fstK_1000, fRo]
  refine fstO_hats (by omega) ?_ (fun a ha => ?_) (fun a h1 h2 => ?_)
  · exact fstO_none 10 0 (fun b _ hb => fstO_none 10 0 (fun c _ hc => ro_f (by omega) (by omega) (fun q => by have := hi_1.mp q; omega)))
  · rw [if_pos (us_1 a (by omega)), fst_1 (fun b h1 h2 => fstO_none 10 0 (fun c _ hc => ro_f (by omega) (by omega) (fun q => by have := hi_1.mp q; omega))), fst_1 (fun c h1 h2 => ro_f (by omega) (by omega) (fun q => by have := hi_1.mp q; omega)),
      ro_t (y := x ||| T a x) (used := 0 ||| bT a) (u := 100 / 10) (by decide) (by decide) (hi_1.mpr (by omega)) rfl]
    exact map_c (fun z => by omega)
  · exact fstO_none 10 0 (fun b _ hb => fstO_none 10 0 (fun c _ hc => ro_f (by omega) (by omega) (fun q => by have := hi_1.mp q; omega)))
theorem fR_2 (hn : n ≤ 8) : fstK (roP T n x set 2) 1000 0 = fRo T n set 2 x 0 100 := by
  rw [fstK_1000, fRo]
  refine fstO_hats (by omega) ?_ (fun a ha => ?_) (fun a h1 h2 => ?_)
  · exact fstO_none 10 0 (fun b _ hb => fstO_none 10 0 (fun c _ hc => ro_f (by omega) (by omega) (fun q => by have := hi_2.mp q; omega)))
  · rw [if_pos (us_1 a (by omega)), fRo, fstO_map]
    refine fstO_hats (by omega) ?_ (fun b hb => ?_) (fun b h1 h2 => ?_)
    · exact fstO_none 10 0 (fun c _ hc => ro_f (by omega) (by omega) (fun q => by have := hi_2.mp q; omega))
    · by_cases e : a = b
      · rw [if_neg (fun q => (us_2 a (by omega) b (by omega)).mp q e)]
        exact fstO_none 10 0 (fun c _ hc => ro_f (by omega) (by omega) (fun q => by have := hi_2.mp q; omega))
      · rw [if_pos ((us_2 a (by omega) b (by omega)).mpr e), fst_1 (fun c h1 h2 => ro_f (by omega) (by omega) (fun q => by have := hi_2.mp q; omega)),
          ro_t (y := x ||| T a x ||| T b (x ||| T a x)) (used := 0 ||| bT a ||| bT b) (u := 100 / 10 / 10) (by omega) (by decide) (hi_2.mpr (by omega)) rfl, mapmap]
        exact map_c (fun z => by omega)
    · exact fstO_none 10 0 (fun c _ hc => ro_f (by omega) (by omega) (fun q => by have := hi_2.mp q; omega))
  · exact fstO_none 10 0 (fun b _ hb => fstO_none 10 0 (fun c _ hc => ro_f (by omega) (by omega) (fun q => by have := hi_2.mp q; omega)))
theorem fR_3 (hn : n ≤ 8) : fstK (roP T n x set 3) 1000 0 = fRo T n set 3 x 0 100 := by
  rw [fstK_1000, fRo]
  refine fstO_hats (by omega) ?_ (fun a ha => ?_) (fun a h1 h2 => ?_)
  · exact fstO_none 10 0 (fun b _ hb => fstO_none 10 0 (fun c _ hc => ro_f (by omega) (by omega) (fun q => by have := hi_3.mp q; omega)))
  · rw [if_pos (us_1 a (by omega)), fRo, fstO_map]
    refine fstO_hats (by omega) ?_ (fun b hb => ?_) (fun b h1 h2 => ?_)
    · exact fstO_none 10 0 (fun c _ hc => ro_f (by omega) (by omega) (fun q => by have := hi_3.mp q; omega))
    · by_cases e : a = b
      · rw [if_neg (fun q => (us_2 a (by omega) b (by omega)).mp q e)]
        exact fstO_none 10 0 (fun c _ hc => ro_f (by omega) (by omega) (fun q => by have := hi_3.mp q; omega))
      · rw [if_pos ((us_2 a (by omega) b (by omega)).mpr e), fRo, fstO_map, fstO_map]
        refine fstO_hats (by omega) ?_ (fun c hc => ?_) (fun c h1 h2 => ?_)
        · exact ro_f (by omega) (by omega) (fun q => by have := hi_3.mp q; omega)
        · by_cases e2 : a ≠ c ∧ b ≠ c
          · rw [if_pos ((us_3 a (by omega) b (by omega) c (by omega)).mpr e2),
              ro_t (y := x ||| T a x ||| T b (x ||| T a x) ||| T c (x ||| T a x ||| T b (x ||| T a x))) (used := 0 ||| bT a ||| bT b ||| bT c) (u := 100 / 10 / 10 / 10) (by omega) (by omega) (hi_3.mpr (by omega)) rfl, mapmap, mapmap]
            exact map_c (fun z => by omega)
          · rw [if_neg (fun q => e2 ((us_3 a (by omega) b (by omega) c (by omega)).mp q))]
            exact ro_f (by omega) (by omega) (fun q => by have := hi_3.mp q; omega)
        · exact ro_f (by omega) (by omega) (fun q => by have := hi_3.mp q; omega)
    · exact fstO_none 10 0 (fun c _ hc => ro_f (by omega) (by omega) (fun q => by have := hi_3.mp q; omega))
  · exact fstO_none 10 0 (fun b _ hb => fstO_none 10 0 (fun c _ hc => ro_f (by omega) (by omega) (fun q => by have := hi_3.mp q; omega)))
theorem row_eq (hn : n ≤ 8) : fstO (fun k => fstK (roP T n x set k) 1000 0) 4 0 = fstO (fun k => fRo T n set k x 0 100) 4 0 := by
  refine fstO_c 4 0 (fun j _ hj => ?_)
  match j, hj with
  | 0, _ => exact fR_0
  | 1, _ => exact fR_1 hn
  | 2, _ => exact fR_2 hn
  | 3, _ => exact fR_3 hn
  | j + 4, hj => exact absurd hj (by omega)
end PR
