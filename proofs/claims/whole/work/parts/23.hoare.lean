/-! WHAT A RUN ESTABLISHES -/
/-- from state s method y comes to its end, makes nothing, and Z holds of its answer and the picture -/
def GE (l : Launch) (X : FX) (d y : Nat) (s : MS) (Z : Option MV → MH → Prop) : Prop := ∃ r h', GB l X d 0 0 y s r h' ∧ Z r h'
/-- a contract in every room that has d calls at least, with nothing made -/
def SK (l : Launch) (X : FX) (d y : Nat) (as : List MV) (h : MH) (r : Option MV) (h' : MH) : Prop := ∀ d2, d ≤ d2 → SB l X d2 0 0 y as h r h'
def SE (l : Launch) (X : FX) (d y : Nat) (as : List MV) (h : MH) (Z : Option MV → MH → Prop) : Prop := ∃ r h', SK l X d y as h r h' ∧ Z r h'
theorem GB.deep {l : Launch} {X : FX} {d d2 mc ms y : Nat} {s : MS} {r : Option MV} {h' : MH} (hd : d ≤ d2) (k : GB l X d mc ms y s r h') : GB l X d2 mc ms y s r h' := by
  intro p e R st m args below meth c H locs cells slots Q ad lsR C
  obtain ⟨c1, c2, c3, c4, c5, c6, c7, c8, c9⟩ := C
  exact k p e R st m args below meth c H locs cells slots Q ad lsR ⟨c1, c2, c3, c4, c5, c6, by omega, by omega, c9⟩
theorem SK.of {l : Launch} {X : FX} {d y : Nat} {r : Option MV} {h' : MH} {as : List MV} {ls : ML} {h : MH} (h0 : 0 < y) (hy : y < mj_nm) (hl : mj_lay as (mj_L y) = some ls) (k : GB l X d 0 0 y (0, ls, [], h) r h') : SK l X d y as h r h' := fun _ hd => SB.of h0 hy hl (GB.deep hd k)
theorem SK.up {l : Launch} {X : FX} {d d2 y : Nat} {r : Option MV} {h' : MH} {as : List MV} {h : MH} (k : SK l X d y as h r h') (hd : d ≤ d2) : SK l X d2 y as h r h' := fun _ h2 => k _ (Nat.le_trans hd h2)
section ME
variable {l : Launch} {X : FX} {d y : Nat} {Z : Option MV → MH → Prop}
theorem GE.go (e : Nat) {s s1 : MS} {c : List Bool} (hg : mj_go y e 300 s = (c, s1)) (hc : mj_all c) (k : GE l X d y s1 Z) : GE l X d y s Z := by
  obtain ⟨r, h', g, z⟩ := k
  exact ⟨r, h', GB.go e hg hc g, z⟩
theorem GE.eqv {s s1 : MS} (e : s = s1) (k : GE l X d y s1 Z) : GE l X d y s Z := e ▸ k
theorem GE.br {q : MI} {s s1 s2 : MS} {P : Prop} (hi : mj_ins y s.1 = some q) (hs : mj_brk q s = some (P, s1, s2)) (k1 : P → GE l X d y s1 Z) (k2 : ¬ P → GE l X d y s2 Z) : GE l X d y s Z := by
  by_cases hP : P
  · obtain ⟨r, h', g, z⟩ := k1 hP
    exact ⟨r, h', GB.br hi hs (fun _ => g) (fun n => absurd hP n), z⟩
  · obtain ⟨r, h', g, z⟩ := k2 hP
    exact ⟨r, h', GB.br hi hs (fun n => absurd n hP) (fun _ => g), z⟩
theorem GE.sw {q : MI} {s : MS} {x : Int32} {tg : List (Int32 × Nat)} {dflt : Nat} {ls : ML} {rs : List MV} {h : MH} (hi : mj_ins y s.1 = some q) (hs : mj_swi y q s = some (x, tg, dflt, ls, rs, h)) (k : GE l X d y (mj_swt tg dflt x, ls, rs, h) Z) : GE l X d y s Z := by
  obtain ⟨r, h', g, z⟩ := k
  exact ⟨r, h', GB.sw hi hs g, z⟩
theorem GE.ret {q : MI} {s : MS} {cs : List Bool} {r : Option MV} {h' : MH} (hi : mj_ins y s.1 = some q) (hs : mj_ret y q s = some (cs, r, h')) (hc : mj_all cs) (z : Z r h') : GE l X d y s Z := ⟨r, h', GB.ret hi hs hc, z⟩
theorem GE.call {q : MI} {s : MS} {y' n' d' : Nat} {as rs : List MV} {ls : ML} {h : MH} {Z' : Option MV → MH → Prop} (hi : mj_ins y s.1 = some q) (hs : mj_cll q s = some (y', as, n', ls, rs, h)) (hdd : d' + 1 ≤ d) (hSE : SE l X d' y' as h Z') (k : ∀ r' h1, Z' r' h1 → GE l X d y (n', ls, mj_pus r' rs, h1) Z) : GE l X d y s Z := by
  obtain ⟨r', h1, g', z'⟩ := hSE
  obtain ⟨r, h', g, z⟩ := k r' h1 z'
  exact ⟨r, h', GB.call (mc' := 0) (mc := 0) (ms' := 0) (ms := 0) hi hs hdd (g' _ (Nat.le_refl _)) g, z⟩
theorem GE.pic {pc : Nat} {ls : ML} {st : List MV} {h h2 : MH} (he : mj_eqv h h2) (k : GE l X d y (pc, ls, st, h2) Z) : GE l X d y (pc, ls, st, h) Z := by
  obtain ⟨r, h', g, z⟩ := k
  exact ⟨r, h', GB.pic he g, z⟩
theorem SE.of {as : List MV} {ls : ML} {h : MH} (h0 : 0 < y) (hy : y < mj_nm) (hl : mj_lay as (mj_L y) = some ls) (k : GE l X d y (0, ls, [], h) Z) : SE l X d y as h Z := by
  obtain ⟨r, h', g, z⟩ := k
  exact ⟨r, h', SK.of h0 hy hl g, z⟩
theorem SE.mono {as : List MV} {h : MH} {Z' : Option MV → MH → Prop} (k : SE l X d y as h Z') (hz : ∀ r h', Z' r h' → Z r h') : SE l X d y as h Z := by
  obtain ⟨r, h', g, z⟩ := k
  exact ⟨r, h', g, hz r h' z⟩
theorem GE.mono {s : MS} {Z' : Option MV → MH → Prop} (k : GE l X d y s Z') (hz : ∀ r h', Z' r h' → Z r h') : GE l X d y s Z := by
  obtain ⟨r, h', g, z⟩ := k
  exact ⟨r, h', g, hz r h' z⟩
/-- a loop that counts up to N, by its states at the head -/
theorem GE.upto (N : Nat) (S : Nat → MS) (body : ∀ k, k < N → GE l X d y (S (k + 1)) Z → GE l X d y (S k) Z) (fin : GE l X d y (S N) Z) : ∀ n k, k + n = N → GE l X d y (S k) Z
  | 0, k, h => by
    cases (show k = N by omega)
    exact fin
  | n + 1, k, h => body k (by omega) (GE.upto N S body fin n (k + 1) (by omega))
/-- a loop, by what holds at its head -/
theorem GE.loop (I : Nat → MS → Prop) (body : ∀ n s, I (n + 1) s → (∀ s', I n s' → GE l X d y s' Z) → GE l X d y s Z) (fin : ∀ s, I 0 s → GE l X d y s Z) : ∀ n s, I n s → GE l X d y s Z
  | 0, s, h => fin s h
  | n + 1, s, h => body n s h (fun s' h' => GE.loop I body fin n s' h')
end ME
/-! numbers -/
theorem mn_tn {i : Nat} (h : i < 2 ^ 31) : (nI i).toNatClampNeg = i := by
  unfold nI
  rw [Int32.toNatClampNeg_ofNat_of_lt h]
theorem mn_add (a b : Nat) : nI a + nI b = nI (a + b) := by
  unfold nI
  rw [Int32.ofNat_add]
theorem mn_s (a : Nat) : nI a + 1 = nI (a + 1) := mn_add a 1
theorem mn_lt {a b : Nat} (ha : a < 2 ^ 31) (hb : b < 2 ^ 31) : nI a < nI b ↔ a < b := by
  unfold nI
  exact Int32.ofNat_lt_ofNat ha hb
theorem mn_le {a b : Nat} (ha : a < 2 ^ 31) (hb : b < 2 ^ 31) : nI a ≤ nI b ↔ a ≤ b := by
  unfold nI
  exact Int32.ofNat_le_ofNat ha hb
theorem mn_inj {a b : Nat} (ha : a < 2 ^ 31) (hb : b < 2 ^ 31) : nI a = nI b ↔ a = b := by
  constructor
  · intro h
    have := congrArg Int32.toNatClampNeg h
    rwa [mn_tn ha, mn_tn hb] at this
  · intro h
    rw [h]
theorem mn_nn {a : Nat} (ha : a < 2 ^ 31) : ¬ nI a < 0 := by
  rw [show (0 : Int32) = nI 0 from rfl, mn_lt ha (by decide)]
  omega
theorem mn_vin {i n : Nat} (h : i < n) (hn : n < 2 ^ 31) : mj_vin (nI i) n = true := by
  unfold mj_vin
  rw [decide_eq_true_eq]
  rintro (h1 | h1)
  · exact mn_nn (by omega) h1
  · rw [mn_tn (by omega)] at h1
    omega
/-- a number that isn't negative -/
theorem mn_of {x : Int32} (h : ¬ x < 0) : ∃ i, i < 2 ^ 31 ∧ x = nI i := by
  refine ⟨x.toNatClampNeg, ?_, ?_⟩
  · have := Int32.toNatClampNeg_lt x
    omega
  · have h0 : 0 ≤ x := Int32.not_lt.mp h
    unfold nI
    exact (Int32.ofNat_toNatClampNeg x h0).symm
