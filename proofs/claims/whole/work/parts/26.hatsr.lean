/-! HATS: what is only read -/
/-- the bits of the first n thoughts that are at least so fresh -/
def hF (f : Nat → Int32) (least : Int32) : Nat → Int32
  | 0 => 0
  | n + 1 => if f n < least then hF f least n else hF f least n ||| bT n
def aF (f : Nat → Int32) : Nat → Int32
  | 0 => 0
  | n + 1 => aF f n + f n
/-- what is taken, by the kind -/
def tkO (c : Nat) (held firm has : Int32) : Int32 := match c with
  | 0 => held
  | 1 => held &&& firm
  | 2 => (held &&& (has ^^^ -1)) &&& -(held &&& (has ^^^ -1))
  | 3 => held &&& (has ^^^ -1)
  | 4 => if held &&& firm = 0 then 0 else held &&& firm ||| 1
  | _ => topB 12 (held &&& (has ^^^ -1))
def kpO (c : Nat) (has : Int32) : Int32 := match c with
  | 2 => 4
  | 3 => if (1 : Int32) < 9 - bC has then 9 - bC has else 1
  | 5 => 5
  | _ => 9
def fdO (c : Nat) (w : Int32) : Int32 := match c with
  | 1 => iR w 2
  | 2 => 2
  | 4 => iR w 2 + (if iR w 3 = 0 then 1 else 0)
  | _ => 1
theorem six {n : Nat} (h : n < 6) : n = 0 ∨ n = 1 ∨ n = 2 ∨ n = 3 ∨ n = 4 ∨ n = 5 := by omega
/-- the methods of the kinds by number -/
def vAl (c : Nat) : Nat := match c with
  | 0 => 28
  | 1 => 11
  | 2 => 56
  | 3 => 7
  | 4 => 37
  | _ => 2
def vTk (c : Nat) : Nat := match c with
  | 0 => 29
  | 1 => 12
  | 2 => 57
  | 3 => 8
  | 4 => 38
  | _ => 57
def vKp (c : Nat) : Nat := match c with
  | 0 => 30
  | 1 => 30
  | 2 => 59
  | 3 => 9
  | 4 => 30
  | _ => 4
def vFd (c : Nat) : Nat := match c with
  | 0 => 31
  | 1 => 13
  | 2 => 60
  | 3 => 31
  | 4 => 39
  | _ => 5
def alO (c : Nat) (v : Int32) : Bool := match c with
  | 0 => decide (v = 0)
  | 1 => decide (v = 1 ∨ v = 0)
  | 2 => decide (v = 2 ∨ v = 0)
  | 3 => decide (v = 3 ∨ v = 0)
  | 4 => decide (v = 4 ∨ v = 1 ∨ v = 0)
  | _ => decide (v = 5 ∨ v = 2 ∨ v = 0)
theorem mj_six {α : Type} {n : Nat} {f g : Nat → α} (h : n < 6) (h0 : f 0 = g 0) (h1 : f 1 = g 1) (h2 : f 2 = g 2) (h3 : f 3 = g 3) (h4 : f 4 = g 4) (h5 : f 5 = g 5) : f n = g n := by
  rcases six h with e | e | e | e | e | e
  all_goals rw [e]
  all_goals assumption
theorem k_also {l : Launch} {X : FX} {c : Nat} (h : MH) (hc : c < 6) (v : Int32) : SK l X 3 (vAl c) [vR (c + 11) 0, vI v] h (some (vI (bI (alO c v)))) h := by
  rcases six hc with rfl | rfl | rfl | rfl | rfl | rfl
  · exact (k_also0 h 11 v).up (by decide)
  · exact (k_also1 h 12 (Or.inl rfl) v).up (by decide)
  · exact (k_also2 h 13 (Or.inl rfl) v).up (by decide)
  · exact (k_also3 h v).up (by decide)
  · exact k_also4 h v
  · exact k_also5 h v
theorem k_tak {l : Launch} {X : FX} {c : Nat} (h : MH) (hc : c < 6) (a b v : Int32) : SK l X 3 (vTk c) [vR (c + 11) 0, vI a, vI b, vI v] h (some (vI (tkO c a b v))) h := by
  rcases six hc with rfl | rfl | rfl | rfl | rfl | rfl
  · exact (k_tak0 h 11 a b v).up (by decide)
  · exact (k_tak1 h 12 (Or.inl rfl) a b v).up (by decide)
  · exact (k_tak2 h a b v).up (by decide)
  · exact (k_tak3 h a b v).up (by decide)
  · exact k_tak4 h a b v
  · exact (k_tak5 h a b v).up (by decide)
theorem k_kep {l : Launch} {X : FX} {c : Nat} (h : MH) (hc : c < 6) (v : Int32) : SK l X 3 (vKp c) [vR (c + 11) 0, vI v] h (some (vI (kpO c v))) h := by
  rcases six hc with rfl | rfl | rfl | rfl | rfl | rfl
  · exact (k_kep0 h 11 v).up (by decide)
  · exact (k_kep0 h 12 v).up (by decide)
  · exact (k_kep2 h 13 (Or.inl rfl) v).up (by decide)
  · exact (k_kep3 h v).up (by decide)
  · exact (k_kep0 h 15 v).up (by decide)
  · exact k_kep5 h v
theorem k_fad {l : Launch} {X : FX} {c : Nat} (h : MH) (hc : c < 6) (v : Int32) : SK l X 3 (vFd c) [vR (c + 11) 0, vI v] h (some (vI (fdO c v))) h := by
  rcases six hc with rfl | rfl | rfl | rfl | rfl | rfl
  · exact (k_fad0 h 11 v).up (by decide)
  · exact (k_fad1 h 12 v).up (by decide)
  · exact (k_fad2 h 13 (Or.inl rfl) v).up (by decide)
  · exact (k_fad0 h 14 v).up (by decide)
  · exact (k_fad4 h v).up (by decide)
  · exact k_fad5 h v
section MV
variable {l : Launch} {X : FX}
theorem GB.also {y pc x n' d c : Nat} {w : Int32} {ls : ML} {rs : List MV} {h h' : MH} {a : Int32} {r : Option MV} (hc : c < 6) (hi : mj_ins y pc = some (.invokevirtual x, n', w, 2, 0, 1)) (hd : 3 + 1 ≤ d) (hr : Nat.ble (rs.map mj_cat).sum 8 = true) (k : GB l X d 0 0 y (n', ls, vI (bI (alO c a)) :: rs, h) r h') : GB l X d 0 0 y (pc, ls, vI a :: vR (c + 11) 0 :: rs, h) r h' := by
  obtain ⟨ii, jj, rr, n⟩ := h
  refine GB.cal (d' := 3) (y' := vAl c) (as := [vR (c + 11) 0, vI a]) (n' := n') (ls := ls) (rs := rs) hi ?_ hd (k_also _ hc a) k
  rcases six hc with rfl | rfl | rfl | rfl | rfl | rfl <;> (show cond (Nat.ble (rs.map mj_cat).sum 8) (some _) none = _; rw [hr]; rfl)
theorem GE.also {y pc x n' d c : Nat} {w : Int32} {ls : ML} {rs : List MV} {h : MH} {a : Int32} {Z : Option MV → MH → Prop} (hc : c < 6) (hi : mj_ins y pc = some (.invokevirtual x, n', w, 2, 0, 1)) (hd : 3 + 1 ≤ d) (hr : Nat.ble (rs.map mj_cat).sum 8 = true) (k : GE l X d y (n', ls, vI (bI (alO c a)) :: rs, h) Z) : GE l X d y (pc, ls, vI a :: vR (c + 11) 0 :: rs, h) Z := by
  obtain ⟨r, h', g, z⟩ := k
  exact ⟨r, h', GB.also hc hi hd hr g, z⟩
theorem GB.tak {y pc x n' d c : Nat} {w : Int32} {ls : ML} {rs : List MV} {h h' : MH} {a b v : Int32} {r : Option MV} (hc : c < 6) (hi : mj_ins y pc = some (.invokevirtual x, n', w, 2, 1, 3)) (hd : 3 + 1 ≤ d) (hr : Nat.ble (rs.map mj_cat).sum 8 = true) (k : GB l X d 0 0 y (n', ls, vI (tkO c a b v) :: rs, h) r h') : GB l X d 0 0 y (pc, ls, vI v :: vI b :: vI a :: vR (c + 11) 0 :: rs, h) r h' := by
  obtain ⟨ii, jj, rr, n⟩ := h
  refine GB.cal (d' := 3) (y' := vTk c) (as := [vR (c + 11) 0, vI a, vI b, vI v]) (n' := n') (ls := ls) (rs := rs) hi ?_ hd (k_tak _ hc a b v) k
  rcases six hc with rfl | rfl | rfl | rfl | rfl | rfl <;> (show cond (Nat.ble (rs.map mj_cat).sum 8) (some _) none = _; rw [hr]; rfl)
theorem GE.tak {y pc x n' d c : Nat} {w : Int32} {ls : ML} {rs : List MV} {h : MH} {a b v : Int32} {Z : Option MV → MH → Prop} (hc : c < 6) (hi : mj_ins y pc = some (.invokevirtual x, n', w, 2, 1, 3)) (hd : 3 + 1 ≤ d) (hr : Nat.ble (rs.map mj_cat).sum 8 = true) (k : GE l X d y (n', ls, vI (tkO c a b v) :: rs, h) Z) : GE l X d y (pc, ls, vI v :: vI b :: vI a :: vR (c + 11) 0 :: rs, h) Z := by
  obtain ⟨r, h', g, z⟩ := k
  exact ⟨r, h', GB.tak hc hi hd hr g, z⟩
theorem GB.kep {y pc x n' d c : Nat} {w : Int32} {ls : ML} {rs : List MV} {h h' : MH} {a : Int32} {r : Option MV} (hc : c < 6) (hi : mj_ins y pc = some (.invokevirtual x, n', w, 2, 2, 1)) (hd : 3 + 1 ≤ d) (hr : Nat.ble (rs.map mj_cat).sum 8 = true) (k : GB l X d 0 0 y (n', ls, vI (kpO c a) :: rs, h) r h') : GB l X d 0 0 y (pc, ls, vI a :: vR (c + 11) 0 :: rs, h) r h' := by
  obtain ⟨ii, jj, rr, n⟩ := h
  refine GB.cal (d' := 3) (y' := vKp c) (as := [vR (c + 11) 0, vI a]) (n' := n') (ls := ls) (rs := rs) hi ?_ hd (k_kep _ hc a) k
  rcases six hc with rfl | rfl | rfl | rfl | rfl | rfl <;> (show cond (Nat.ble (rs.map mj_cat).sum 8) (some _) none = _; rw [hr]; rfl)
theorem GE.kep {y pc x n' d c : Nat} {w : Int32} {ls : ML} {rs : List MV} {h : MH} {a : Int32} {Z : Option MV → MH → Prop} (hc : c < 6) (hi : mj_ins y pc = some (.invokevirtual x, n', w, 2, 2, 1)) (hd : 3 + 1 ≤ d) (hr : Nat.ble (rs.map mj_cat).sum 8 = true) (k : GE l X d y (n', ls, vI (kpO c a) :: rs, h) Z) : GE l X d y (pc, ls, vI a :: vR (c + 11) 0 :: rs, h) Z := by
  obtain ⟨r, h', g, z⟩ := k
  exact ⟨r, h', GB.kep hc hi hd hr g, z⟩
theorem GB.fad {y pc x n' d c : Nat} {w : Int32} {ls : ML} {rs : List MV} {h h' : MH} {a : Int32} {r : Option MV} (hc : c < 6) (hi : mj_ins y pc = some (.invokevirtual x, n', w, 2, 3, 1)) (hd : 3 + 1 ≤ d) (hr : Nat.ble (rs.map mj_cat).sum 8 = true) (k : GB l X d 0 0 y (n', ls, vI (fdO c a) :: rs, h) r h') : GB l X d 0 0 y (pc, ls, vI a :: vR (c + 11) 0 :: rs, h) r h' := by
  obtain ⟨ii, jj, rr, n⟩ := h
  refine GB.cal (d' := 3) (y' := vFd c) (as := [vR (c + 11) 0, vI a]) (n' := n') (ls := ls) (rs := rs) hi ?_ hd (k_fad _ hc a) k
  rcases six hc with rfl | rfl | rfl | rfl | rfl | rfl <;> (show cond (Nat.ble (rs.map mj_cat).sum 8) (some _) none = _; rw [hr]; rfl)
theorem GE.fad {y pc x n' d c : Nat} {w : Int32} {ls : ML} {rs : List MV} {h : MH} {a : Int32} {Z : Option MV → MH → Prop} (hc : c < 6) (hi : mj_ins y pc = some (.invokevirtual x, n', w, 2, 3, 1)) (hd : 3 + 1 ≤ d) (hr : Nat.ble (rs.map mj_cat).sum 8 = true) (k : GE l X d y (n', ls, vI (fdO c a) :: rs, h) Z) : GE l X d y (pc, ls, vI a :: vR (c + 11) 0 :: rs, h) Z := by
  obtain ⟨r, h', g, z⟩ := k
  exact ⟨r, h', GB.fad hc hi hd hr g, z⟩
end MV
section MH
variable {l : Launch} {X : FX} {ii : Nat → Nat → Nat → Int32} {jj : Nat → Nat → Nat → Int64} {kd : Nat → Nat}
theorem k_heldFrom (i : Nat) (a : Int32) : SK l X 1 19 [vR 20 i, vI a] (ii, jj, mj_rk kd, 108) (some (vI (hF (ii 21 i) a 12))) (ii, jj, mj_rk kd, 108) := by
  refine SK.of (by decide) (by decide) rfl ?_
  refine GB.go 4 rfl aB0 ?_
  refine GB.upto 12 (fun k => (4, [some (vR 20 i), some (vI a), some (vI (hF (ii 21 i) a k)), some (vI (nI k))], [], (ii, jj, mj_rk kd, 108))) (fun k hk ih => ?_) ?_ 12 0 rfl
  · refine GB.go 9999 rfl aB0 ?_
    refine GB.br rfl rfl (fun c => ?_) (fun c => ?_)
    · exact absurd c (nI_ge hk (by decide))
    · refine GB.go 9999 rfl (aB1 (mn_vin hk (by decide)) aB0) ?_
      rw [nI_clamp (show k < 2 ^ 31 by omega)]
      refine GB.br rfl rfl (fun c2 => ?_) (fun c2 => ?_)
      · refine GB.go 4 rfl aB0 ?_
        rw [show hF (ii 21 i) a (k + 1) = hF (ii 21 i) a k from if_pos c2, nI_succ] at ih
        exact ih
      · refine GB.go 4 rfl aB0 ?_
        rw [show hF (ii 21 i) a (k + 1) = hF (ii 21 i) a k ||| bT k from if_neg c2, nI_succ] at ih
        exact ih
  · refine GB.go 9999 rfl aB0 ?_
    refine GB.br rfl rfl (fun c => ?_) (fun c => ?_)
    · refine GB.go 9999 rfl aB0 ?_
      exact GB.ret rfl rfl aB0
    · exact absurd (Int32.le_refl _) c
theorem k_held (i : Nat) : SK l X 2 18 [vR 20 i] (ii, jj, mj_rk kd, 108) (some (vI (hF (ii 21 i) 1 12))) (ii, jj, mj_rk kd, 108) := by
  refine SK.of (by decide) (by decide) rfl ?_
  refine GB.go 9999 rfl aB0 ?_
  refine GB.cal rfl rfl (by decide) (k_heldFrom i 1) ?_
  exact GB.ret rfl rfl aB0
theorem k_hatFresh (i : Nat) : SK l X 1 20 [vR 20 i] (ii, jj, mj_rk kd, 108) (some (vI (aF (ii 21 i) 12))) (ii, jj, mj_rk kd, 108) := by
  refine SK.of (by decide) (by decide) rfl ?_
  refine GB.go 4 rfl aB0 ?_
  refine GB.upto 12 (fun k => (4, [some (vR 20 i), some (vI (aF (ii 21 i) k)), some (vI (nI k))], [], (ii, jj, mj_rk kd, 108))) (fun k hk ih => ?_) ?_ 12 0 rfl
  · refine GB.go 9999 rfl aB0 ?_
    refine GB.br rfl rfl (fun c => ?_) (fun c => ?_)
    · exact absurd c (nI_ge hk (by decide))
    · refine GB.go 4 rfl (aB1 (mn_vin hk (by decide)) aB0) ?_
      rw [nI_clamp (show k < 2 ^ 31 by omega)]
      rw [show aF (ii 21 i) (k + 1) = aF (ii 21 i) k + ii 21 i k from rfl, nI_succ] at ih
      exact ih
  · refine GB.go 9999 rfl aB0 ?_
    refine GB.br rfl rfl (fun c => ?_) (fun c => ?_)
    · refine GB.go 9999 rfl aB0 ?_
      exact GB.ret rfl rfl aB0
    · exact absurd (Int32.le_refl _) c
theorem k_takenBy (i : Nat) (hi : kd i < 6) (a : Int32) : SK l X 5 21 [vR 20 i, vI a] (ii, jj, mj_rk kd, 108) (some (vI (tkO (kd i) (hF (ii 21 i) 1 12) (hF (ii 21 i) 3 12) a))) (ii, jj, mj_rk kd, 108) := by
  refine SK.of (by decide) (by decide) rfl ?_
  refine GB.go 9999 rfl aB0 ?_
  refine GB.cal rfl rfl (by decide) (k_held i) ?_
  refine GB.go 9999 rfl aB0 ?_
  refine GB.cal rfl rfl (by decide) (k_heldFrom i 3) ?_
  refine GB.go 9999 rfl aB0 ?_
  refine GB.tak hi rfl (by decide) rfl ?_
  exact GB.ret rfl rfl aB0
theorem k_canCome (i : Nat) (hi : kd i < 6) (a : Int32) : SK l X 5 23 [vR 20 i, vI a] (ii, jj, mj_rk kd, 108) (some (vI (bI (decide (hF (ii 21 i) (kpO (kd i) a) 12 &&& a = a))))) (ii, jj, mj_rk kd, 108) := by
  refine SK.of (by decide) (by decide) rfl ?_
  refine GB.go 9999 rfl aB0 ?_
  refine GB.kep hi rfl (by decide) rfl ?_
  refine GB.cal rfl rfl (by decide) (k_heldFrom i _) ?_
  refine GB.go 9999 rfl aB0 ?_
  refine GB.br rfl rfl (fun c => ?_) (fun c => ?_)
  · rw [bI_1 c]
    refine GB.go 9999 rfl aB0 ?_
    exact GB.ret rfl rfl (aB1 (by decide) aB0)
  · rw [bI_0 c]
    refine GB.go 9999 rfl aB0 ?_
    exact GB.ret rfl rfl (aB1 (by decide) aB0)
end MH
