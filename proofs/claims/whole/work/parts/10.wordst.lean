set_option maxRecDepth 1000000 in
theorem mj_w0 : (List.range 40).all (fun j => mj_ckw (0 + j)) = true := by decide +kernel
set_option maxRecDepth 1000000 in
theorem mj_w40 : (List.range 40).all (fun j => mj_ckw (40 + j)) = true := by decide +kernel
set_option maxRecDepth 1000000 in
theorem mj_w80 : (List.range 40).all (fun j => mj_ckw (80 + j)) = true := by decide +kernel
set_option maxRecDepth 1000000 in
theorem mj_w120 : (List.range 40).all (fun j => mj_ckw (120 + j)) = true := by decide +kernel
set_option maxRecDepth 1000000 in
theorem mj_w160 : (List.range 40).all (fun j => mj_ckw (160 + j)) = true := by decide +kernel
set_option maxRecDepth 1000000 in
theorem mj_w200 : (List.range 31).all (fun j => mj_ckw (200 + j)) = true := by decide +kernel
theorem mj_wall (y : Nat) (hy : y < 231) : mj_ckw y = true := by
  by_cases h0 : y < 40
  · have h := List.all_eq_true.mp mj_w0 (y - 0) (List.mem_range.mpr (by omega))
    rw [show 0 + (y - 0) = y by omega] at h
    exact h
  by_cases h40 : y < 80
  · have h := List.all_eq_true.mp mj_w40 (y - 40) (List.mem_range.mpr (by omega))
    rw [show 40 + (y - 40) = y by omega] at h
    exact h
  by_cases h80 : y < 120
  · have h := List.all_eq_true.mp mj_w80 (y - 80) (List.mem_range.mpr (by omega))
    rw [show 80 + (y - 80) = y by omega] at h
    exact h
  by_cases h120 : y < 160
  · have h := List.all_eq_true.mp mj_w120 (y - 120) (List.mem_range.mpr (by omega))
    rw [show 120 + (y - 120) = y by omega] at h
    exact h
  by_cases h160 : y < 200
  · have h := List.all_eq_true.mp mj_w160 (y - 160) (List.mem_range.mpr (by omega))
    rw [show 160 + (y - 160) = y by omega] at h
    exact h
  have h := List.all_eq_true.mp mj_w200 (y - 200) (List.mem_range.mpr (by omega))
  rw [show 200 + (y - 200) = y by omega] at h
  exact h

theorem mj_wrd {y pc : Nat} {q : MI} (h : mj_ins y pc = some q) : mj_ck y pc q (mj_pos y pc) = true := by
  obtain ⟨hz, hy⟩ := mj_inslt h
  have h1 := mj_wall y hy
  unfold mj_ckw at h1
  have h2 := List.all_eq_true.mp h1 pc (List.mem_range.mpr hz)
  rw [h] at h2
  exact h2
set_option maxRecDepth 100000 in
theorem mj_cwsm : (List.range 231).all (fun y => decide (mj_L y ≤ 40) && plainName (mj_N y).cls && decide ((mj_N y).cls ≠ "java/lang/invoke/MethodHandle" ∧ (mj_N y).cls ≠ "java/lang/invoke/VarHandle")) = true := by decide +kernel
