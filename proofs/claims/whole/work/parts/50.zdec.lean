/-! SETS: what both ways of counting say, set by set -/
set_option maxRecDepth 100000 in
theorem kC_all : ∀ a, a < 4096 → kC 12 (nI a) 0 = some (bC (nI a)) := by decide +kernel
set_option maxRecDepth 100000 in
theorem gR_all : ∀ a, a < 4096 → gR 12 (nI a) = some (topB 12 (nI a)) := by decide +kernel
set_option maxRecDepth 100000 in
theorem bC_le : ∀ a, a < 4096 → (0 : Int32) ≤ bC (nI a) ∧ bC (nI a) ≤ 12 := by decide +kernel
