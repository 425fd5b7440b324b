/-! STACKS: both ways, set by set -/
set_option maxRecDepth 100000 in
theorem stM_all : ∀ a, a < 4096 → stM (nI a) 12 = stO (nI a) := by decide +kernel
