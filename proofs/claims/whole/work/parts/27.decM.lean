/-! finite facts of sets of seven jobs -/
theorem pc_or : ∀ s, s < 128 → ∀ b, b < 128 → b ≠ 0 → b &&& s = 0 → pc s + 1 ≤ pc (s ||| b) := by decide +kernel
theorem or_gt : ∀ s, s < 128 → ∀ b, b < 128 → b ≠ 0 → b &&& s = 0 → s < s ||| b := by decide +kernel
theorem not_or : ∀ s, s < 128 → ∀ b, b < 128 → 127 ^^^ (s ||| b) = (127 ^^^ s) &&& (127 ^^^ b) := by decide +kernel
theorem dis_sub : ∀ b, b < 128 → ∀ s, s < 128 → (b &&& s = 0 ↔ b &&& (127 ^^^ s) = b) := by decide +kernel
theorem sd_zero : ∀ l, l < 128 → sd l 0 = l := by decide +kernel
theorem sd_eq0 : ∀ l, l < 128 → ∀ s, s < 128 → s &&& l = s → sd l s = 0 → s = l := by decide +kernel
