/-! ===== the pure claim ===== -/
theorem mx_law (Ls : Nat) (hL : Ls ≤ 3072) (xs : Nat → Int32) : ∃ (n : Nat) (h' : mx_H), mx_run n 200 214 (0, mx_ent 4 [.ref mx_big], [], mx_h0 Ls xs) = some (some (.int 1), h') ∧ h'.1 ≤ 600000 ∧ h'.2.1 ≤ 7302249 := by
  sorry
