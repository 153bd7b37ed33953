/-! The class itself: small methods. -/
section
variable {c : zC} {x : Int} (d : Nat)
theorem zs_G_isByte : zrun zTab (d + 1) 124 [x] c = some (if 0 ≤ x ∧ x ≤ 127 then 1 else 0, c) := by
  rw [ze_X11_isByte]
  by_cases e : x < 0
  · rw [if_pos e, if_neg (by omega)]
  · rw [if_neg e]
    by_cases e2 : x ≤ 127
    · rw [if_pos e2, if_pos (by omega)]
    · rw [if_neg e2, if_neg (by omega)]
end
