/-! The class itself: a change begins. -/
theorem LGo.far {c c' : zC} (h : LGo c) (g : ∀ b, (b = 2 ∨ 393 ≤ b ∧ b < 681) → ∀ k, c' b k = c b k) : LGo c' := by
  obtain ⟨h1, f0, f1, f2, f4, f5, f6, ⟨a1, a2⟩, hK⟩ := h
  have g2 := g 2 (Or.inl rfl)
  have g3 := g 393 (Or.inr ⟨by decide, by decide⟩)
  refine ⟨by rw [g2]; exact h1, by rw [g2]; exact f0, by rw [g2]; exact f1, by rw [g2]; exact f2, by rw [g2]; exact f4, by rw [g2]; exact f5, by rw [g2]; exact f6, ⟨by rw [g3]; exact a1, by rw [g3]; exact a2⟩, fun p p0 p1 => ?_⟩
  obtain ⟨k1, ⟨n, k2⟩, k3⟩ := hK p p0 p1
  have e : ∀ b, 397 + 71 * p ≤ b → b < 397 + 71 * p + 71 → c' b = c b := fun b b1 b2 => funext (g b (Or.inr ⟨by omega, by omega⟩))
  refine ⟨by rw [g3]; exact k1, ⟨n, ?_⟩, fun i i0 i1 => ?_⟩
  · unfold LLk LArr at k2 ⊢
    rw [e (397 + 71 * p) (by omega) (by omega), e (397 + 71 * p + 1) (by omega) (by omega), e (397 + 71 * p + 2) (by omega) (by omega), e (397 + 71 * p + 3) (by omega) (by omega), e (397 + 71 * p + 4) (by omega) (by omega), e (397 + 71 * p + 5) (by omega) (by omega), e (397 + 71 * p + 6) (by omega) (by omega), e (397 + 71 * p + 7) (by omega) (by omega), e (397 + 71 * p + 8) (by omega) (by omega), e (397 + 71 * p + 9) (by omega) (by omega), e (397 + 71 * p + 10) (by omega) (by omega)]
    exact k2
  · have := k3 i i0 i1
    unfold BShape LArr at this ⊢
    rw [e (397 + 71 * p + 1) (by omega) (by omega), e (397 + 71 * p + 11 + 3 * i) (by omega) (by omega), e (397 + 71 * p + 11 + 3 * i + 1) (by omega) (by omega), e (397 + 71 * p + 11 + 3 * i + 2) (by omega) (by omega)]
    exact this
section
variable {c : zC} (d : Nat)
theorem zs_G_startChange (h : LGo c) (hH : LHis c 87) (hr : HRul c 87) (hS : LState c 11) (hR : RulesOK c 11) : ∃ c', zrun zTab (d + 5) 126 [2] c = some (0, zfor c' 4) ∧ HFr c c' 87 ∧ LGo c' ∧ LHis c' 87 ∧ HRul c' 87 ∧ c' 87 1 = (if c 87 1 < 8 then c 87 1 + 1 else 8) ∧ (∀ j, 0 ≤ j → j < c' 87 1 - 1 → hv c' 87 j = hv c 87 (if c 87 1 < 8 then j else j + 1)) ∧ hv c' 87 (c' 87 1 - 1) = cview c 11 := by
  obtain ⟨c', r1, r2, r3⟩ := zs_H_keep d hH hr hS hR (Or.inl (by decide))
  have h' : LGo c' := h.far (fun b hb k => r2.1 b (by omega) k)
  refine ⟨c', ?_, r2, h', r3⟩
  rw [ze_X11_startChange, if_pos h.1, if_pos h.1, h.2.2.2.2.1, if_pos hH.2.1, h.2.2.1, r1, zbnd_some, if_pos h'.1, zs_G_forget (d + 3) h', zbnd_some]
end
