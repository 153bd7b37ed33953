/-! A copied state has the same view. -/
theorem SEq.view {c1 c : zC} {S F : Int} (h : SEq c1 S c F) (hF : LState c F) : cview c1 S = cview c F := by
  obtain ⟨h1, h2, h3, h4, h5, h6, h7⟩ := h
  funext t k
  unfold cview
  rw [h4, h5, h6, h7]
  have a0 : ∀ m : Int, (m = 2 ∨ m = 3) → (if 0 ≤ k ∧ k < 4 then c1 (S + 4 + 3 * k) m else 0) = (if 0 ≤ k ∧ k < 4 then c (F + 4 + 3 * k) m else 0) := by
    intro m hm
    split
    · rcases hm with rfl | rfl
      · exact (h1 k (by omega) (by omega)).1
      · exact (h1 k (by omega) (by omega)).2.1
    · rfl
  have a2 : ∀ m : Int, (m = 1 ∨ m = 2) → (if (0 ≤ k ∧ k < 80) ∧ k % 20 < c1 (S + 4 + 3 * (k / 20)) 2 then c1 (S + 4 + 3 * (k / 20) + m) (k % 20) else 0) = (if (0 ≤ k ∧ k < 80) ∧ k % 20 < c (F + 4 + 3 * (k / 20)) 2 then c (F + 4 + 3 * (k / 20) + m) (k % 20) else 0) := by
    intro m hm
    by_cases e : 0 ≤ k ∧ k < 80
    · have q := h1 (k / 20) (by omega) (by omega)
      have q2 := q.2.2 (k % 20) (by omega) (by omega)
      rw [q.1]
      rcases hm with rfl | rfl
      · rw [show S + 4 + 3 * (k / 20) + 1 = S + 5 + 3 * (k / 20) by omega, show F + 4 + 3 * (k / 20) + 1 = F + 5 + 3 * (k / 20) by omega, q2.1]
      · rw [show S + 4 + 3 * (k / 20) + 2 = S + 6 + 3 * (k / 20) by omega, show F + 4 + 3 * (k / 20) + 2 = F + 6 + 3 * (k / 20) by omega, q2.2]
    · rw [if_neg (fun q => e q.1), if_neg (fun q => e q.1)]
  have a5 : ∀ m : Int, 0 ≤ m → m ≤ 3 → (if 0 ≤ k ∧ k < c F 4 then c1 (c1 (S + 3) k) m else 0) = (if 0 ≤ k ∧ k < c F 4 then c (c (F + 3) k) m else 0) := by
    intro m m0 m1
    split
    · exact h3 k (by omega) (by omega) m m0 m1
    · rfl
  have a7 : ∀ m : Int, 0 ≤ m → m ≤ 3 → (if 0 ≤ k ∧ k < c F 4 then c1 (c1 (S + 3) k) m / 5 else 0) = (if 0 ≤ k ∧ k < c F 4 then c (c (F + 3) k) m / 5 else 0) := by
    intro m m0 m1
    split
    · rw [h3 k (by omega) (by omega) m m0 m1]
    · rfl
  have a10 : ∀ m : Int, (m = 0 ∨ m = 2 ∨ m = 3) → (if 0 ≤ k ∧ k < c F 3 then c1 (c1 (S + 2) k) m else 0) = (if 0 ≤ k ∧ k < c F 3 then c (c (F + 2) k) m else 0) := by
    intro m hm
    split
    · have q := h2 k (by omega) (by omega)
      rcases hm with rfl | rfl | rfl
      · exact q.1
      · exact q.2.1
      · exact q.2.2.1
    · rfl
  have a12 : (if (0 ≤ k ∧ k / 4 < c F 3) ∧ k % 4 < c1 (c1 (S + 2) (k / 4)) 2 then c1 (c1 (S + 2) (k / 4) + 1) (k % 4) else 0) = (if (0 ≤ k ∧ k / 4 < c F 3) ∧ k % 4 < c (c (F + 2) (k / 4)) 2 then c (c (F + 2) (k / 4) + 1) (k % 4) else 0) := by
    by_cases e : 0 ≤ k ∧ k / 4 < c F 3
    · have q := h2 (k / 4) (by omega) e.2
      rw [q.2.1, q.2.2.2 (k % 4) (by omega) (by omega)]
    · rw [if_neg (fun q => e q.1), if_neg (fun q => e q.1)]
  rw [a0 2 (Or.inl rfl), a0 3 (Or.inr rfl), a2 1 (Or.inl rfl), a2 2 (Or.inr rfl), a5 0 (by decide) (by decide), a5 1 (by decide) (by decide), a7 2 (by decide) (by decide), a7 3 (by decide) (by decide), a10 0 (Or.inl rfl), a10 2 (Or.inr (Or.inl rfl)), a12, a10 3 (Or.inr (Or.inr rfl))]
theorem SEq.rules {c1 c : zC} {S F : Int} (h : SEq c1 S c F) (hR : RulesOK c F) : RulesOK c1 S := by
  obtain ⟨h1, h2, h3, h4, h5, h6, h7⟩ := h
  intro r hr
  rw [h5] at hr
  obtain ⟨el, rl, q⟩ := hR r hr
  have a := fun m m0 m1 => h3 (r : Int) (by omega) hr m m0 m1
  exact ⟨el, rl, by rw [a 2 (by decide) (by decide), a 3 (by decide) (by decide), a 0 (by decide) (by decide), a 1 (by decide) (by decide)]; exact q⟩
