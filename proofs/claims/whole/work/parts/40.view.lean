/-! The view of a state of the class. -/
def cview (c : zC) (S : Int) : zA2 := fun t k =>
  if t = 0 then (if 0 ≤ k ∧ k < 4 then c (S + 4 + 3 * k) 2 else 0)
  else if t = 1 then (if 0 ≤ k ∧ k < 4 then c (S + 4 + 3 * k) 3 else 0)
  else if t = 2 then (if (0 ≤ k ∧ k < 80) ∧ k % 20 < c (S + 4 + 3 * (k / 20)) 2 then c (S + 4 + 3 * (k / 20) + 2) (k % 20) else 0)
  else if t = 3 then (if (0 ≤ k ∧ k < 80) ∧ k % 20 < c (S + 4 + 3 * (k / 20)) 2 then c (S + 4 + 3 * (k / 20) + 1) (k % 20) else 0)
  else if t = 4 then (if k = 0 then c S 4 else 0)
  else if t = 5 then (if 0 ≤ k ∧ k < c S 4 then c (c (S + 3) k) 0 else 0)
  else if t = 6 then (if 0 ≤ k ∧ k < c S 4 then c (c (S + 3) k) 1 else 0)
  else if t = 7 then (if 0 ≤ k ∧ k < c S 4 then c (c (S + 3) k) 2 / 5 else 0)
  else if t = 8 then (if 0 ≤ k ∧ k < c S 4 then c (c (S + 3) k) 3 / 5 else 0)
  else if t = 9 then (if k = 0 then c S 3 else 0)
  else if t = 10 then (if 0 ≤ k ∧ k < c S 3 then c (c (S + 2) k) 0 else 0)
  else if t = 11 then (if 0 ≤ k ∧ k < c S 3 then c (c (S + 2) k) 2 else 0)
  else if t = 12 then (if (0 ≤ k ∧ k / 4 < c S 3) ∧ k % 4 < c (c (S + 2) (k / 4)) 2 then c (c (S + 2) (k / 4) + 1) (k % 4) else 0)
  else if t = 13 then (if 0 ≤ k ∧ k < c S 3 then c (c (S + 2) k) 3 else 0)
  else if t = 14 then (if k = 0 then c S 5 else 0)
  else if t = 15 then (if k = 0 then c S 6 else 0)
  else 0
section
variable {c : zC} {S p i s h k : Int}
theorem cv_0 (h1 : 0 ≤ p) (h2 : p < 4) : cview c S 0 p = c (S + 4 + 3 * p) 2 := by
  show (if 0 ≤ p ∧ p < 4 then c (S + 4 + 3 * p) 2 else 0) = _
  exact if_pos ⟨h1, h2⟩
theorem cv_1 (h1 : 0 ≤ p) (h2 : p < 4) : cview c S 1 p = c (S + 4 + 3 * p) 3 := by
  show (if 0 ≤ p ∧ p < 4 then c (S + 4 + 3 * p) 3 else 0) = _
  exact if_pos ⟨h1, h2⟩
theorem cv_2 (h1 : 0 ≤ p) (h2 : p < 4) (h3 : 0 ≤ i) (h4 : i < 20) (h5 : i < c (S + 4 + 3 * p) 2) : cview c S 2 (20 * p + i) = c (S + 4 + 3 * p + 2) i := by
  show (if (0 ≤ 20 * p + i ∧ 20 * p + i < 80) ∧ (20 * p + i) % 20 < c (S + 4 + 3 * ((20 * p + i) / 20)) 2 then c (S + 4 + 3 * ((20 * p + i) / 20) + 2) ((20 * p + i) % 20) else 0) = _
  rw [show (20 * p + i) % 20 = i by omega, show (20 * p + i) / 20 = p by omega]
  exact if_pos ⟨⟨by omega, by omega⟩, h5⟩
theorem cv_3 (h1 : 0 ≤ p) (h2 : p < 4) (h3 : 0 ≤ i) (h4 : i < 20) (h5 : i < c (S + 4 + 3 * p) 2) : cview c S 3 (20 * p + i) = c (S + 4 + 3 * p + 1) i := by
  show (if (0 ≤ 20 * p + i ∧ 20 * p + i < 80) ∧ (20 * p + i) % 20 < c (S + 4 + 3 * ((20 * p + i) / 20)) 2 then c (S + 4 + 3 * ((20 * p + i) / 20) + 1) ((20 * p + i) % 20) else 0) = _
  rw [show (20 * p + i) % 20 = i by omega, show (20 * p + i) / 20 = p by omega]
  exact if_pos ⟨⟨by omega, by omega⟩, h5⟩
theorem cv_4 : cview c S 4 0 = c S 4 := rfl
theorem cv_5 (h1 : 0 ≤ k) (h2 : k < c S 4) : cview c S 5 k = c (c (S + 3) k) 0 := by
  show (if 0 ≤ k ∧ k < c S 4 then c (c (S + 3) k) 0 else 0) = _
  exact if_pos ⟨h1, h2⟩
theorem cv_6 (h1 : 0 ≤ k) (h2 : k < c S 4) : cview c S 6 k = c (c (S + 3) k) 1 := by
  show (if 0 ≤ k ∧ k < c S 4 then c (c (S + 3) k) 1 else 0) = _
  exact if_pos ⟨h1, h2⟩
theorem cv_7 (h1 : 0 ≤ k) (h2 : k < c S 4) : cview c S 7 k = c (c (S + 3) k) 2 / 5 := by
  show (if 0 ≤ k ∧ k < c S 4 then c (c (S + 3) k) 2 / 5 else 0) = _
  exact if_pos ⟨h1, h2⟩
theorem cv_8 (h1 : 0 ≤ k) (h2 : k < c S 4) : cview c S 8 k = c (c (S + 3) k) 3 / 5 := by
  show (if 0 ≤ k ∧ k < c S 4 then c (c (S + 3) k) 3 / 5 else 0) = _
  exact if_pos ⟨h1, h2⟩
theorem cv_9 : cview c S 9 0 = c S 3 := rfl
theorem cv_10 (h1 : 0 ≤ k) (h2 : k < c S 3) : cview c S 10 k = c (c (S + 2) k) 0 := by
  show (if 0 ≤ k ∧ k < c S 3 then c (c (S + 2) k) 0 else 0) = _
  exact if_pos ⟨h1, h2⟩
theorem cv_11 (h1 : 0 ≤ k) (h2 : k < c S 3) : cview c S 11 k = c (c (S + 2) k) 2 := by
  show (if 0 ≤ k ∧ k < c S 3 then c (c (S + 2) k) 2 else 0) = _
  exact if_pos ⟨h1, h2⟩
theorem cv_12 (h1 : 0 ≤ s) (h2 : s < c S 3) (h3 : 0 ≤ h) (h4 : h < 4) (h5 : h < c (c (S + 2) s) 2) : cview c S 12 (4 * s + h) = c (c (S + 2) s + 1) h := by
  show (if (0 ≤ 4 * s + h ∧ (4 * s + h) / 4 < c S 3) ∧ (4 * s + h) % 4 < c (c (S + 2) ((4 * s + h) / 4)) 2 then c (c (S + 2) ((4 * s + h) / 4) + 1) ((4 * s + h) % 4) else 0) = _
  rw [show (4 * s + h) % 4 = h by omega, show (4 * s + h) / 4 = s by omega]
  exact if_pos ⟨⟨by omega, by omega⟩, h5⟩
theorem cv_13 (h1 : 0 ≤ k) (h2 : k < c S 3) : cview c S 13 k = c (c (S + 2) k) 3 := by
  show (if 0 ≤ k ∧ k < c S 3 then c (c (S + 2) k) 3 else 0) = _
  exact if_pos ⟨h1, h2⟩
theorem cv_14 : cview c S 14 0 = c S 5 := rfl
theorem cv_15 : cview c S 15 0 = c S 6 := rfl
theorem cv_ap {r : Nat} (h2 : (r : Int) < c S 4) : apV (cview c S) r = apAt c S r := by
  funext w
  unfold apV apAt
  rw [cv_5 (by omega) h2, cv_6 (by omega) h2, cv_7 (by omega) h2, cv_8 (by omega) h2]
end
theorem cview_same {c c' : zC} {S : Int} (h : LState c S) (g : zsameS c c' S) : cview c' S = cview c S := by
  have hs := h.2.2.2.2.2.2.2.2.2.1
  have hr := h.2.2.2.2.2.2.2.2.2.2.2.1
  have hn := h.2.2.2.2.2.2.2.2.2.2.2.2.2
  have e0 := g S (by omega) (by omega)
  have e2 := g (S + 2) (by omega) (by omega)
  have e3 := g (S + 3) (by omega) (by omega)
  have fr : ∀ (k : Int) (j : Int), 0 ≤ k → k < c S 4 → c' (c (S + 3) k) j = c (c (S + 3) k) j := fun k j a b => by
    have := (hr k a (by omega)).1
    exact g _ (by omega) (by omega) j
  have fs : ∀ (k : Int) (j : Int), 0 ≤ k → k < c S 3 → c' (c (S + 2) k) j = c (c (S + 2) k) j ∧ c' (c (S + 2) k + 1) j = c (c (S + 2) k + 1) j := fun k j a b => by
    have := (hs k a (by omega)).1
    exact ⟨g _ (by omega) (by omega) j, g _ (by omega) (by omega) j⟩
  funext t k
  unfold cview
  rw [e0, e0, e0, e0]
  have a0 : (if 0 ≤ k ∧ k < 4 then c' (S + 4 + 3 * k) 2 else 0) = (if 0 ≤ k ∧ k < 4 then c (S + 4 + 3 * k) 2 else 0) := by
    split
    · exact g _ (by omega) (by omega) _
    · rfl
  have a1 : (if 0 ≤ k ∧ k < 4 then c' (S + 4 + 3 * k) 3 else 0) = (if 0 ≤ k ∧ k < 4 then c (S + 4 + 3 * k) 3 else 0) := by
    split
    · exact g _ (by omega) (by omega) _
    · rfl
  have a2 : ∀ m : Int, (m = 1 ∨ m = 2) → (if (0 ≤ k ∧ k < 80) ∧ k % 20 < c' (S + 4 + 3 * (k / 20)) 2 then c' (S + 4 + 3 * (k / 20) + m) (k % 20) else 0) = (if (0 ≤ k ∧ k < 80) ∧ k % 20 < c (S + 4 + 3 * (k / 20)) 2 then c (S + 4 + 3 * (k / 20) + m) (k % 20) else 0) := by
    intro m hm
    by_cases e : 0 ≤ k ∧ k < 80
    · rw [g _ (by omega) (by omega), g (S + 4 + 3 * (k / 20) + m) (by omega) (by omega)]
    · rw [if_neg (fun q => e q.1), if_neg (fun q => e q.1)]
  have a5 : ∀ m : Int, (if 0 ≤ k ∧ k < c S 4 then c' (c' (S + 3) k) m else 0) = (if 0 ≤ k ∧ k < c S 4 then c (c (S + 3) k) m else 0) := by
    intro m
    split
    · rw [e3, fr k m (by omega) (by omega)]
    · rfl
  have a7 : ∀ m : Int, (if 0 ≤ k ∧ k < c S 4 then c' (c' (S + 3) k) m / 5 else 0) = (if 0 ≤ k ∧ k < c S 4 then c (c (S + 3) k) m / 5 else 0) := by
    intro m
    split
    · rw [e3, fr k m (by omega) (by omega)]
    · rfl
  have a10 : ∀ m : Int, (if 0 ≤ k ∧ k < c S 3 then c' (c' (S + 2) k) m else 0) = (if 0 ≤ k ∧ k < c S 3 then c (c (S + 2) k) m else 0) := by
    intro m
    split
    · rw [e2, (fs k m (by omega) (by omega)).1]
    · rfl
  have a12 : (if (0 ≤ k ∧ k / 4 < c S 3) ∧ k % 4 < c' (c' (S + 2) (k / 4)) 2 then c' (c' (S + 2) (k / 4) + 1) (k % 4) else 0) = (if (0 ≤ k ∧ k / 4 < c S 3) ∧ k % 4 < c (c (S + 2) (k / 4)) 2 then c (c (S + 2) (k / 4) + 1) (k % 4) else 0) := by
    by_cases e : 0 ≤ k ∧ k / 4 < c S 3
    · rw [e2, (fs (k / 4) 2 (by omega) (by omega)).1, (fs (k / 4) (k % 4) (by omega) (by omega)).2]
    · rw [if_neg (fun q => e q.1), if_neg (fun q => e q.1)]
  rw [a0, a1, a2 1 (Or.inl rfl), a2 2 (Or.inr rfl), a5, a5, a7, a7, a10, a10, a12, a10]
