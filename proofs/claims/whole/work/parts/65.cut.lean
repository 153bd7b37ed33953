/-! The calls as mathematics: views that are cut off at their counts. -/
def vcut (A : zA2) : zA2 := fun t k =>
  if t = 0 then (if 0 ≤ k ∧ k < 4 then A 0 k else 0)
  else if t = 1 then (if 0 ≤ k ∧ k < 4 then A 1 k else 0)
  else if t = 2 then (if (0 ≤ k ∧ k < 80) ∧ k % 20 < A 0 (k / 20) then A 2 k else 0)
  else if t = 3 then (if (0 ≤ k ∧ k < 80) ∧ k % 20 < A 0 (k / 20) then A 3 k else 0)
  else if t = 4 then (if k = 0 then A 4 0 else 0)
  else if t = 5 then (if 0 ≤ k ∧ k < A 4 0 then A 5 k else 0)
  else if t = 6 then (if 0 ≤ k ∧ k < A 4 0 then A 6 k else 0)
  else if t = 7 then (if 0 ≤ k ∧ k < A 4 0 then A 7 k else 0)
  else if t = 8 then (if 0 ≤ k ∧ k < A 4 0 then A 8 k else 0)
  else if t = 9 then (if k = 0 then A 9 0 else 0)
  else if t = 10 then (if 0 ≤ k ∧ k < A 9 0 then A 10 k else 0)
  else if t = 11 then (if 0 ≤ k ∧ k < A 9 0 then A 11 k else 0)
  else if t = 12 then (if (0 ≤ k ∧ k / 4 < A 9 0) ∧ k % 4 < A 11 (k / 4) then A 12 k else 0)
  else if t = 13 then (if 0 ≤ k ∧ k < A 9 0 then A 13 k else 0)
  else if t = 14 then (if k = 0 then A 14 0 else 0)
  else if t = 15 then (if k = 0 then A 15 0 else 0)
  else 0
section
variable {A B : zA2} {p i s h k : Int}
theorem vc_0 (h1 : 0 ≤ p) (h2 : p < 4) : vcut A 0 p = A 0 p := by show (if 0 ≤ p ∧ p < 4 then A 0 p else 0) = _; rw [if_pos ⟨h1, h2⟩]
theorem vc_1 (h1 : 0 ≤ p) (h2 : p < 4) : vcut A 1 p = A 1 p := by show (if 0 ≤ p ∧ p < 4 then A 1 p else 0) = _; rw [if_pos ⟨h1, h2⟩]
theorem vc_2 (h1 : 0 ≤ p) (h2 : p < 4) (h3 : 0 ≤ i) (h4 : i < 20) (h5 : i < A 0 p) : vcut A 2 (20 * p + i) = A 2 (20 * p + i) := by
  show (if (0 ≤ 20 * p + i ∧ 20 * p + i < 80) ∧ (20 * p + i) % 20 < A 0 ((20 * p + i) / 20) then A 2 (20 * p + i) else 0) = _
  rw [if_pos ⟨⟨by omega, by omega⟩, by rw [show (20 * p + i) % 20 = i by omega, show (20 * p + i) / 20 = p by omega]; exact h5⟩]
theorem vc_3 (h1 : 0 ≤ p) (h2 : p < 4) (h3 : 0 ≤ i) (h4 : i < 20) (h5 : i < A 0 p) : vcut A 3 (20 * p + i) = A 3 (20 * p + i) := by
  show (if (0 ≤ 20 * p + i ∧ 20 * p + i < 80) ∧ (20 * p + i) % 20 < A 0 ((20 * p + i) / 20) then A 3 (20 * p + i) else 0) = _
  rw [if_pos ⟨⟨by omega, by omega⟩, by rw [show (20 * p + i) % 20 = i by omega, show (20 * p + i) / 20 = p by omega]; exact h5⟩]
theorem vc_4 : vcut A 4 0 = A 4 0 := rfl
theorem vc_9 : vcut A 9 0 = A 9 0 := rfl
theorem vc_14 : vcut A 14 0 = A 14 0 := rfl
theorem vc_15 : vcut A 15 0 = A 15 0 := rfl
theorem vc_5 (h1 : 0 ≤ k) (h2 : k < A 4 0) : vcut A 5 k = A 5 k := by show (if 0 ≤ k ∧ k < A 4 0 then A 5 k else 0) = _; rw [if_pos ⟨h1, h2⟩]
theorem vc_6 (h1 : 0 ≤ k) (h2 : k < A 4 0) : vcut A 6 k = A 6 k := by show (if 0 ≤ k ∧ k < A 4 0 then A 6 k else 0) = _; rw [if_pos ⟨h1, h2⟩]
theorem vc_7 (h1 : 0 ≤ k) (h2 : k < A 4 0) : vcut A 7 k = A 7 k := by show (if 0 ≤ k ∧ k < A 4 0 then A 7 k else 0) = _; rw [if_pos ⟨h1, h2⟩]
theorem vc_8 (h1 : 0 ≤ k) (h2 : k < A 4 0) : vcut A 8 k = A 8 k := by show (if 0 ≤ k ∧ k < A 4 0 then A 8 k else 0) = _; rw [if_pos ⟨h1, h2⟩]
theorem vc_10 (h1 : 0 ≤ k) (h2 : k < A 9 0) : vcut A 10 k = A 10 k := by show (if 0 ≤ k ∧ k < A 9 0 then A 10 k else 0) = _; rw [if_pos ⟨h1, h2⟩]
theorem vc_11 (h1 : 0 ≤ k) (h2 : k < A 9 0) : vcut A 11 k = A 11 k := by show (if 0 ≤ k ∧ k < A 9 0 then A 11 k else 0) = _; rw [if_pos ⟨h1, h2⟩]
theorem vc_13 (h1 : 0 ≤ k) (h2 : k < A 9 0) : vcut A 13 k = A 13 k := by show (if 0 ≤ k ∧ k < A 9 0 then A 13 k else 0) = _; rw [if_pos ⟨h1, h2⟩]
theorem vc_12 (h1 : 0 ≤ s) (h2 : s < A 9 0) (h3 : 0 ≤ h) (h4 : h < 4) (h5 : h < A 11 s) : vcut A 12 (4 * s + h) = A 12 (4 * s + h) := by
  show (if (0 ≤ 4 * s + h ∧ (4 * s + h) / 4 < A 9 0) ∧ (4 * s + h) % 4 < A 11 ((4 * s + h) / 4) then A 12 (4 * s + h) else 0) = _
  rw [show (4 * s + h) / 4 = s by omega, show (4 * s + h) % 4 = h by omega, if_pos ⟨⟨by omega, h2⟩, h5⟩]
theorem vcut_ext (h0 : ∀ p, 0 ≤ p → p < 4 → A 0 p = B 0 p ∧ A 1 p = B 1 p) (h2 : ∀ p i, 0 ≤ p → p < 4 → 0 ≤ i → i < 20 → i < A 0 p → A 2 (20 * p + i) = B 2 (20 * p + i) ∧ A 3 (20 * p + i) = B 3 (20 * p + i))
    (h4 : A 4 0 = B 4 0) (h5 : ∀ r, 0 ≤ r → r < A 4 0 → A 5 r = B 5 r ∧ A 6 r = B 6 r ∧ A 7 r = B 7 r ∧ A 8 r = B 8 r) (h9 : A 9 0 = B 9 0) (h10 : ∀ s, 0 ≤ s → s < A 9 0 → A 10 s = B 10 s ∧ A 11 s = B 11 s ∧ A 13 s = B 13 s)
    (h12 : ∀ s h, 0 ≤ s → s < A 9 0 → 0 ≤ h → h < 4 → h < A 11 s → A 12 (4 * s + h) = B 12 (4 * s + h)) (h14 : A 14 0 = B 14 0) (h15 : A 15 0 = B 15 0) : vcut A = vcut B := by
  funext t k
  unfold vcut
  by_cases e0 : t = 0
  · rw [if_pos e0, if_pos e0]
    by_cases q : 0 ≤ k ∧ k < 4
    · rw [if_pos q, if_pos q, (h0 k q.1 q.2).1]
    · rw [if_neg q, if_neg q]
  rw [if_neg e0, if_neg e0]
  by_cases e1 : t = 1
  · rw [if_pos e1, if_pos e1]
    by_cases q : 0 ≤ k ∧ k < 4
    · rw [if_pos q, if_pos q, (h0 k q.1 q.2).2]
    · rw [if_neg q, if_neg q]
  rw [if_neg e1, if_neg e1]
  by_cases e2 : t = 2
  · rw [if_pos e2, if_pos e2]
    by_cases q : 0 ≤ k ∧ k < 80
    · have e := (h0 (k / 20) (by omega) (by omega)).1
      rw [← e]
      by_cases q2 : k % 20 < A 0 (k / 20)
      · have g := (h2 (k / 20) (k % 20) (by omega) (by omega) (by omega) (by omega) q2).1
        rw [show 20 * (k / 20) + k % 20 = k by omega] at g
        rw [if_pos ⟨q, q2⟩, if_pos ⟨q, q2⟩, g]
      · rw [if_neg (fun x => q2 x.2), if_neg (fun x => q2 x.2)]
    · rw [if_neg (fun x => q x.1), if_neg (fun x => q x.1)]
  rw [if_neg e2, if_neg e2]
  by_cases e3 : t = 3
  · rw [if_pos e3, if_pos e3]
    by_cases q : 0 ≤ k ∧ k < 80
    · have e := (h0 (k / 20) (by omega) (by omega)).1
      rw [← e]
      by_cases q2 : k % 20 < A 0 (k / 20)
      · have g := (h2 (k / 20) (k % 20) (by omega) (by omega) (by omega) (by omega) q2).2
        rw [show 20 * (k / 20) + k % 20 = k by omega] at g
        rw [if_pos ⟨q, q2⟩, if_pos ⟨q, q2⟩, g]
      · rw [if_neg (fun x => q2 x.2), if_neg (fun x => q2 x.2)]
    · rw [if_neg (fun x => q x.1), if_neg (fun x => q x.1)]
  rw [if_neg e3, if_neg e3]
  by_cases e4 : t = 4
  · rw [if_pos e4, if_pos e4]
    rw [h4]
  rw [if_neg e4, if_neg e4]
  by_cases e5 : t = 5
  · rw [if_pos e5, if_pos e5]
    rw [← h4]
    by_cases q : 0 ≤ k ∧ k < A 4 0
    · rw [if_pos q, if_pos q, (h5 k q.1 q.2).1]
    · rw [if_neg q, if_neg q]
  rw [if_neg e5, if_neg e5]
  by_cases e6 : t = 6
  · rw [if_pos e6, if_pos e6]
    rw [← h4]
    by_cases q : 0 ≤ k ∧ k < A 4 0
    · rw [if_pos q, if_pos q, (h5 k q.1 q.2).2.1]
    · rw [if_neg q, if_neg q]
  rw [if_neg e6, if_neg e6]
  by_cases e7 : t = 7
  · rw [if_pos e7, if_pos e7]
    rw [← h4]
    by_cases q : 0 ≤ k ∧ k < A 4 0
    · rw [if_pos q, if_pos q, (h5 k q.1 q.2).2.2.1]
    · rw [if_neg q, if_neg q]
  rw [if_neg e7, if_neg e7]
  by_cases e8 : t = 8
  · rw [if_pos e8, if_pos e8]
    rw [← h4]
    by_cases q : 0 ≤ k ∧ k < A 4 0
    · rw [if_pos q, if_pos q, (h5 k q.1 q.2).2.2.2]
    · rw [if_neg q, if_neg q]
  rw [if_neg e8, if_neg e8]
  by_cases e9 : t = 9
  · rw [if_pos e9, if_pos e9]
    rw [h9]
  rw [if_neg e9, if_neg e9]
  by_cases e10 : t = 10
  · rw [if_pos e10, if_pos e10]
    rw [← h9]
    by_cases q : 0 ≤ k ∧ k < A 9 0
    · rw [if_pos q, if_pos q, (h10 k q.1 q.2).1]
    · rw [if_neg q, if_neg q]
  rw [if_neg e10, if_neg e10]
  by_cases e11 : t = 11
  · rw [if_pos e11, if_pos e11]
    rw [← h9]
    by_cases q : 0 ≤ k ∧ k < A 9 0
    · rw [if_pos q, if_pos q, (h10 k q.1 q.2).2.1]
    · rw [if_neg q, if_neg q]
  rw [if_neg e11, if_neg e11]
  by_cases e12 : t = 12
  · rw [if_pos e12, if_pos e12]
    rw [← h9]
    by_cases q : 0 ≤ k ∧ k / 4 < A 9 0
    · have e := (h10 (k / 4) (by omega) q.2).2.1
      rw [← e]
      by_cases q2 : k % 4 < A 11 (k / 4)
      · have g := h12 (k / 4) (k % 4) (by omega) q.2 (by omega) (by omega) q2
        rw [show 4 * (k / 4) + k % 4 = k by omega] at g
        rw [if_pos ⟨q, q2⟩, if_pos ⟨q, q2⟩, g]
      · rw [if_neg (fun x => q2 x.2), if_neg (fun x => q2 x.2)]
    · rw [if_neg (fun x => q x.1), if_neg (fun x => q x.1)]
  rw [if_neg e12, if_neg e12]
  by_cases e13 : t = 13
  · rw [if_pos e13, if_pos e13]
    rw [← h9]
    by_cases q : 0 ≤ k ∧ k < A 9 0
    · rw [if_pos q, if_pos q, (h10 k q.1 q.2).2.2]
    · rw [if_neg q, if_neg q]
  rw [if_neg e13, if_neg e13]
  by_cases e14 : t = 14
  · rw [if_pos e14, if_pos e14]
    rw [h14]
  rw [if_neg e14, if_neg e14]
  by_cases e15 : t = 15
  · rw [if_pos e15, if_pos e15]
    rw [h15]
  rw [if_neg e15, if_neg e15]
end
theorem cview_cut (c : zC) (S : Int) : vcut (cview c S) = cview c S := by
  funext t k
  unfold vcut
  by_cases e0 : t = 0
  · subst e0
    rw [if_pos rfl]
    by_cases q : 0 ≤ k ∧ k < 4
    · rw [if_pos q]
    · rw [if_neg q]; exact (if_neg q).symm
  rw [if_neg e0]
  by_cases e1 : t = 1
  · subst e1
    rw [if_pos rfl]
    by_cases q : 0 ≤ k ∧ k < 4
    · rw [if_pos q]
    · rw [if_neg q]; exact (if_neg q).symm
  rw [if_neg e1]
  by_cases e2 : t = 2
  · subst e2
    rw [if_pos rfl]
    by_cases q : 0 ≤ k ∧ k < 80
    · rw [cv_0 (p := k / 20) (by omega) (by omega)]
      by_cases q2 : k % 20 < c (S + 4 + 3 * (k / 20)) 2
      · rw [if_pos ⟨q, q2⟩]
      · rw [if_neg (fun x => q2 x.2)]; exact (if_neg (fun x => q2 x.2)).symm
    · rw [if_neg (fun x => q x.1)]; exact (if_neg (fun x => q x.1)).symm
  rw [if_neg e2]
  by_cases e3 : t = 3
  · subst e3
    rw [if_pos rfl]
    by_cases q : 0 ≤ k ∧ k < 80
    · rw [cv_0 (p := k / 20) (by omega) (by omega)]
      by_cases q2 : k % 20 < c (S + 4 + 3 * (k / 20)) 2
      · rw [if_pos ⟨q, q2⟩]
      · rw [if_neg (fun x => q2 x.2)]; exact (if_neg (fun x => q2 x.2)).symm
    · rw [if_neg (fun x => q x.1)]; exact (if_neg (fun x => q x.1)).symm
  rw [if_neg e3]
  by_cases e4 : t = 4
  · subst e4
    rw [if_pos rfl]
    by_cases q : k = 0
    · rw [if_pos q, q]
    · rw [if_neg q]; exact (if_neg q).symm
  rw [if_neg e4]
  by_cases e5 : t = 5
  · subst e5
    rw [if_pos rfl]
    rw [cv_4]
    by_cases q : 0 ≤ k ∧ k < c S 4
    · rw [if_pos q]
    · rw [if_neg q]; exact (if_neg q).symm
  rw [if_neg e5]
  by_cases e6 : t = 6
  · subst e6
    rw [if_pos rfl]
    rw [cv_4]
    by_cases q : 0 ≤ k ∧ k < c S 4
    · rw [if_pos q]
    · rw [if_neg q]; exact (if_neg q).symm
  rw [if_neg e6]
  by_cases e7 : t = 7
  · subst e7
    rw [if_pos rfl]
    rw [cv_4]
    by_cases q : 0 ≤ k ∧ k < c S 4
    · rw [if_pos q]
    · rw [if_neg q]; exact (if_neg q).symm
  rw [if_neg e7]
  by_cases e8 : t = 8
  · subst e8
    rw [if_pos rfl]
    rw [cv_4]
    by_cases q : 0 ≤ k ∧ k < c S 4
    · rw [if_pos q]
    · rw [if_neg q]; exact (if_neg q).symm
  rw [if_neg e8]
  by_cases e9 : t = 9
  · subst e9
    rw [if_pos rfl]
    by_cases q : k = 0
    · rw [if_pos q, q]
    · rw [if_neg q]; exact (if_neg q).symm
  rw [if_neg e9]
  by_cases e10 : t = 10
  · subst e10
    rw [if_pos rfl]
    rw [cv_9]
    by_cases q : 0 ≤ k ∧ k < c S 3
    · rw [if_pos q]
    · rw [if_neg q]; exact (if_neg q).symm
  rw [if_neg e10]
  by_cases e11 : t = 11
  · subst e11
    rw [if_pos rfl]
    rw [cv_9]
    by_cases q : 0 ≤ k ∧ k < c S 3
    · rw [if_pos q]
    · rw [if_neg q]; exact (if_neg q).symm
  rw [if_neg e11]
  by_cases e12 : t = 12
  · subst e12
    rw [if_pos rfl, cv_9]
    by_cases q : 0 ≤ k ∧ k / 4 < c S 3
    · rw [cv_11 (k := k / 4) (by omega) q.2]
      by_cases q2 : k % 4 < c (c (S + 2) (k / 4)) 2
      · rw [if_pos ⟨q, q2⟩]
      · rw [if_neg (fun x => q2 x.2)]; exact (if_neg (fun x => q2 x.2)).symm
    · rw [if_neg (fun x => q x.1)]; exact (if_neg (fun x => q x.1)).symm
  rw [if_neg e12]
  by_cases e13 : t = 13
  · subst e13
    rw [if_pos rfl]
    rw [cv_9]
    by_cases q : 0 ≤ k ∧ k < c S 3
    · rw [if_pos q]
    · rw [if_neg q]; exact (if_neg q).symm
  rw [if_neg e13]
  by_cases e14 : t = 14
  · subst e14
    rw [if_pos rfl]
    by_cases q : k = 0
    · rw [if_pos q, q]
    · rw [if_neg q]; exact (if_neg q).symm
  rw [if_neg e14]
  by_cases e15 : t = 15
  · subst e15
    rw [if_pos rfl]
    by_cases q : k = 0
    · rw [if_pos q, q]
    · rw [if_neg q]; exact (if_neg q).symm
  rw [if_neg e15]
  unfold cview
  rw [if_neg e0, if_neg e1, if_neg e2, if_neg e3, if_neg e4, if_neg e5, if_neg e6, if_neg e7, if_neg e8, if_neg e9, if_neg e10, if_neg e11, if_neg e12, if_neg e13, if_neg e14, if_neg e15]
