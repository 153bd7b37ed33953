/-! Where the class's cells lie, and its reading methods. -/
def LArr (c : zC) (a kd n : Int) : Prop := c a (-1) = kd ∧ c a (-2) = n
def LPage (c : zC) (P : Int) : Prop := c P (-1) = 5 ∧ c P 0 = P + 1 ∧ c P 1 = P + 2 ∧ LArr c (P + 1) 101 20 ∧ LArr c (P + 2) 100 20 ∧ 0 ≤ c P 2 ∧ c P 2 ≤ 20
def LSense (c : zC) (Q : Int) : Prop := c Q (-1) = 8 ∧ c Q 1 = Q + 1 ∧ LArr c (Q + 1) 101 4 ∧ 0 ≤ c Q 2 ∧ c Q 2 ≤ 4
def LBases (c : zC) (B : Int) : Prop := c B (-1) = 1 ∧ c B 0 = B + 1 ∧ c B 1 = B + 2 ∧ LArr c (B + 1) 101 43 ∧ LArr c (B + 2) 100 43 ∧ 0 ≤ c B 2 ∧ c B 2 ≤ 43
theorem zs_P_wordAt (d : Nat) {P i : Int} (c : zC) (h : LPage c P) : zrun zTab (d + 1) 42 [P, i] c = some (if 0 ≤ i ∧ i < c P 2 then c (P + 1) i else 0, c) := by
  obtain ⟨h1, h2, h3, ⟨h4, h5⟩, ⟨h6, h7⟩, h8, h9⟩ := h
  rw [ze_X4_wordAt]
  grind
theorem zs_P_sectionAt (d : Nat) {P i : Int} (c : zC) (h : LPage c P) : zrun zTab (d + 1) 43 [P, i] c = some (if 0 ≤ i ∧ i < c P 2 then c (P + 2) i else 0, c) := by
  obtain ⟨h1, h2, h3, ⟨h4, h5⟩, ⟨h6, h7⟩, h8, h9⟩ := h
  rw [ze_X4_sectionAt]
  grind
theorem zs_B_wordAt (d : Nat) {B i : Int} (c : zC) (h : LBases c B) : zrun zTab (d + 1) 1 [B, i] c = some (if 0 ≤ i ∧ i < c B 2 then c (B + 1) i else 0, c) := by
  obtain ⟨h1, h2, h3, ⟨h4, h5⟩, ⟨h6, h7⟩, h8, h9⟩ := h
  rw [ze_X0_wordAt]
  grind
theorem zs_S_addHint (d : Nat) {Q w : Int} (c : zC) (h : LSense c Q) : zrun zTab (d + 1) 64 [Q, w] c = some (0, if c Q 2 < 4 then zup (zup c (Q + 1) (c Q 2) w) Q 2 (c Q 2 + 1) else c) := by
  obtain ⟨h1, h2, ⟨h3, h4⟩, h5, h6⟩ := h
  rw [ze_X7_addHint]
  grind [zup, zadd_id]
