/-! The class's pages, senses and rules. -/
theorem zs_P_sectionCount (d : Nat) {P : Int} (c : zC) (h : LPage c P) (hb : ∀ i, 0 ≤ i → i < c P 2 → 0 ≤ c (P + 2) i ∧ c (P + 2) i ≤ 3) : zrun zTab (d + 2) 44 [P] c = some (if c P 2 < 1 then 0 else c (P + 2) (c P 2 - 1) + 1, c) := by
  have h0 := h
  obtain ⟨h1, h2, h3, ⟨h4, h5⟩, ⟨h6, h7⟩, h8, h9⟩ := h
  have hb1 := hb (c P 2 - 1)
  rw [ze_X4_sectionCount]
  simp only [zs_P_sectionAt d c h0, zbnd_some]
  grind [zadd_id, zsub_id]
theorem zs_P_addWord (d : Nat) {P w s : Int} (c : zC) (h : LPage c P) : zrun zTab (d + 1) 45 [P, w, s] c = some (0, if c P 2 < 20 then zup (zup (zup c (P + 1) (c P 2) w) (P + 2) (c P 2) s) P 2 (c P 2 + 1) else c) := by
  obtain ⟨h1, h2, h3, ⟨h4, h5⟩, ⟨h6, h7⟩, h8, h9⟩ := h
  rw [ze_X4_addWord]
  grind [zup, zadd_id]
theorem zs_P_replaceWord (d : Nat) {P i w : Int} (c : zC) (h : LPage c P) : zrun zTab (d + 1) 47 [P, i, w] c = some (0, if 0 ≤ i ∧ i < c P 2 then zup c (P + 1) i w else c) := by
  obtain ⟨h1, h2, h3, ⟨h4, h5⟩, ⟨h6, h7⟩, h8, h9⟩ := h
  rw [ze_X4_replaceWord]
  grind [zup]
/-- the words and sections behind i, moved up by one, down to j -/
def zshiftU (c : zC) (P j n : Int) : zC := fun b k => if (b = P + 1 ∨ b = P + 2) ∧ j < k ∧ k ≤ n then c b (k - 1) else c b k
theorem zs_P_insert_l (d : Nat) {P i w s n : Int} (c : zC) (h : LPage c P) (hn : c P 2 = n) (hi : 0 ≤ i) (hn2 : n < 20) : ∀ (t : Nat) (F : Nat) (j : Int), t ≤ F → j = i + t → j ≤ n → zex zc_X4_insertWord zk_X4_insertWord (zrun zTab d) (F + 1) 71 [(2, P), (0, i), (1, w), (3, 0), (0, s), (0, j)] [] (zshiftU c P j n) = some (0, zup (zup (zup (zshiftU c P i n) (P + 1) i w) (P + 2) i s) P 2 (n + 1)) := by
  obtain ⟨h1, h2, h3, ⟨h4, h5⟩, ⟨h6, h7⟩, h8, h9⟩ := h
  intro t
  induction t with
  | zero =>
    intro F j hF hj hjn
    have : j = i := by omega
    subst this
    rw [ze_X4_insertWord_71]
    grind [zup, zshiftU, zadd_id]
  | succ t ih =>
    intro F j hF hj hjn
    obtain ⟨F, rfl⟩ : ∃ G, F = G + 1 := ⟨F - 1, by omega⟩
    have hstep : zup (zup (zshiftU c P j n) (P + 1) j (c (P + 1) (j - 1))) (P + 2) j (c (P + 2) (j - 1)) = zshiftU c P (j - 1) n := by
      funext b k
      grind [zup, zshiftU]
    have e := ih F (j - 1) (by omega) (by omega) (by omega)
    rw [← hstep] at e
    rw [ze_X4_insertWord_71, zsub_id (by omega) (by omega), zw_id' (by omega) (by omega), show j + -1 = j - 1 by omega]
    grind [zup, zshiftU]
