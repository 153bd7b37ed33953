/-! The class itself: its links of a page. -/
/-- the cells of the class's own object that lead to its parts -/
def LGo (c : zC) : Prop := c 2 (-1) = 11 ∧ c 2 0 = 3 ∧ c 2 1 = 11 ∧ c 2 2 = 49 ∧ c 2 4 = 87 ∧ c 2 5 = 393 ∧ c 2 6 = 394 ∧ LArr c 393 113 4 ∧ ∀ p, 0 ≤ p → p < 4 → c 393 p = 397 + 71 * p ∧ (∃ n, LLk c (397 + 71 * p) n) ∧ LLb c (397 + 71 * p)
section
variable {c : zC} {p : Int} (d : Nat)
theorem zs_G_linkingOf (h : LGo c) (hS : LState c 11) (hR : RulesOK c 11) (hp : 0 ≤ p ∧ p < 4) (hpg : PgOK (cview c 11) p) (hsn : SnOK (cview c 11)) (hf : c (397 + 71 * p) 13 = 0 ∨ KOK c (397 + 71 * p) (cview c 11) p) : ∃ c', zrun zTab (d + 5) 130 [2, p] c = some (397 + 71 * p, c') ∧ KAll c c' (397 + 71 * p) ∧ KOK c' (397 + 71 * p) (cview c 11) p := by
  obtain ⟨h1, -, f1, -, -, f5, -, ⟨a1, a2⟩, hK⟩ := h
  obtain ⟨k1, ⟨n, k2⟩, k3⟩ := hK p hp.1 hp.2
  rw [ze_X11_linkingOf, if_neg (by omega), if_pos h1, f5, if_pos a1, a2, if_pos hp.2, if_pos h1, if_pos (show c 393 (-1) = 113 ∧ (0 : Int) ≤ p ∧ p < 4 from ⟨a1, hp⟩), k1, if_neg (by omega), if_pos k2.2.1]
  by_cases e : c (397 + 71 * p) 13 = 0
  · obtain ⟨c', r1, r2, r3⟩ := zs_K_followFrom d k2 k3 hS rfl hR (by omega) hp hpg hsn
    refine ⟨c', ?_, r2, r3⟩
    rw [if_pos e, if_pos h1, if_pos k2.2.1, f1, r1, zbnd_some]
  · rw [if_neg e]
    exact ⟨c, rfl, KAll.rf c _, hf.resolve_left e⟩
end
