/-! The reference: where its cells lie, its small methods. -/
def MO (c : zC) : Prop := c 681 (-1) = 12 ∧ (c 681 0 = 682 ∧ c 681 3 = 683 ∧ c 681 9 = 684 ∧ c 681 11 = 685 ∧ c 681 12 = 686 ∧ c 681 13 = 687 ∧ c 681 14 = 688 ∧ c 681 15 = 689 ∧ c 681 16 = 690 ∧ c 681 17 = 691 ∧ c 681 18 = 692 ∧ c 681 19 = 693 ∧ c 681 20 = 694 ∧ c 681 21 = 695 ∧ c 681 23 = 696 ∧ c 681 28 = 697) ∧
  (LArr c 682 100 14820 ∧ LArr c 683 100 80 ∧ LArr c 684 100 240 ∧ LArr c 685 100 57 ∧ LArr c 686 100 20 ∧ LArr c 687 100 860 ∧ LArr c 688 100 860 ∧ LArr c 689 100 8600 ∧ LArr c 690 100 10 ∧ LArr c 691 100 10 ∧ LArr c 692 100 20 ∧ LArr c 693 100 20 ∧ LArr c 694 100 20 ∧ LArr c 695 100 20 ∧ LArr c 696 100 20 ∧ LArr c 697 100 20)
/-- a field of the reference that leads to a row -/
abbrev isF (k : Int) : Prop := k = 0 ∨ k = 3 ∨ k = 9 ∨ (11 ≤ k ∧ k ≤ 21) ∨ k = 23 ∨ k = 28
/-- the shapes are unchanged -/
def MS (c c' : zC) : Prop := (∀ b k, k < 0 → c' b k = c b k) ∧ ∀ k, isF k → c' 681 k = c 681 k
theorem MS.rf (c : zC) : MS c c := ⟨fun _ _ _ => rfl, fun _ _ => rfl⟩
theorem MS.tr {c c1 c2 : zC} (h : MS c c1) (g : MS c1 c2) : MS c c2 := ⟨fun b k hk => (g.1 b k hk).trans (h.1 b k hk), fun k hk => (g.2 k hk).trans (h.2 k hk)⟩
theorem MS.up {c c' : zC} {b k v : Int} (h : MS c c') (h0 : 0 ≤ k) (h1 : b ≠ 681 ∨ ¬ isF k) : MS c (zup c' b k v) :=
  ⟨fun x j hj => by rw [zup_ne (by omega)]; exact h.1 x j hj, fun j hj => by rw [zup_ne (by rcases h1 with q | q; exact Or.inl (fun x => q x.symm); exact Or.inr (fun x => q (x ▸ hj)))]; exact h.2 j hj⟩
theorem MO.ms {c c' : zC} (h : MO c) (g : MS c c') : MO c' := by
  obtain ⟨h1, h2, h3⟩ := h
  unfold MO LArr at *
  refine ⟨by rw [g.1 _ _ (by decide)]; exact h1, ?_, ?_⟩
  · rw [g.2 0 (by decide), g.2 3 (by decide), g.2 9 (by decide), g.2 11 (by decide), g.2 12 (by decide), g.2 13 (by decide), g.2 14 (by decide), g.2 15 (by decide), g.2 16 (by decide), g.2 17 (by decide), g.2 18 (by decide), g.2 19 (by decide), g.2 20 (by decide), g.2 21 (by decide), g.2 23 (by decide), g.2 28 (by decide)]
    exact h2
  · have e1 : ∀ b, c' b (-1) = c b (-1) := fun b => g.1 b _ (by decide)
    have e2 : ∀ b, c' b (-2) = c b (-2) := fun b => g.1 b _ (by decide)
    simp only [e1, e2]
    exact h3
/-- the class's cells are unchanged -/
def zlo (c c' : zC) : Prop := ∀ b, b < 681 → ∀ k, c' b k = c b k
theorem zlo.rf (c : zC) : zlo c c := fun _ _ _ => rfl
theorem zlo.tr {c c1 c2 : zC} (h : zlo c c1) (g : zlo c1 c2) : zlo c c2 := fun b hb k => (g b hb k).trans (h b hb k)
theorem zlo.up {c c' : zC} {b k v : Int} (h : zlo c c') (hb : 681 ≤ b) : zlo c (zup c' b k v) := fun x hx j => by rw [zup_ne (by omega)]; exact h x hx j
section
variable {c : zC} {p i r s x : Int} (d : Nat)
theorem MO.k (h : MO c) : c 681 (-1) = 12 := h.1
theorem MO.f (h : MO c) : c 681 0 = 682 ∧ c 681 3 = 683 ∧ c 681 9 = 684 ∧ c 681 11 = 685 ∧ c 681 12 = 686 ∧ c 681 13 = 687 ∧ c 681 14 = 688 ∧ c 681 15 = 689 ∧ c 681 16 = 690 ∧ c 681 17 = 691 ∧ c 681 18 = 692 ∧ c 681 19 = 693 ∧ c 681 20 = 694 ∧ c 681 21 = 695 ∧ c 681 23 = 696 ∧ c 681 28 = 697 := h.2.1
theorem MO.r682 (h : MO c) (h0 : 0 ≤ x) (h1 : x < 14820) : c 682 (-1) = 100 ∧ (0 : Int) ≤ x ∧ x < c 682 (-2) := ⟨h.2.2.1.1, h0, by rw [h.2.2.1.2]; exact h1⟩
theorem MO.r683 (h : MO c) (h0 : 0 ≤ x) (h1 : x < 80) : c 683 (-1) = 100 ∧ (0 : Int) ≤ x ∧ x < c 683 (-2) := ⟨h.2.2.2.1.1, h0, by rw [h.2.2.2.1.2]; exact h1⟩
theorem MO.r684 (h : MO c) (h0 : 0 ≤ x) (h1 : x < 240) : c 684 (-1) = 100 ∧ (0 : Int) ≤ x ∧ x < c 684 (-2) := ⟨h.2.2.2.2.1.1, h0, by rw [h.2.2.2.2.1.2]; exact h1⟩
theorem MO.r685 (h : MO c) (h0 : 0 ≤ x) (h1 : x < 57) : c 685 (-1) = 100 ∧ (0 : Int) ≤ x ∧ x < c 685 (-2) := ⟨h.2.2.2.2.2.1.1, h0, by rw [h.2.2.2.2.2.1.2]; exact h1⟩
theorem MO.r686 (h : MO c) (h0 : 0 ≤ x) (h1 : x < 20) : c 686 (-1) = 100 ∧ (0 : Int) ≤ x ∧ x < c 686 (-2) := ⟨h.2.2.2.2.2.2.1.1, h0, by rw [h.2.2.2.2.2.2.1.2]; exact h1⟩
theorem MO.r687 (h : MO c) (h0 : 0 ≤ x) (h1 : x < 860) : c 687 (-1) = 100 ∧ (0 : Int) ≤ x ∧ x < c 687 (-2) := ⟨h.2.2.2.2.2.2.2.1.1, h0, by rw [h.2.2.2.2.2.2.2.1.2]; exact h1⟩
theorem MO.r688 (h : MO c) (h0 : 0 ≤ x) (h1 : x < 860) : c 688 (-1) = 100 ∧ (0 : Int) ≤ x ∧ x < c 688 (-2) := ⟨h.2.2.2.2.2.2.2.2.1.1, h0, by rw [h.2.2.2.2.2.2.2.2.1.2]; exact h1⟩
theorem MO.r689 (h : MO c) (h0 : 0 ≤ x) (h1 : x < 8600) : c 689 (-1) = 100 ∧ (0 : Int) ≤ x ∧ x < c 689 (-2) := ⟨h.2.2.2.2.2.2.2.2.2.1.1, h0, by rw [h.2.2.2.2.2.2.2.2.2.1.2]; exact h1⟩
theorem MO.r690 (h : MO c) (h0 : 0 ≤ x) (h1 : x < 10) : c 690 (-1) = 100 ∧ (0 : Int) ≤ x ∧ x < c 690 (-2) := ⟨h.2.2.2.2.2.2.2.2.2.2.1.1, h0, by rw [h.2.2.2.2.2.2.2.2.2.2.1.2]; exact h1⟩
theorem MO.r691 (h : MO c) (h0 : 0 ≤ x) (h1 : x < 10) : c 691 (-1) = 100 ∧ (0 : Int) ≤ x ∧ x < c 691 (-2) := ⟨h.2.2.2.2.2.2.2.2.2.2.2.1.1, h0, by rw [h.2.2.2.2.2.2.2.2.2.2.2.1.2]; exact h1⟩
theorem MO.r692 (h : MO c) (h0 : 0 ≤ x) (h1 : x < 20) : c 692 (-1) = 100 ∧ (0 : Int) ≤ x ∧ x < c 692 (-2) := ⟨h.2.2.2.2.2.2.2.2.2.2.2.2.1.1, h0, by rw [h.2.2.2.2.2.2.2.2.2.2.2.2.1.2]; exact h1⟩
theorem MO.r693 (h : MO c) (h0 : 0 ≤ x) (h1 : x < 20) : c 693 (-1) = 100 ∧ (0 : Int) ≤ x ∧ x < c 693 (-2) := ⟨h.2.2.2.2.2.2.2.2.2.2.2.2.2.1.1, h0, by rw [h.2.2.2.2.2.2.2.2.2.2.2.2.2.1.2]; exact h1⟩
theorem MO.r694 (h : MO c) (h0 : 0 ≤ x) (h1 : x < 20) : c 694 (-1) = 100 ∧ (0 : Int) ≤ x ∧ x < c 694 (-2) := ⟨h.2.2.2.2.2.2.2.2.2.2.2.2.2.2.1.1, h0, by rw [h.2.2.2.2.2.2.2.2.2.2.2.2.2.2.1.2]; exact h1⟩
theorem MO.r695 (h : MO c) (h0 : 0 ≤ x) (h1 : x < 20) : c 695 (-1) = 100 ∧ (0 : Int) ≤ x ∧ x < c 695 (-2) := ⟨h.2.2.2.2.2.2.2.2.2.2.2.2.2.2.2.1.1, h0, by rw [h.2.2.2.2.2.2.2.2.2.2.2.2.2.2.2.1.2]; exact h1⟩
theorem MO.r696 (h : MO c) (h0 : 0 ≤ x) (h1 : x < 20) : c 696 (-1) = 100 ∧ (0 : Int) ≤ x ∧ x < c 696 (-2) := ⟨h.2.2.2.2.2.2.2.2.2.2.2.2.2.2.2.2.1.1, h0, by rw [h.2.2.2.2.2.2.2.2.2.2.2.2.2.2.2.2.1.2]; exact h1⟩
theorem MO.r697 (h : MO c) (h0 : 0 ≤ x) (h1 : x < 20) : c 697 (-1) = 100 ∧ (0 : Int) ≤ x ∧ x < c 697 (-2) := ⟨h.2.2.2.2.2.2.2.2.2.2.2.2.2.2.2.2.2.1, h0, by rw [h.2.2.2.2.2.2.2.2.2.2.2.2.2.2.2.2.2.2]; exact h1⟩
theorem zm_in {a b : Int} : zrun zTab (d + 1) 138 [x, a, b] c = some (if a ≤ x ∧ x ≤ b then 1 else 0, c) := by
  rw [ze_X12_in]
  by_cases e : x < a
  · rw [if_pos e, if_neg (by omega)]
  · rw [if_neg e]
    by_cases e2 : x ≤ b
    · rw [if_pos e2, if_pos (by omega)]
    · rw [if_neg e2, if_neg (by omega)]
theorem zm_isPage : zrun zTab (d + 2) 141 [p] c = some (if isP p then 1 else 0, c) := by
  rw [ze_X12_isPage, zm_in, zbnd_some]
  by_cases e : isP p
  · rw [if_pos (show (0 : Int) ≤ p ∧ p ≤ 3 from ⟨e.1, by have := e.2; omega⟩), if_pos e, if_pos (Or.inr rfl)]
  · rw [if_neg (show ¬ ((0 : Int) ≤ p ∧ p ≤ 3) from fun q => e ⟨q.1, by have := q.2; omega⟩), if_neg e, if_pos (Or.inl rfl)]
theorem zm_words (h : MO c) (hp : isP p) : zrun zTab (d + 1) 142 [681, p] c = some (c 682 (242 * p), c) := by
  have := hp.1
  have := hp.2
  rw [ze_X12_words, if_pos h.k, h.f.1, zmul_id (by omega) (by omega), if_pos (h.r682 (by omega) (by omega))]
theorem zm_budgetOf (h : MO c) (hp : isP p) : zrun zTab (d + 1) 143 [681, p] c = some (c 682 (242 * p + 1), c) := by
  have := hp.1
  have := hp.2
  rw [ze_X12_budgetOf, if_pos h.k, h.f.1, zmul_id (by omega) (by omega), zadd_id (by omega) (by omega), if_pos (h.r682 (by omega) (by omega))]
theorem zm_wordAt (hp : isP p) (hi : -100 ≤ i ∧ i ≤ 100) : zrun zTab (d + 1) 144 [p, i] c = some (242 * p + 2 + 12 * i, c) := by
  have := hp.1
  have := hp.2
  rw [ze_X12_wordAt, zmul_id (by omega) (by omega), zmul_id (by omega) (by omega), zadd_id (x := 242 * p) (by omega) (by omega), zadd_id (by omega) (by omega)]
theorem zm_isWord (h : MO c) (hn : ∀ p, isP p → 0 ≤ c 682 (242 * p) ∧ c 682 (242 * p) ≤ 20) : zrun zTab (d + 3) 145 [681, p, i] c = some (if isP p ∧ 0 ≤ i ∧ i < c 682 (242 * p) then 1 else 0, c) := by
  rw [ze_X12_isWord, zm_isPage, zbnd_some]
  by_cases e : isP p
  · have := hn p e
    rw [if_pos e, if_neg (by decide), if_pos h.k, zm_words (d + 1) h e, zbnd_some, zsub_id (by omega) (by omega), zm_in, zbnd_some]
    by_cases e2 : 0 ≤ i ∧ i < c 682 (242 * p)
    · rw [if_pos (show (0 : Int) ≤ i ∧ i ≤ c 682 (242 * p) - 1 by omega), if_neg (by decide), if_pos ⟨e, e2⟩]
    · rw [if_neg (show ¬ ((0 : Int) ≤ i ∧ i ≤ c 682 (242 * p) - 1) by omega), if_pos rfl, if_neg (fun q => e2 q.2)]
  · rw [if_neg e, if_pos rfl, if_neg (fun q => e q.1)]
theorem zm_sectionOf (h : MO c) (hp : isP p) (hi : 0 ≤ i ∧ i < 20) : zrun zTab (d + 2) 146 [681, p, i] c = some (c 682 (242 * p + 2 + 12 * i), c) := by
  have := hp.1
  have := hp.2
  rw [ze_X12_sectionOf, if_pos h.k, h.f.1, zm_wordAt d hp (by omega), zbnd_some, if_pos (h.r682 (by omega) (by omega))]
theorem zm_sections (h : MO c) (hp : isP p) (hn : 0 ≤ c 682 (242 * p) ∧ c 682 (242 * p) ≤ 20) (hs : 0 < c 682 (242 * p) → 0 ≤ c 682 (242 * p + 2 + 12 * (c 682 (242 * p) - 1)) ∧ c 682 (242 * p + 2 + 12 * (c 682 (242 * p) - 1)) ≤ 3) : zrun zTab (d + 3) 147 [681, p] c = some (if c 682 (242 * p) < 1 then 0 else c 682 (242 * p + 2 + 12 * (c 682 (242 * p) - 1)) + 1, c) := by
  rw [ze_X12_sections, if_pos h.k, zm_words (d + 1) h hp, zbnd_some]
  by_cases e : c 682 (242 * p) = 0
  · rw [if_pos e, if_pos (by omega)]
  · have := hs (by omega)
    rw [if_neg e, if_pos h.k, zm_words (d + 1) h hp, zbnd_some, if_pos h.k, zsub_id (by omega) (by omega), zm_sectionOf d h hp (by omega), zbnd_some, zadd_id (by omega) (by omega), if_neg (by omega)]
theorem zm_rules (h : MO c) : zrun zTab (d + 1) 148 [681] c = some (c 682 968, c) := by
  rw [ze_X12_rules, if_pos h.k, h.f.1, if_pos (h.r682 (by omega) (by omega))]
theorem zm_senses (h : MO c) : zrun zTab (d + 1) 149 [681] c = some (c 682 1023, c) := by
  rw [ze_X12_senses, if_pos h.k, h.f.1, if_pos (h.r682 (by omega) (by omega))]
theorem zm_ruleAt (h : 0 ≤ r ∧ r ≤ 100) : zrun zTab (d + 1) 150 [r] c = some (969 + 9 * r, c) := by
  rw [ze_X12_ruleAt, zmul_id (by omega) (by omega), zadd_id (by omega) (by omega)]
theorem zm_senseAt (h : 0 ≤ s ∧ s ≤ 100) : zrun zTab (d + 1) 151 [s] c = some (1024 + 57 * s, c) := by
  rw [ze_X12_senseAt, zmul_id (by omega) (by omega), zadd_id (by omega) (by omega)]
theorem zm_hints (h : MO c) (hs : 0 ≤ s ∧ s < 8) : zrun zTab (d + 2) 152 [681, s] c = some (c 682 (1024 + 57 * s + 11), c) := by
  rw [ze_X12_hints, if_pos h.k, h.f.1, zm_senseAt d (by omega), zbnd_some, zadd_id (by omega) (by omega), if_pos (h.r682 (by omega) (by omega))]
theorem zm_hintAt {x : Int} (hs : 0 ≤ s ∧ s < 8) (hx : 0 ≤ x ∧ x ≤ 5) : zrun zTab (d + 2) 153 [s, x] c = some (1024 + 57 * s + 12 + 11 * x, c) := by
  rw [ze_X12_hintAt, zm_senseAt d (by omega), zbnd_some, zmul_id (by omega) (by omega), zadd_id (x := 1024 + 57 * s) (by omega) (by omega), zadd_id (by omega) (by omega)]
theorem zm_own (h : MO c) (hs : 0 ≤ s ∧ s < 8) : zrun zTab (d + 2) 154 [681, s] c = some (c 682 (1024 + 57 * s + 56), c) := by
  rw [ze_X12_own, if_pos h.k, h.f.1, zm_senseAt d (by omega), zbnd_some, zadd_id (by omega) (by omega), if_pos (h.r682 (by omega) (by omega))]
end
