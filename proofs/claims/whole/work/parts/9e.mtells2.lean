/-! The reference: what an edit tells, written. -/
section
variable {c : zC} {σ : aS} {f : Int → Int} {p a m n nold : Int} (d : Nat)
theorem RM.tells (h : RM c σ) (hp : isP p) (ho : 0 ≤ nold ∧ nold ≤ 20) (hn : σ.1 0 p = nold + n - m) (ha : 0 ≤ a ∧ a + m ≤ nold) (hmn : m = 0 ∧ n = 1 ∨ m = 1 ∧ n = 1 ∨ m = 1 ∧ n = 0) (hrow : ∀ k, 0 ≤ k → k < nold → c 696 k = mN (f k)) (hf : ∀ k, f k = -5 ∨ 0 ≤ f k) (hf5 : ∀ k, nold ≤ k → f k = -5) : ∃ c', zrun zTab (d + 8) 186 [681, p, nold, a, m, n] c = some (0, c') ∧ RM c' (σ.1, σ.2.1, σ.2.2.1, σ.2.2.2.1, (zcnt (fun i => eOn (mTo σ.1 p) i f (ePl i a n m)) 20, zcnt (fun i => eOn f i (mTo σ.1 p) (ePl i a m n)) 20, eFst (fun i => eOn (mTo σ.1 p) i f (ePl i a n m)) 20)) ∧ zlo c c' := by
  obtain ⟨c1, q1, q2, q3⟩ := zm_links1 d h.1 h.ok.1 hp
  have m1 := h.1.ms q2.1
  have n20 := (h.ok.1.pg hp).1
  have e0 : c 682 (242 * p) = σ.1 0 p := (h.a0 hp).symm
  rw [h.ok.2] at q3
  rw [e0] at n20
  have ms2 : MS c1 (zup c1 681 24 1) := (MS.rf c1).up (by decide) (Or.inr (by decide))
  have m2 := m1.ms ms2
  have o2 : ∀ b k, (b ≠ 681 ∨ k ≠ 24) → zup c1 681 24 1 b k = c1 b k := fun b k hh => zup_ne (by omega)
  have l2 : ML (zup c1 681 24 1) σ.1 p (σ.1 1 p) (-1) := q3.same (fun b _ _ _ k hk => o2 b k (by omega))
  have e02 : zup c1 681 24 1 682 (242 * p) = σ.1 0 p := by rw [o2 _ _ (Or.inl (by decide)), q2.e682]; exact e0
  have hrow2 : ∀ k, 0 ≤ k → k < nold → zup c1 681 24 1 696 k = mN (f k) := fun k k0 k1 => by
    rw [o2 _ _ (Or.inl (by decide)), q2.2.1 696 (by decide) (by decide)]; exact hrow k k0 k1
  obtain ⟨F', r1, r2⟩ := zm_tells_52 (d + 6) m2 hp l2 e02 n20 ho hn ha hmn hrow2 hf (σ.1 0 p).toNat 19998 0 (by omega) (by omega)
  have c20 : ∀ i : Int, ((σ.1 0 p).toNat : Int) ≤ i → ¬ EC σ.1 p f a m n i := fun i hi q => q.1 (mTo_hi (by omega))
  have d20 : ∀ i : Int, (nold.toNat : Int) ≤ i → ¬ ED σ.1 p f a m n i := fun i hi q => q.1 (hf5 i (by omega))
  obtain ⟨x1, x2⟩ := zcnt_ext (EC σ.1 p f a m n) (σ.1 0 p).toNat (20 - (σ.1 0 p).toNat) c20
  obtain ⟨x3, -⟩ := zcnt_ext (ED σ.1 p f a m n) nold.toNat (20 - nold.toNat) d20
  rw [show (σ.1 0 p).toNat + (20 - (σ.1 0 p).toNat) = 20 by omega] at x1 x2
  rw [show nold.toNat + (20 - nold.toNat) = 20 by omega] at x3
  rw [← x1, ← x2] at r2
  obtain ⟨F', rfl⟩ : ∃ G, F' = G + 1 := ⟨F' - 1, by omega⟩
  have r3 := zm_tells_169 (d + 6) (x := zcnt (EC σ.1 p f a m n) 20) (z := eFst (EC σ.1 p f a m n) 20) m2 l2 n20 ho hn ha hmn hrow2 hf nold.toNat F' 0 (by omega) (by omega)
  rw [← x3] at r3
  refine ⟨ztl (zup c1 681 24 1) (zcnt (EC σ.1 p f a m n) 20) (zcnt (ED σ.1 p f a m n) 20) (eFst (EC σ.1 p f a m n) 20), ?_, ?_, ?_⟩
  rotate_left 1
  · refine RM.ed (c' := ztl (zup c1 681 24 1) (zcnt (EC σ.1 p f a m n) 20) (zcnt (ED σ.1 p f a m n) 20) (eFst (EC σ.1 p f a m n) 20)) (ed := (zcnt (fun i => eOn (mTo σ.1 p) i f (ePl i a n m)) 20, zcnt (fun i => eOn f i (mTo σ.1 p) (ePl i a m n)) 20, eFst (fun i => eOn (mTo σ.1 p) i f (ePl i a n m)) 20)) h ((q2.1.tr ms2).tr ztl_ms) (fun k hk => ?_) (fun k => ?_) (fun k => ?_) ⟨?_, ztl_25, ztl_26, ztl_27⟩
    · rw [ztl_o (by omega), o2 _ _ (by omega), q2.2.2 k (by omega)]
    · rw [ztl_o (Or.inl (by decide)), o2 _ _ (Or.inl (by decide)), q2.e682]
    · rw [ztl_o (Or.inl (by decide)), o2 _ _ (Or.inl (by decide)), q2.2.1 683 (by decide) (by decide)]
    · rw [ztl_o (by omega), zup_eq ⟨rfl, rfl⟩]
  · intro b hb k
    rw [ztl_o (Or.inl (by omega)), o2 _ _ (Or.inl (by omega)), q2.2.1 b (by omega) (by omega)]
  · have m3 := m2.ms ((MS.rf (zup c1 681 24 1)).up (b := 681) (k := 25) (v := 0) (by decide) (Or.inr (by decide)))
    have m4 := m3.ms ((MS.rf (zup (zup c1 681 24 1) 681 25 0)).up (b := 681) (k := 26) (v := 0) (by decide) (Or.inr (by decide)))
    have run : zex zc_X12_tells zk_X12_tells (zrun zTab (d + 7)) 19999 52 [(2, 681), (0, p), (0, nold), (0, a), (0, m), (0, n), (0, n - m), (0, 0), (3, 0)] [] (ztl (zup c1 681 24 1) 0 0 (-5)) = some (0, ztl (zup c1 681 24 1) (zcnt (EC σ.1 p f a m n) 20) (zcnt (ED σ.1 p f a m n) 20) (eFst (EC σ.1 p f a m n) 20)) := r2.trans r3
    rw [ze_X12_tells, if_pos h.1.k, q1, zbnd_some, if_pos m1.k, if_pos m2.k, if_pos m3.k, if_pos m4.k, ztl_start]
    rcases hmn with ⟨rfl, rfl⟩ | ⟨rfl, rfl⟩ | ⟨rfl, rfl⟩
    · rw [if_neg (by decide), if_pos rfl]; exact run
    · rw [if_neg (by decide), if_neg (by decide)]; exact run
    · rw [if_pos rfl, if_neg (by decide)]; exact run
end
