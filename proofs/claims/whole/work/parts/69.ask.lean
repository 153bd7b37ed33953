/-! The class itself: the calls that ask. -/
def GQ (c : zC) (σ : aS) (r : zR) (v : Int) : Prop := ∃ c', r = some (v, c') ∧ RC c' σ ∧ zfr c c'
theorem GQ.rf {c : zC} {σ : aS} {r : zR} {v : Int} (h : RC c σ) (e : r = some (v, c)) : GQ c σ r v := ⟨c, e, h, zfr.rf c⟩
theorem zgetD_mem {α : Type} {l : List α} {m : Nat} {x : α} (h : m < l.length) : l.getD m x ∈ l := by
  have e : l.getD m x = l[m] := by simp [List.getD, List.getElem?_eq_getElem h]
  rw [e]; exact List.getElem_mem h
section
variable {c : zC} {σ : aS} {p i k w s : Int} (d : Nat)
theorem LState.pg {S : Int} (h : LState c S) (hp : isP p) : LPage c (S + 4 + 3 * p) := (h.2.2.2.2.2.2.2.2.1 p hp.1 hp.2).2
theorem RC.a0 (h : RC c σ) (hp : isP p) : σ.1 0 p = c (11 + 4 + 3 * p) 2 := by rw [← h.2.1.1, cv_0 hp.1 hp.2]
theorem zs_G_lOL (h0 : 0 ≤ w) (h1 : w < 9223372036854775808) : zrun zTab (d + 2) 125 [w, k] c = some (lOL w k, c) := by
  have hl := mlenF_le 10 w
  have hl2 : (mlenF 10 w : Int) = mlen w := rfl
  rw [hl2] at hl
  rw [ze_X11_letterOrLength, zs_lengthOf d c h0 h1, zbnd_some]
  unfold lOL
  by_cases e : k = -1
  · rw [if_pos e, if_pos e]
  rw [if_neg e, if_neg e]
  by_cases e2 : k < 0
  · rw [if_pos e2, if_pos e2]
  rw [if_neg e2, if_neg e2]
  by_cases e3 : k < mlen w
  · rw [if_pos e3, if_pos e3, zs_letterAt d c h0 h1 (by omega) e3 (by omega), zbnd_some]
  · rw [if_neg e3, if_neg e3]
theorem G_edited (h : RC c σ) : zrun zTab (d + 40) 110 [2, w] c = some (aEdited σ w, c) := by
  obtain ⟨⟨⟨h1, -, -, -, -, -, f6, -⟩, -, -, -, -, k6⟩, ⟨-, -, -, -, v1, v2, v3⟩, -⟩ := h
  rw [ze_X11_edited, f6, v1, v2, v3]
  unfold aEdited
  by_cases e : w = 0
  · rw [if_pos e, if_pos e, if_pos h1, if_pos k6.2.1]
  rw [if_neg e, if_neg e]
  by_cases e : w = 1
  · rw [if_pos e, if_pos e, if_pos h1, if_pos k6.2.1]
  rw [if_neg e, if_neg e]
  by_cases e : w = 2
  · rw [if_pos e, if_pos e, if_pos h1, if_pos k6.2.1]
  rw [if_neg e, if_neg e]
theorem G_cause (h : RC c σ) : zrun zTab (d + 40) 111 [2] c = some (σ.2.2.2.1.2.2, c) := by
  obtain ⟨⟨⟨h1, f0, -⟩, ⟨t1, -⟩, -⟩, ⟨-, -, -, ⟨-, -, v3⟩, -⟩, -⟩ := h
  rw [ze_X11_cause, if_pos h1, f0, if_pos t1.2.1, v3]
theorem G_word (h : RC c σ) (hv : VOK σ.1) : zrun zTab (d + 40) 112 [2, p, i, k] c = some (aWord σ.1 p i k, c) := by
  obtain ⟨⟨⟨h1, f0, f1, -⟩, -, ⟨s1, -⟩, -⟩, ⟨v1, -⟩, -⟩ := id h
  rw [ze_X11_word, if_pos h1, f1, if_pos s1.2.1, zs_T_pageAt (d + 38) c s1, zbnd_some]
  unfold aWord
  by_cases hp : isP p
  · have e0 := h.a0 hp
    have hP := s1.pg hp
    rw [if_pos (show 0 ≤ p ∧ p < 4 from hp), if_neg (by have := hp.1; omega)]
    by_cases e1 : i < 0
    · rw [if_pos e1, if_pos (Or.inl (fun q => by have := q.2.1; omega))]
    rw [if_neg e1, if_pos hP.1]
    by_cases e2 : i < σ.1 0 p
    · rw [if_pos (by rw [← e0]; exact e2)]
      by_cases e3 : k < -1
      · rw [if_pos e3, if_pos (Or.inr e3)]
      · obtain ⟨-, n, n1, n2, n3⟩ := (hv.1 p hp.1 hp.2).2.2.1 i (by omega) e2
        have e4 : σ.1 3 (20 * p + i) = c (11 + 4 + 3 * p + 1) i := by
          have := (hv.1 p hp.1 hp.2).1.2
          rw [← v1, cv_3 hp.1 hp.2 (by omega) (by omega) (by rw [← e0]; exact e2)]
        rw [if_neg e3, if_pos hP.1, zs_P_wordAt (d + 38) c hP, zbnd_some, if_pos ⟨by omega, by rw [← e0]; exact e2⟩, ← e4, zs_G_lOL (d + 37) (mwf_nn n3) (by have := mwf_63 n3 n2; omega), zbnd_some, if_neg (by intro q; rcases q with q | q; exact q ⟨hp, by omega, e2⟩; exact e3 q)]
    · rw [if_neg (by rw [← e0]; exact e2), if_pos (Or.inl (fun q => e2 q.2.2))]
  · rw [if_neg (show ¬ (0 ≤ p ∧ p < 4) from hp), if_pos rfl, if_pos (Or.inl (fun q => hp q.1))]
theorem G_told (h : RC c σ) (hv : VOK σ.1) : GQ c σ (zrun zTab (d + 40) 113 [2, p, i, w] c) (aTold σ.1 p i w) := by
  by_cases hp : isP p
  · obtain ⟨c2, r1, r2, r3, r4, -⟩ := G_link (d + 34) h hv hp
    refine ⟨c2, ?_, r2, r4⟩
    have hL := r3.1
    have h20 := (hv.1 p hp.1 hp.2).1
    rw [ze_X11_told, if_pos h.1.1.1, r1, zbnd_some, if_neg (by have := hp.1; omega)]
    unfold aTold
    by_cases e1 : i < 0
    · rw [if_pos e1, if_pos (fun q => by have := q.2.1; omega)]
    rw [if_neg e1, if_pos hL.2.1, hL.2.2.2.2.1]
    by_cases e2 : i < σ.1 0 p
    · rw [if_pos e2, if_neg (show ¬ ¬ isW σ.1 p i from fun q => q ⟨hp, by omega, e2⟩)]
      obtain ⟨j, rfl⟩ : ∃ j : Nat, i = (j : Int) := ⟨i.toNat, by omega⟩
      have g1 := (r3.2.2.1 j e2).1
      have g4 := r3.2.2.2.1 j (by omega)
      have g5 := r3.2.2.2.2.1 j e2
      by_cases e : w = 0
      · rw [if_pos e, if_pos e, if_pos hL.2.1, zs_K_sectionAt (d + 38) hL, zbnd_some, if_pos ⟨by omega, e2⟩, g1]
      rw [if_neg e, if_neg e]
      by_cases e : w = 1
      · rw [if_pos e, if_pos e, if_pos hL.2.1, zs_K_reasonAt (d + 38) hL, zbnd_some, if_pos ⟨by omega, e2⟩, g5, Int.toNat_natCast]
      rw [if_neg e, if_neg e]
      by_cases e : w = 2
      · rw [if_pos e, if_pos e, if_pos hL.2.1, zs_K_linkedTo (d + 37) r3, zbnd_some]
      rw [if_neg e, if_neg e]
      by_cases e : w = 3
      · rw [if_pos e, if_pos e, if_pos hL.2.1, zs_K_meantAt (d + 38) hL, zbnd_some, if_pos ⟨by omega, e2⟩, g4.2.2.1]
      rw [if_neg e, if_neg e]
      by_cases e : w = 4
      · rw [if_pos e, if_pos e, if_pos hL.2.1, zs_K_scoreAt (d + 38) hL, zbnd_some, if_pos ⟨by omega, e2⟩, g4.2.2.2.1]
      rw [if_neg e, if_neg e]
      by_cases e : w = 5
      · rw [if_pos e, if_pos e, if_pos hL.2.1, zs_K_levelAt (d + 38) hL, zbnd_some, if_pos ⟨by omega, e2⟩, g4.2.1]
      rw [if_neg e, if_neg e]
      by_cases e : w = 6
      · rw [if_pos e, if_pos e, if_pos hL.2.1, zs_K_linksAheadOf (d + 37) hL _ (by omega) (by omega), zbnd_some]
        rw [Int.toNat_natCast, zcnt_congr (g := fun j => mR σ.1 p (σ.1 1 p) (-1) j.toNat = 0) (fun q hq => by rw [r3.2.2.2.2.1 q (by omega), Int.toNat_natCast])]
      rw [if_neg e, if_neg e]
      by_cases e : w = 7
      · rw [if_pos e, if_pos e, if_pos hL.2.1, zs_K_baseCountAt (d + 37) hL r3.2.1, zbnd_some, if_pos ⟨by omega, e2⟩, (r3.2.2.1 j e2).2.1.1]
      rw [if_neg e, if_neg e]
    · rw [if_neg e2, if_pos (fun q => e2 q.2.2)]
  · refine GQ.rf h ?_
    rw [ze_X11_told, if_pos h.1.1.1, G_link0 (d + 38) h hp, zbnd_some, if_pos rfl]
    unfold aTold
    rw [if_pos (fun q => hp q.1)]
theorem mBL_rng {A : zA2} (hv : VOK A) (hp : isP p) (i0 : 0 ≤ i) (i1 : i < A 0 p) : zrng (mBL A p i) := by
  obtain ⟨-, n, n1, n2, n3⟩ := (hv.1 p hp.1 hp.2).2.2.1 i i0 i1
  have w0 : 0 ≤ A 3 (20 * p + i) ∧ A 3 (20 * p + i) < 1125899906842624 := ⟨mwf_nn n3, mwf_63 n3 n2⟩
  have ha : ∀ (x : Int), (0 ≤ x ∧ x < 1125899906842624) → ∀ r : Nat, r < (A 4 0).toNat → 0 ≤ apV A r x ∧ apV A r x < 1125899906842624 := fun x hx r hr => by
    obtain ⟨e, f, -, -, -, -, h6, -⟩ := hv.2.1.2 r (by omega) (by omega)
    exact mapp_lt hx.1 (mwf_nn h6)
  have key : ∀ m, m ≤ (A 4 0).toNat → zrng (mm2 (apV A) (A 4 0).toNat (A 3 (20 * p + i)) m) := by
    intro m
    induction m with
    | zero => intro _; exact mrow_rng (fun q hq => by rw [List.mem_singleton.mp hq]; exact w0) (ha _ w0)
    | succ m ih =>
      intro hm
      have := ih (by omega)
      show zrng (if apV A m (A 3 (20 * p + i)) = 0 then mm2 (apV A) (A 4 0).toNat (A 3 (20 * p + i)) m else mrow (apV A) (mm2 (apV A) (A 4 0).toNat (A 3 (20 * p + i)) m) (apV A m (A 3 (20 * p + i))) 2 (A 4 0).toNat)
      split
      · exact this
      · exact mrow_rng this (ha _ (ha _ w0 m (by omega)))
  exact key _ (Nat.le_refl _)
theorem G_base {b : Int} (h : RC c σ) (hv : VOK σ.1) : GQ c σ (zrun zTab (d + 40) 114 [2, p, i, b, k] c) (aBase σ.1 p i b k) := by
  by_cases hp : isP p
  · obtain ⟨c2, r1, r2, r3, r4, -⟩ := G_link (d + 34) h hv hp
    refine ⟨c2, ?_, r2, r4⟩
    have hL := r3.1
    have h20 := (hv.1 p hp.1 hp.2).1
    rw [ze_X11_base, if_pos h.1.1.1, r1, zbnd_some, if_neg (by have := hp.1; omega)]
    unfold aBase
    by_cases e1 : i < 0
    · rw [if_pos e1, if_pos (Or.inl (fun q => by have := q.2.1; omega))]
    rw [if_neg e1, if_pos hL.2.1, hL.2.2.2.2.1]
    by_cases e2 : i < σ.1 0 p
    · rw [if_pos e2]
      by_cases e3 : b < 0
      · rw [if_pos e3, if_pos (Or.inr (Or.inl e3))]
      rw [if_neg e3]
      by_cases e4 : k < -1
      · rw [if_pos e4, if_pos (Or.inr (Or.inr e4))]
      obtain ⟨j, rfl⟩ : ∃ j : Nat, i = (j : Int) := ⟨i.toNat, by omega⟩
      obtain ⟨g1, g2, g3⟩ := r3.2.2.1 j e2
      have hB := (r3.2.1 j (by omega) (by omega)).2
      have hLB : LBases c2 (397 + 71 * p + 11 + 3 * j) := ⟨hB.1, hB.2.1, hB.2.2.1, hB.2.2.2.1, hB.2.2.2.2, by rw [g2.1]; omega, by rw [g2.1]; omega⟩
      rw [if_neg e4, if_neg (show ¬ (¬ isW σ.1 p j ∨ b < 0 ∨ k < -1) from fun q => by rcases q with q | q | q; exact q ⟨hp, by omega, e2⟩; exact e3 q; exact e4 q), if_pos hL.2.1, zs_K_basesAt (d + 38) hL r3.2.1, zbnd_some, if_pos (show (0 : Int) ≤ j ∧ (j : Int) < σ.1 0 p from ⟨by omega, e2⟩), if_neg (by have := hp.1; omega), if_pos hB.1, g2.1]
      by_cases e5 : b < ((mBL σ.1 p j).length : Int)
      · obtain ⟨m, rfl⟩ : ∃ m : Nat, b = (m : Int) := ⟨b.toNat, by omega⟩
        have hm : m < (mBL σ.1 p j).length := by omega
        have hr := mBL_rng hv hp (Int.natCast_nonneg j) e2 ((mBL σ.1 p j).getD m (0, 0)) (zgetD_mem hm)
        rw [if_pos e5, if_pos e5, if_pos hB.1, zs_B_wordAt (d + 38) c2 hLB, zbnd_some, if_pos (show (0 : Int) ≤ m ∧ (m : Int) < c2 (397 + 71 * p + 11 + 3 * j) 2 from ⟨by omega, by rw [g2.1]; exact e5⟩), (g2.2 m hm).1, zs_G_lOL (d + 37) hr.1 (by omega), zbnd_some, Int.toNat_natCast]
      · rw [if_neg e5, if_neg e5]
    · rw [if_neg e2, if_pos (Or.inl (fun q => e2 q.2.2))]
  · refine GQ.rf h ?_
    rw [ze_X11_base, if_pos h.1.1.1, G_link0 (d + 38) h hp, zbnd_some, if_pos rfl]
    unfold aBase
    rw [if_pos (Or.inl (fun q => hp q.1))]
end
