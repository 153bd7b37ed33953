/-! The class itself: the edits. -/
section
variable {c c' : zC} {S : Int}
/-- a page's words and sections as the view has them -/
theorem st_w (h : LState c S) {p i : Int} (hp : isP p) (i0 : 0 ≤ i) (i1 : i < c (S + 4 + 3 * p) 2) : c (S + 4 + 3 * p + 2) i = cview c S 2 (20 * p + i) ∧ c (S + 4 + 3 * p + 1) i = cview c S 3 (20 * p + i) := by
  have := (h.pg hp).2.2.2.2.2.2
  exact ⟨(cv_2 hp.1 hp.2 i0 (by omega) i1).symm, (cv_3 hp.1 hp.2 i0 (by omega) i1).symm⟩
theorem st_ins (h : LState c S) {p i w : Int} (hp : isP p) (hi : 0 ≤ i) (hin : i ≤ c (S + 4 + 3 * p) 2) (hn : c (S + 4 + 3 * p) 2 < 20) (e : c' = zup (zup (zup (zshiftU c (S + 4 + 3 * p) i (c (S + 4 + 3 * p) 2)) (S + 4 + 3 * p + 1) i w) (S + 4 + 3 * p + 2) i (if i < c (S + 4 + 3 * p) 2 then c (S + 4 + 3 * p + 2) i else if c (S + 4 + 3 * p) 2 = 0 then 0 else c (S + 4 + 3 * p + 2) (c (S + 4 + 3 * p) 2 - 1))) (S + 4 + 3 * p) 2 (c (S + 4 + 3 * p) 2 + 1)) : (LState c' S ∧ (RulesOK c S → RulesOK c' S) ∧ cview c' S = uIns (cview c S) p i w) ∧ (∀ b, (b < S + 4 + 3 * p ∨ S + 4 + 3 * p + 2 < b) → ∀ k, c' b k = c b k) ∧ c' (S + 4 + 3 * p) 2 = c (S + 4 + 3 * p) 2 + 1 := by
  have p0 := hp.1
  have p1 := hp.2
  have n0 := (h.pg hp).2.2.2.2.2
  have e0 : cview c S 0 p = c (S + 4 + 3 * p) 2 := cv_0 hp.1 hp.2
  have sh : ∀ b k, (b < S + 4 + 3 * p ∨ S + 4 + 3 * p + 2 < b ∨ b = S + 4 + 3 * p ∨ k ≤ i) → zshiftU c (S + 4 + 3 * p) i (c (S + 4 + 3 * p) 2) b k = c b k := fun b k q => by unfold zshiftU; rw [if_neg (by omega)]
  have o : ∀ b, (b < S + 4 + 3 * p ∨ S + 4 + 3 * p + 2 < b) → ∀ k, c' b k = c b k := fun b hb k => by rw [e, zup_ne (by omega), zup_ne (by omega), zup_ne (by omega), sh b k (by omega)]
  have oP : ∀ k, k ≠ 2 → c' (S + 4 + 3 * p) k = c (S + 4 + 3 * p) k := fun k hk => by rw [e, zup_ne (by omega), zup_ne (by omega), zup_ne (by omega), sh _ k (by omega)]
  have e2 : c' (S + 4 + 3 * p) 2 = c (S + 4 + 3 * p) 2 + 1 := by rw [e, zup_eq ⟨rfl, rfl⟩]
  refine ⟨st_pg h hp o (fun b k hk => by rw [e, zup_ne (by omega), zup_ne (by omega), zup_ne (by omega), sh b k (by omega)]) ⟨oP 0 (by decide), oP 1 (by decide), oP 3 (by decide)⟩ (by rw [e0]; exact e2) (by rw [e0]; omega) (fun k k0 k1 => ?_), o, e2⟩
  rw [e0] at k1
  have q2 : c' (S + 4 + 3 * p + 2) k = if k = i then (if i < c (S + 4 + 3 * p) 2 then c (S + 4 + 3 * p + 2) i else if c (S + 4 + 3 * p) 2 = 0 then 0 else c (S + 4 + 3 * p + 2) (c (S + 4 + 3 * p) 2 - 1)) else zshiftU c (S + 4 + 3 * p) i (c (S + 4 + 3 * p) 2) (S + 4 + 3 * p + 2) k := by
    rw [e, zup_ne (by omega)]
    by_cases x : k = i
    · rw [if_pos x, zup_eq ⟨rfl, x⟩]
    · rw [if_neg x, zup_ne (by omega), zup_ne (by omega)]
  have q1 : c' (S + 4 + 3 * p + 1) k = if k = i then w else zshiftU c (S + 4 + 3 * p) i (c (S + 4 + 3 * p) 2) (S + 4 + 3 * p + 1) k := by
    rw [e, zup_ne (by omega), zup_ne (by omega)]
    by_cases x : k = i
    · rw [if_pos x, zup_eq ⟨rfl, x⟩]
    · rw [if_neg x, zup_ne (by omega)]
  rw [q1, q2]
  by_cases x : k < i
  · have := st_w h hp k0 (by omega)
    rw [if_pos x, if_pos x, if_neg (show ¬ k = i by omega), if_neg (show ¬ k = i by omega), sh _ k (by omega), sh _ k (by omega)]
    exact this
  · by_cases y : k = i
    · rw [if_pos y, if_pos y, if_neg x, if_pos y, if_neg x, if_pos y]
      refine ⟨?_, rfl⟩
      unfold mSecIns
      rw [e0]
      by_cases z : i < c (S + 4 + 3 * p) 2
      · rw [if_pos z, if_pos z]; exact (st_w h hp hi z).1
      · rw [if_neg z, if_neg z]
        by_cases z2 : c (S + 4 + 3 * p) 2 = 0
        · rw [if_pos z2, if_pos z2]
        · rw [if_neg z2, if_neg z2]; exact (st_w h hp (by omega) (by omega)).1
    · have := st_w h hp (i := k - 1) (by omega) (by omega)
      rw [if_neg y, if_neg y, if_neg x, if_neg y, if_neg x, if_neg y]
      unfold zshiftU
      rw [if_pos (by omega), if_pos (by omega)]
      exact this
theorem st_rep (h : LState c S) {p i w : Int} (hp : isP p) (hi : 0 ≤ i) (e : c' = zup c (S + 4 + 3 * p + 1) i w) : (LState c' S ∧ (RulesOK c S → RulesOK c' S) ∧ cview c' S = uRep (cview c S) p i w) ∧ (∀ b, (b < S + 4 + 3 * p ∨ S + 4 + 3 * p + 2 < b) → ∀ k, c' b k = c b k) ∧ c' (S + 4 + 3 * p) 2 = c (S + 4 + 3 * p) 2 := by
  have p0 := hp.1
  have p1 := hp.2
  have n0 := (h.pg hp).2.2.2.2.2
  have e0 : cview c S 0 p = c (S + 4 + 3 * p) 2 := cv_0 hp.1 hp.2
  have o : ∀ b, (b < S + 4 + 3 * p ∨ S + 4 + 3 * p + 2 < b) → ∀ k, c' b k = c b k := fun b hb k => by rw [e, zup_ne (by omega)]
  have oP : ∀ k, c' (S + 4 + 3 * p) k = c (S + 4 + 3 * p) k := fun k => by rw [e, zup_ne (by omega)]
  refine ⟨st_pg h hp o (fun b k hk => by rw [e, zup_ne (by omega)]) ⟨oP 0, oP 1, oP 3⟩ (by rw [e0]; exact oP 2) (by rw [e0]; omega) (fun k k0 k1 => ?_), o, oP 2⟩
  rw [e0] at k1
  have := st_w h hp k0 k1
  rw [e, zup_ne (by omega)]
  refine ⟨this.1, ?_⟩
  by_cases x : k = i
  · rw [if_pos x, zup_eq ⟨rfl, x⟩]
  · rw [if_neg x, zup_ne (by omega)]; exact this.2
theorem st_cut (h : LState c S) {p i : Int} (hp : isP p) (hi : 0 ≤ i) (hin : i < c (S + 4 + 3 * p) 2) {al : Prop} [Decidable al] (hal : al ↔ mAl (cview c S) p i) (e : c' = zdrop c (S + 4 + 3 * p) i al) : (LState c' S ∧ (RulesOK c S → RulesOK c' S) ∧ cview c' S = uCut (cview c S) p i) ∧ (∀ b, (b < S + 4 + 3 * p ∨ S + 4 + 3 * p + 2 < b) → ∀ k, c' b k = c b k) ∧ c' (S + 4 + 3 * p) 2 = c (S + 4 + 3 * p) 2 - 1 := by
  have p0 := hp.1
  have p1 := hp.2
  have n0 := (h.pg hp).2.2.2.2.2
  have e0 : cview c S 0 p = c (S + 4 + 3 * p) 2 := cv_0 hp.1 hp.2
  have zo : ∀ b k, (b ≠ S + 4 + 3 * p + 2 ∨ k < 0) → c' b k = zup (zshiftD c (S + 4 + 3 * p) i (c (S + 4 + 3 * p) 2 - 1)) (S + 4 + 3 * p) 2 (c (S + 4 + 3 * p) 2 - 1) b k := fun b k q => by
    rw [e]; unfold zdrop
    split
    · unfold zcloseS; rw [if_neg (by omega)]
    · rfl
  have o : ∀ b, (b < S + 4 + 3 * p ∨ S + 4 + 3 * p + 2 < b) → ∀ k, c' b k = c b k := fun b hb k => by rw [zo b k (by omega), zup_ne (by omega)]; unfold zshiftD; rw [if_neg (by omega)]
  have oP : ∀ k, k ≠ 2 → c' (S + 4 + 3 * p) k = c (S + 4 + 3 * p) k := fun k hk => by rw [zo _ k (by omega), zup_ne (by omega)]; unfold zshiftD; rw [if_neg (by omega)]
  have e2 : c' (S + 4 + 3 * p) 2 = c (S + 4 + 3 * p) 2 - 1 := by rw [zo _ 2 (by omega), zup_eq ⟨rfl, rfl⟩]
  have sd : ∀ b k, (b = S + 4 + 3 * p + 1 ∨ b = S + 4 + 3 * p + 2) → k < c (S + 4 + 3 * p) 2 - 1 → zshiftD c (S + 4 + 3 * p) i (c (S + 4 + 3 * p) 2 - 1) b k = if k < i then c b k else c b (k + 1) := fun b k hb hk => by
    unfold zshiftD
    by_cases x : k < i
    · rw [if_pos x, if_neg (by omega)]
    · rw [if_neg x, if_pos (by omega)]
  refine ⟨?_, o, e2⟩
  unfold uCut
  refine st_pg h hp o (fun b k hk => by rw [zo b k (by omega), zup_ne (by omega)]; unfold zshiftD; rw [if_neg (by omega)]) ⟨oP 0 (by decide), oP 1 (by decide), oP 3 (by decide)⟩ (by rw [e0]; exact e2) (by rw [e0]; omega) (fun k k0 k1 => ?_)
  rw [e0] at k1
  have w1 : (if k < i then c (S + 4 + 3 * p + 2) k else c (S + 4 + 3 * p + 2) (k + 1)) = (if k < i then cview c S 2 (20 * p + k) else cview c S 2 (20 * p + (k + 1))) ∧ (if k < i then c (S + 4 + 3 * p + 1) k else c (S + 4 + 3 * p + 1) (k + 1)) = (if k < i then cview c S 3 (20 * p + k) else cview c S 3 (20 * p + (k + 1))) := by
    by_cases x : k < i
    · have := st_w h hp k0 (by omega)
      rw [if_pos x, if_pos x, if_pos x, if_pos x]; exact this
    · have := st_w h hp (i := k + 1) (by omega) (by omega)
      rw [if_neg x, if_neg x, if_neg x, if_neg x]; exact this
  refine ⟨?_, by rw [zo _ k (by omega), zup_ne (by omega), sd _ k (Or.inl rfl) k1]; exact w1.2⟩
  have wi := (st_w h hp hi hin).1
  rw [← w1.1, ← wi, e]
  unfold zdrop
  by_cases a : al
  · rw [if_pos a]
    unfold zcloseS
    rw [zup_ne (by omega), sd _ k (Or.inr rfl) k1]
    generalize (if k < i then c (S + 4 + 3 * p + 2) k else c (S + 4 + 3 * p + 2) (k + 1)) = X
    by_cases y : c (S + 4 + 3 * p + 2) i < X
    · rw [if_pos (show S + 4 + 3 * p + 2 = S + 4 + 3 * p + 2 ∧ 0 ≤ k ∧ k < c (S + 4 + 3 * p) 2 - 1 ∧ c (S + 4 + 3 * p + 2) i < X from ⟨rfl, k0, k1, y⟩), if_pos ⟨hal.mp a, y⟩]
    · rw [if_neg (show ¬ (S + 4 + 3 * p + 2 = S + 4 + 3 * p + 2 ∧ 0 ≤ k ∧ k < c (S + 4 + 3 * p) 2 - 1 ∧ c (S + 4 + 3 * p + 2) i < X) from fun q => y q.2.2.2), if_neg (fun q => y q.2)]
  · rw [if_neg a, zup_ne (by omega), sd _ k (Or.inr rfl) k1]
    generalize (if k < i then c (S + 4 + 3 * p + 2) k else c (S + 4 + 3 * p + 2) (k + 1)) = X
    rw [if_neg (fun q => a (hal.mpr q.1))]
end
section
variable {c : zC} {σ : aS} {p i : Int} (d : Nat)
theorem G_ins (h : RC c σ) (hv : VOK σ.1) (hv2 : VOK (aIns σ p i).2.1) : GC c (zrun zTab (d + 40) 107 [2, p, i] c) (aIns σ p i) := by
  obtain ⟨⟨l1, -, ⟨s1, -⟩, -⟩, ⟨v1, -⟩, -⟩ := id h
  have g := h.g3
  rw [ze_X11_insert, if_pos l1.1, l1.2.2.1, if_pos s1.2.1, zs_T_pageAt (d + 38) c s1, zbnd_some]
  unfold aIns at hv2 ⊢
  by_cases hp : isP p
  · have p0 := hp.1
    have p1 := hp.2
    have hP := s1.pg hp
    have a0 := h.a0 hp
    have a20 := (hv.1 p hp.1 hp.2).1
    rw [if_pos (show 0 ≤ p ∧ p < 4 from hp), if_neg (by omega)]
    by_cases e1 : i < 0
    · rw [if_pos e1, if_pos (show ¬ (isP p ∧ 0 ≤ i ∧ i ≤ σ.1 0 p) from fun q => by have := q.2.1; omega)]
      exact GC.of rfl h (zfr.rf c)
    rw [if_neg e1, if_pos hP.1, ← a0]
    by_cases e2 : i ≤ σ.1 0 p
    · rw [if_neg (show ¬ ¬ (isP p ∧ 0 ≤ i ∧ i ≤ σ.1 0 p) from fun q => q ⟨hp, by omega, e2⟩)] at hv2
      rw [if_pos e2, if_neg (show ¬ ¬ (isP p ∧ 0 ≤ i ∧ i ≤ σ.1 0 p) from fun q => q ⟨hp, by omega, e2⟩), if_pos hP.1]
      by_cases e3 : σ.1 0 p < 20
      · obtain ⟨c1, r1, r2, r3, r4, r6⟩ := G_rdWord (d + 34) h
        have g1 := r2.g3
        rw [if_neg (show ¬ 20 ≤ σ.1 0 p by omega)] at hv2
        rw [if_pos e3, if_neg (show ¬ 20 ≤ σ.1 0 p by omega), if_pos g.1, g.2.1, if_pos g.2.2.1, r1, zbnd_some]
        generalize tOne σ.2.2.2.1.2.1 σ.2.2.2.1.1 σ.2.2.2.1.2.2 = W at r2 r3 r4 hv2 ⊢
        by_cases e : W.2.2.1 = -1
        · rw [if_pos e] at hv2
          have hv2 : VOK (uIns σ.1 p i W.1) := hv2
          obtain ⟨c2, q1, q2, q3, q4, q5, q6⟩ := G_sEdit (d + 33) r2 hv hp
          have g2 := q2.g3
          have s2 := q2.1.2.2.1
          have x1 := q2.2.1.1
          have b0 : σ.1 0 p = c2 (11 + 4 + 3 * p) 2 := q2.a0 hp
          have w8 : c2 3 8 = W.1 := by rw [q5 3 (by decide) (by decide)]; exact r4
          have run := zs_P_insertWord (d + 37) (w := W.1) c2 (s2.1.pg hp) (i := i) (by omega) (by rw [← b0]; exact e2) (by rw [← b0]; exact e3)
          obtain ⟨y1, y2, y3⟩ := st_ins (w := W.1) s2.1 hp (i := i) (by omega) (by rw [← b0]; exact e2) (by rw [← b0]; exact e3) rfl
          generalize zup (zup (zup (zshiftU c2 (11 + 4 + 3 * p) i (c2 (11 + 4 + 3 * p) 2)) (11 + 4 + 3 * p + 1) i W.1) (11 + 4 + 3 * p + 2) i (if i < c2 (11 + 4 + 3 * p) 2 then c2 (11 + 4 + 3 * p + 2) i else if c2 (11 + 4 + 3 * p) 2 = 0 then 0 else c2 (11 + 4 + 3 * p + 2) (c2 (11 + 4 + 3 * p) 2 - 1))) (11 + 4 + 3 * p) 2 (c2 (11 + 4 + 3 * p) 2 + 1) = c3 at run y1 y2 y3
          rw [x1] at y1
          have h3 : RC c3 (uIns σ.1 p i W.1, (aPut (aRd σ W.2) σ.1).2) := RC.st q2 q3 (fun b hb k => y2 b (by omega) k) y1.1 (y1.2.1 s2.2) y1.2.2
          obtain ⟨c4, z1, z2, z3, z4⟩ := G_eEdit (d + 33) h3 hv2 hp (a := i) (m := 0) (n := 1) ⟨by omega, by omega⟩ ⟨by decide, by decide⟩ ⟨by decide, by decide⟩ (f := mTo σ.1 p) (fun k k0 k1 => by rw [y2 395 (by omega)]; exact q6 k k0 k1)
          have P4 := z2.1.2.2.1.1.pg hp
          rw [if_pos e, if_neg (by decide), if_pos g1.1, q1, zbnd_some, if_pos g2.1, g2.2.1, if_pos g2.2.2.1, if_pos (s2.1.pg hp).1, w8, run, zbnd_some, if_pos h3.1.1.1, z1, zbnd_some, if_pos P4.1, z4 _ (by omega) (by omega), y3, ← b0, if_pos e]
          exact GC.of rfl z2 ((((zfr_tp r6).tr q4).tr (fun b hb k => y2 b (by omega) k)).tr z3)
        · rw [if_neg e, if_pos rfl, if_pos g1.1, g1.2.1, if_pos g1.2.2.1, r3, if_neg e]
          exact GC.of rfl r2 (zfr_tp r6)
      · rw [if_neg e3, if_pos (show 20 ≤ σ.1 0 p by omega)]
        exact GC.of rfl h (zfr.rf c)
    · rw [if_neg e2, if_pos (show ¬ (isP p ∧ 0 ≤ i ∧ i ≤ σ.1 0 p) from fun q => e2 q.2.2)]
      exact GC.of rfl h (zfr.rf c)
  · rw [if_neg (show ¬ (0 ≤ p ∧ p < 4) from hp), if_pos rfl, if_pos (show ¬ (isP p ∧ 0 ≤ i ∧ i ≤ σ.1 0 p) from fun q => hp q.1)]
    exact GC.of rfl h (zfr.rf c)
theorem G_rep (h : RC c σ) (hv : VOK σ.1) (hv2 : VOK (aRep σ p i).2.1) : GC c (zrun zTab (d + 40) 108 [2, p, i] c) (aRep σ p i) := by
  obtain ⟨⟨l1, -, ⟨s1, -⟩, -⟩, ⟨v1, -⟩, -⟩ := id h
  have g := h.g3
  rw [ze_X11_replace, if_pos l1.1, l1.2.2.1, if_pos s1.2.1, zs_T_pageAt (d + 38) c s1, zbnd_some]
  unfold aRep at hv2 ⊢
  by_cases hp : isP p
  · have p0 := hp.1
    have p1 := hp.2
    have hP := s1.pg hp
    have a0 := h.a0 hp
    have a20 := (hv.1 p hp.1 hp.2).1
    rw [if_pos (show 0 ≤ p ∧ p < 4 from hp), if_neg (by omega)]
    by_cases e1 : i < 0
    · rw [if_pos e1, if_pos (show ¬ isW σ.1 p i from fun q => by have := q.2.1; omega)]
      exact GC.of rfl h (zfr.rf c)
    rw [if_neg e1, if_pos hP.1, ← a0]
    by_cases e2 : i < σ.1 0 p
    · rw [if_neg (show ¬ ¬ isW σ.1 p i from fun q => q ⟨hp, by omega, e2⟩)] at hv2
      obtain ⟨c1, r1, r2, r3, r4, r6⟩ := G_rdWord (d + 34) h
      have g1 := r2.g3
      rw [if_pos e2, if_neg (show ¬ ¬ isW σ.1 p i from fun q => q ⟨hp, by omega, e2⟩), if_pos g.1, g.2.1, if_pos g.2.2.1, r1, zbnd_some]
      generalize tOne σ.2.2.2.1.2.1 σ.2.2.2.1.1 σ.2.2.2.1.2.2 = W at r2 r3 r4 hv2 ⊢
      by_cases e : W.2.2.1 = -1
      · rw [if_pos e] at hv2
        have hv2 : VOK (uRep σ.1 p i W.1) := hv2
        obtain ⟨c2, q1, q2, q3, q4, q5, q6⟩ := G_sEdit (d + 33) r2 hv hp
        have g2 := q2.g3
        have s2 := q2.1.2.2.1
        have x1 := q2.2.1.1
        have b0 : σ.1 0 p = c2 (11 + 4 + 3 * p) 2 := q2.a0 hp
        have w8 : c2 3 8 = W.1 := by rw [q5 3 (by decide) (by decide)]; exact r4
        have run := zs_P_replaceWord (d + 38) (w := W.1) (i := i) c2 (s2.1.pg hp)
        rw [if_pos (show 0 ≤ i ∧ i < c2 (11 + 4 + 3 * p) 2 from ⟨by omega, by rw [← b0]; exact e2⟩)] at run
        obtain ⟨y1, y2, y3⟩ := st_rep (w := W.1) s2.1 hp (i := i) (by omega) rfl
        generalize zup c2 (11 + 4 + 3 * p + 1) i W.1 = c3 at run y1 y2 y3
        rw [x1] at y1
        have h3 : RC c3 (uRep σ.1 p i W.1, (aPut (aRd σ W.2) σ.1).2) := RC.st q2 q3 (fun b hb k => y2 b (by omega) k) y1.1 (y1.2.1 s2.2) y1.2.2
        obtain ⟨c4, z1, z2, z3, z4⟩ := G_eEdit (d + 33) h3 hv2 hp (a := i) (m := 1) (n := 1) ⟨by omega, by omega⟩ ⟨by decide, by decide⟩ ⟨by decide, by decide⟩ (f := mTo σ.1 p) (fun k k0 k1 => by rw [y2 395 (by omega)]; exact q6 k k0 k1)
        have P4 := z2.1.2.2.1.1.pg hp
        rw [if_pos e, if_neg (by decide), if_pos g1.1, q1, zbnd_some, if_pos g2.1, g2.2.1, if_pos g2.2.2.1, if_pos (s2.1.pg hp).1, w8, run, zbnd_some, if_pos h3.1.1.1, z1, zbnd_some, if_pos P4.1, z4 _ (by omega) (by omega), y3, ← b0, if_pos e]
        exact GC.of rfl z2 ((((zfr_tp r6).tr q4).tr (fun b hb k => y2 b (by omega) k)).tr z3)
      · rw [if_neg e, if_pos rfl, if_pos g1.1, g1.2.1, if_pos g1.2.2.1, r3, if_neg e]
        exact GC.of rfl r2 (zfr_tp r6)
    · rw [if_neg e2, if_pos (show ¬ isW σ.1 p i from fun q => e2 q.2.2)]
      exact GC.of rfl h (zfr.rf c)
  · rw [if_neg (show ¬ (0 ≤ p ∧ p < 4) from hp), if_pos rfl, if_pos (show ¬ isW σ.1 p i from fun q => hp q.1)]
    exact GC.of rfl h (zfr.rf c)
theorem G_cut (h : RC c σ) (hv : VOK σ.1) (hv2 : VOK (aCut σ p i).2.1) : GC c (zrun zTab (d + 40) 109 [2, p, i] c) (aCut σ p i) := by
  classical
  obtain ⟨⟨l1, -, ⟨s1, -⟩, -⟩, ⟨v1, -⟩, -⟩ := id h
  have g := h.g3
  rw [ze_X11_cut, if_pos l1.1, l1.2.2.1, if_pos s1.2.1, zs_T_pageAt (d + 38) c s1, zbnd_some]
  unfold aCut at hv2 ⊢
  by_cases hp : isP p
  · have p0 := hp.1
    have p1 := hp.2
    have hP := s1.pg hp
    have a0 := h.a0 hp
    have a20 := (hv.1 p hp.1 hp.2).1
    rw [if_pos (show 0 ≤ p ∧ p < 4 from hp), if_neg (by omega)]
    by_cases e1 : i < 0
    · rw [if_pos e1, if_pos (show ¬ isW σ.1 p i from fun q => by have := q.2.1; omega)]
      exact GC.of rfl h (zfr.rf c)
    rw [if_neg e1, if_pos hP.1, ← a0]
    by_cases e2 : i < σ.1 0 p
    · rw [if_neg (show ¬ ¬ isW σ.1 p i from fun q => q ⟨hp, by omega, e2⟩)] at hv2
      have hv2 : VOK (uCut σ.1 p i) := hv2
      obtain ⟨c2, q1, q2, q3, q4, q5, q6⟩ := G_sEdit (d + 33) h hv hp
      have g2 := q2.g3
      have s2 := q2.1.2.2.1
      have x1 : cview c2 11 = σ.1 := q2.2.1.1
      have b0 : σ.1 0 p = c2 (11 + 4 + 3 * p) 2 := q2.a0 hp
      have hal : mAl (cview c2 11) p i ↔ ∀ k, 0 ≤ k → k < c2 (11 + 4 + 3 * p) 2 → k ≠ i → c2 (11 + 4 + 3 * p + 2) k ≠ c2 (11 + 4 + 3 * p + 2) i := by
        have wi := (st_w s2.1 hp (i := i) (by omega) (by rw [← b0]; exact e2)).1
        unfold mAl
        rw [cv_0 hp.1 hp.2, ← wi]
        exact ⟨fun q k k0 k1 kn => by rw [(st_w s2.1 hp k0 k1).1]; exact q k k0 k1 kn, fun q k k0 k1 kn => by rw [← (st_w s2.1 hp k0 k1).1]; exact q k k0 k1 kn⟩
      have hb : ∀ k, 0 ≤ k → k < c2 (11 + 4 + 3 * p) 2 → 0 ≤ c2 (11 + 4 + 3 * p + 2) k ∧ c2 (11 + 4 + 3 * p + 2) k ≤ 100 := fun k k0 k1 => by
        have := ((hv.1 p hp.1 hp.2).2.2.1 k k0 (by rw [b0]; exact k1)).1
        rw [(st_w s2.1 hp k0 k1).1, x1]
        omega
      have run := zs_P_dropWord (d + 37) (i := i) c2 (s2.1.pg hp) (by omega) (by rw [← b0]; exact e2) hb (mAl (cview c2 11) p i) hal
      obtain ⟨y1, y2, y3⟩ := st_cut s2.1 hp (i := i) (by omega) (by rw [← b0]; exact e2) (Iff.rfl) rfl
      generalize zdrop c2 (11 + 4 + 3 * p) i (mAl (cview c2 11) p i) = c3 at run y1 y2 y3
      rw [x1] at y1
      have h3 : RC c3 (uCut σ.1 p i, (aPut σ σ.1).2) := RC.st q2 q3 (fun b hb k => y2 b (by omega) k) y1.1 (y1.2.1 s2.2) y1.2.2
      obtain ⟨c4, z1, z2, z3, z4⟩ := G_eEdit (d + 33) h3 hv2 hp (a := i) (m := 1) (n := 0) ⟨by omega, by omega⟩ ⟨by decide, by decide⟩ ⟨by decide, by decide⟩ (f := mTo σ.1 p) (fun k k0 k1 => by rw [y2 395 (by omega)]; exact q6 k k0 k1)
      have P4 := z2.1.2.2.1.1.pg hp
      rw [if_pos e2, if_neg (show ¬ ¬ isW σ.1 p i from fun q => q ⟨hp, by omega, e2⟩), if_pos g.1, q1, zbnd_some, if_pos (s2.1.pg hp).1, run, zbnd_some, if_pos h3.1.1.1, z1, zbnd_some, if_pos P4.1, z4 _ (by omega) (by omega), y3, ← b0]
      exact GC.of rfl z2 ((q4.tr (fun b hb k => y2 b (by omega) k)).tr z3)
    · rw [if_neg e2, if_pos (show ¬ isW σ.1 p i from fun q => e2 q.2.2)]
      exact GC.of rfl h (zfr.rf c)
  · rw [if_neg (show ¬ (0 ≤ p ∧ p < 4) from hp), if_pos rfl, if_pos (show ¬ isW σ.1 p i from fun q => hp q.1)]
    exact GC.of rfl h (zfr.rf c)
end
