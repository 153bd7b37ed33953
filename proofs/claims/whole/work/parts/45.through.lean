/-! The class's links: all words are gone through. -/
theorem zget_app (l : List Int) (x d : Int) : (l ++ [x]).getD l.length d = x := by
  rw [List.getD_eq_getElem?_getD, List.getElem?_append_right (Nat.le_refl _)]
  simp
theorem zset_neg {x : Int} {P Q : Prop} (h : ¬ x = 0 ↔ P) (h2 : P ↔ Q) : ¬ x = 0 ↔ Q := h.trans h2
section
variable {K n p R most left : Int} {A : zA2} (d : Nat)
theorem mTwin_iff {i m : Nat} (h : i ≤ m) : mTwin A p (mRs A p most left m) left i = true ↔ ∃ j : Nat, j < i ∧ mLk (mRs A p most left i) left j = true ∧ (mMe A p j).1 = (mMe A p i).1 ∧ A 2 (20 * p + j) = A 2 (20 * p + i) := by
  unfold mTwin
  rw [List.any_eq_true]
  constructor
  · rintro ⟨j, h1, h2⟩
    have hj := List.mem_range.mp h1
    rw [Bool.and_eq_true, decide_eq_true_eq] at h2
    exact ⟨j, hj, by rw [mLk_of (n := m) hj (by omega)]; exact h2.1, h2.2⟩
  · rintro ⟨j, hj, h2, h3⟩
    refine ⟨j, List.mem_range.mpr hj, ?_⟩
    rw [Bool.and_eq_true, decide_eq_true_eq, mLk_of (n := i) (by omega) hj]
    exact ⟨h2, h3⟩
theorem zs_K_gt_l (hR : R = K + 8 ∨ R = K + 9) (hsrt : ∀ j k : Nat, j ≤ k → (k : Int) < n → A 2 (20 * p + j) ≤ A 2 (20 * p + k)) (h8 : A 9 0 ≤ 8) : ∀ (t F i : Nat) (c : zC), KWd c K A p n → t ≤ F → (i : Int) + t = n →
    (0 ≤ c (K + 10) 1 ∧ c (K + 10) 1 < 256) → (i = 0 ∨ c (K + 10) 0 = A 2 (20 * p + ((i - 1 : Nat) : Int))) →
    (∀ s, 0 ≤ s → s < 8 → (¬ ziand (zishr (c (K + 10) 1) s) 1 = 0 ↔ ∃ j : Nat, j < i ∧ mLk (mRs A p most left i) left j = true ∧ (mMe A p j).1 = s ∧ A 2 (20 * p + j) = c (K + 10) 0)) →
    c (K + 10) 2 = mLast (mRs A p most left i) left i → c (K + 10) 3 = mCnt (mRs A p most left i) left i → (∀ j : Nat, j < i → c R j = mR A p most left j) →
    ∃ c', zex zc_X3_goThrough zk_X3_goThrough (zrun zTab (d + 2)) (F + 1) 10 [(2, K), (0, most), (0, left), (2, R), (0, (i : Int))] [] c = some (mCnt (mRs A p most left n.toNat) left n.toNat, c') ∧ KP c c' K R ∧ ∀ j : Nat, (j : Int) < n → c' R j = mR A p most left j := by
  intro t
  induction t with
  | zero =>
    intro F i c h hF hi hb hcur hset hlast hcnt hrow
    have hk := h.1
    have h9 := hk.2.2.1.2.2.2.2.2.2.2.2.2
    have hX := hk.2.2.2.1.2.2.2.2.2.2.2.2.2
    refine ⟨c, ?_, KP.rf c K R, fun j hj => hrow j (by omega)⟩
    rw [ze_X3_goThrough_10, if_pos hk.2.1, hk.2.2.2.2.1, if_neg (by omega), if_pos hk.2.1, h9, if_pos hX, hcnt, show n.toNat = i by omega]
  | succ t ih =>
    intro F i c h hF hi hb hcur hset hlast hcnt hrow
    obtain ⟨F, rfl⟩ : ∃ G, F = G + 1 := ⟨F - 1, by omega⟩
    have hk := h.1
    have hn := hk.2.2.2.2.2
    have h1 := hk.2.1
    have h9 := hk.2.2.1.2.2.2.2.2.2.2.2.2
    have hX := hk.2.2.2.1.2.2.2.2.2.2.2.2.2
    have hRa : c R (-1) = 100 ∧ c R (-2) = 20 := by
      obtain ⟨-, -, -, ⟨-, -, -, -, -, -, -, r8, r9, -⟩, -⟩ := hk
      rcases hR with rfl | rfl
      · exact r8
      · exact r9
    have hi2 : 0 ≤ (i : Int) ∧ (i : Int) < n := ⟨by omega, by omega⟩
    have w1 := (h.2.2 i (by omega)).1
    have hme := mMe_ok A p i
    have hlr := mLast_le (mRs A p most left i) left i
    have hcr := mCnt_le (mRs A p most left i) left i
    have hmRs : mRs A p most left (i + 1) = mRs A p most left i ++ [mRe A p most left (mRs A p most left i) i] := rfl
    rw [ze_X3_goThrough_10, if_pos h1, hk.2.2.2.2.1, if_pos hi2.2, if_pos hRa.1, hRa.2, if_pos (by omega), if_pos h1, if_pos h1, zs_K_sectionAt (d + 1) hk, zbnd_some, if_pos hi2, h9, if_pos hX, zs_Q_enter (d + 1) c hX, zbnd_some, w1]
    -- the pass has entered the section
    obtain ⟨c4, hc4, k4, x40, x41, x42, x43, s4⟩ : ∃ c4, (if A 2 (20 * p + i) = c (K + 10) 0 then c else zup (zup c (K + 10) 0 (A 2 (20 * p + i))) (K + 10) 1 0) = c4 ∧ KP c c4 K R ∧ c4 (K + 10) 0 = A 2 (20 * p + i) ∧ (0 ≤ c4 (K + 10) 1 ∧ c4 (K + 10) 1 < 256) ∧ c4 (K + 10) 2 = c (K + 10) 2 ∧ c4 (K + 10) 3 = c (K + 10) 3 ∧
        (∀ s, 0 ≤ s → s < 8 → (¬ ziand (zishr (c4 (K + 10) 1) s) 1 = 0 ↔ ∃ j : Nat, j < i ∧ mLk (mRs A p most left i) left j = true ∧ (mMe A p j).1 = s ∧ A 2 (20 * p + j) = A 2 (20 * p + i))) := by
      by_cases e : A 2 (20 * p + i) = c (K + 10) 0
      · refine ⟨c, if_pos e, KP.rf c K R, e.symm, hb, rfl, rfl, fun s s0 s1 => ?_⟩
        rw [hset s s0 s1, e]
      · refine ⟨_, if_neg e, ((KP.rf c K R).up (Or.inr rfl) (by omega)).up (Or.inr rfl) (by omega), by rw [zup_ne (by omega), zup_eq ⟨rfl, rfl⟩], by rw [zup_eq ⟨rfl, rfl⟩]; decide, by rw [zup_ne (by omega), zup_ne (by omega)], by rw [zup_ne (by omega), zup_ne (by omega)], fun s s0 s1 => ?_⟩
        rw [zup_eq ⟨rfl, rfl⟩]
        constructor
        · intro q; exact absurd (zbit_0 s0 s1) q
        · rintro ⟨j, j1, -, -, j4⟩
          exfalso
          rcases hcur with hc | hc
          · omega
          · have a1 := hsrt j (i - 1) (by omega) (by omega)
            have a2 := hsrt (i - 1) i (by omega) (by omega)
            omega
    rw [hc4]
    have h4 := k4.wd h hR
    have hk4 := h4.1
    rw [k4.2 _ _ (by decide), if_pos h1, zs_K_reasonInPass d h4 (by omega) (by rw [x42, hlast]; omega), zbnd_some]
    have hv : (if mSta A p i ≠ 0 then mSta A p i else if ¬ ziand (zishr (c4 (K + 10) 1) (mMe A p i).1) 1 = 0 then 4 else if c4 (K + 10) 2 ≠ -5 ∧ (i : Int) - c4 (K + 10) 2 - 1 < A 15 0 then 5 else if most ≤ c4 (K + 10) 3 then 6 else 0) = mR A p most left i := by
      rw [mR_eq]
      unfold mRe
      by_cases e : mSta A p i ≠ 0
      · rw [if_pos e, if_pos e]
      · rw [if_neg e, if_neg e]
        have hm : 0 ≤ (mMe A p i).1 := by
          rcases hme with q | q
          · exfalso; apply e; unfold mSta; rw [if_pos q]; split <;> decide
          · exact q.1
        have ht := (s4 (mMe A p i).1 hm (by omega)).trans (mTwin_iff (Nat.le_refl i)).symm
        rw [x42, x43, hlast, hcnt]
        by_cases e2 : mTwin A p (mRs A p most left i) left i = true
        · rw [if_pos (ht.mpr e2), if_pos e2]
        · rw [if_neg (fun q => e2 (ht.mp q)), if_neg e2]
    rw [hv, k4.2 _ _ (by decide), k4.2 _ _ (by decide), if_pos (show c R (-1) = 100 ∧ (0 : Int) ≤ (i : Int) ∧ (i : Int) < c R (-2) from ⟨hRa.1, by omega, by omega⟩)]
    have k5 : KP c (zup c4 R i (mR A p most left i)) K R := k4.up (Or.inl rfl) (by omega)
    have h5 := k5.wd h hR
    rw [k5.2 _ _ (by decide), k5.2 _ _ (by decide), if_pos (show c R (-1) = 100 ∧ (0 : Int) ≤ (i : Int) ∧ (i : Int) < c R (-2) from ⟨hRa.1, by omega, by omega⟩), zup_eq ⟨rfl, rfl⟩, zw_id' (by omega) (by omega), show (i : Int) + 1 = ((i + 1 : Nat) : Int) by omega]
    have y0 : ∀ k, zup c4 R i (mR A p most left i) (K + 10) k = c4 (K + 10) k := fun k => zup_ne (by omega)
    have hlk : mLk (mRs A p most left (i + 1)) left i = true ↔ mR A p most left i = 0 ∧ (i : Int) ≠ left := by
      rw [mLk_iff]
      exact ⟨fun q => q.2, fun q => ⟨by omega, q⟩⟩
    have hlast2 : mLast (mRs A p most left (i + 1)) left (i + 1) = if mLk (mRs A p most left (i + 1)) left i = true then (i : Int) else mLast (mRs A p most left (i + 1)) left i := rfl
    have hcnt2 : mCnt (mRs A p most left (i + 1)) left (i + 1) = mCnt (mRs A p most left (i + 1)) left i + (if mLk (mRs A p most left (i + 1)) left i = true then 1 else 0) := rfl
    rw [mLast_of (m := i + 1) (n := i) (i := i) (by omega) (by omega)] at hlast2
    rw [mCnt_of (m := i + 1) (n := i) (i := i) (by omega) (by omega)] at hcnt2
    have hrow5 : ∀ j : Nat, j < i + 1 → zup c4 R i (mR A p most left i) R j = mR A p most left j := by
      intro j hj
      by_cases e : j = i
      · rw [e, zup_eq ⟨rfl, rfl⟩]
      · rw [zup_ne (by omega), ← hrow j (by omega), ← hc4]
        split
        · rfl
        · rw [zup_ne (by omega), zup_ne (by omega)]
    by_cases hl : mLk (mRs A p most left (i + 1)) left i = true
    · have hl2 := hlk.mp hl
      have hm : 0 ≤ (mMe A p i).1 := by
        rcases hme with q | q
        · exfalso
          have := hl2.1
          rw [mR_eq] at this
          unfold mRe mSta at this
          rw [if_pos q] at this
          split at this <;> split at this <;> omega
        · exact q.1
      rw [if_pos hl2.1, if_neg hl2.2, k5.2 _ _ (by decide), if_pos h1, if_pos h1, zs_K_meantAt (d + 1) h5.1, zbnd_some, if_pos hi2, k5.1 K (by omega) (by omega), h9, k5.2 _ _ (by decide), if_pos hX, (h5.2.2 i (by omega)).2.2.1, zs_Q_add (d + 1) _ (by rw [k5.2 _ _ (by decide)]; exact hX) (by rw [y0, x43, hcnt]; omega), zbnd_some, y0, y0]
      have hz := zbit_or x41 ⟨hm, by omega⟩
      rw [if_pos hl] at hlast2 hcnt2
      have k6 : KP c (zup (zup (zup (zup c4 R i (mR A p most left i)) (K + 10) 1 (zior (c4 (K + 10) 1) (zishl 1 (mMe A p i).1))) (K + 10) 2 i) (K + 10) 3 (c4 (K + 10) 3 + 1)) K R := ((k5.up (Or.inr rfl) (by omega)).up (Or.inr rfl) (by omega)).up (Or.inr rfl) (by omega)
      obtain ⟨c', r1, r2, r3⟩ := ih F (i + 1) _ (k6.wd h hR) (by omega) (by omega) (by rw [zup_ne (by omega), zup_ne (by omega), zup_eq ⟨rfl, rfl⟩]; exact hz.1)
        (Or.inr (by rw [zup_ne (by omega), zup_ne (by omega), zup_ne (by omega), y0, x40]; rfl))
        (fun s s0 s1 => by
          rw [zup_ne (show K + 10 ≠ K + 10 ∨ (1 : Int) ≠ 3 by omega), zup_ne (show K + 10 ≠ K + 10 ∨ (1 : Int) ≠ 2 by omega), zup_eq ⟨rfl, rfl⟩, zup_ne (show K + 10 ≠ K + 10 ∨ (0 : Int) ≠ 3 by omega), zup_ne (show K + 10 ≠ K + 10 ∨ (0 : Int) ≠ 2 by omega), zup_ne (show K + 10 ≠ K + 10 ∨ (0 : Int) ≠ 1 by omega), y0, x40, hz.2 s s0 s1]
          constructor
          · intro q
            by_cases e : s = (mMe A p i).1
            · exact ⟨i, by omega, hl, e.symm, rfl⟩
            · obtain ⟨j, j1, j2, j3, j4⟩ := (s4 s s0 s1).mp (fun q2 => q ⟨q2, e⟩)
              exact ⟨j, by omega, by rw [mLk_of (n := i) (by omega) j1]; exact j2, j3, j4⟩
          · rintro ⟨j, j1, j2, j3, j4⟩ ⟨q1, q2⟩
            by_cases e : j = i
            · subst e; exact q2 j3.symm
            · exact (s4 s s0 s1).mpr ⟨j, by omega, by rw [mLk_of (n := i + 1) (by omega) (by omega)]; exact j2, j3, j4⟩ q1)
        (by rw [zup_ne (by omega), zup_eq ⟨rfl, rfl⟩, hlast2]) (by rw [zup_eq ⟨rfl, rfl⟩, hcnt2, x43, hcnt])
        (fun j hj => by rw [zup_ne (by omega), zup_ne (by omega), zup_ne (by omega)]; exact hrow5 j hj)
      exact ⟨c', r1, k6.tr r2, r3⟩
    · rw [if_neg hl] at hlast2 hcnt2
      have hne : ¬ (mR A p most left i = 0 ∧ (i : Int) ≠ left) := fun q => hl (hlk.mpr q)
      obtain ⟨c', r1, r2, r3⟩ := ih F (i + 1) _ h5 (by omega) (by omega) (by rw [y0]; exact x41)
        (Or.inr (by rw [y0, x40]; rfl))
        (fun s s0 s1 => by
          rw [y0, y0, x40, s4 s s0 s1]
          constructor
          · rintro ⟨j, j1, j2, j3, j4⟩
            exact ⟨j, by omega, by rw [mLk_of (n := i) (by omega) j1]; exact j2, j3, j4⟩
          · rintro ⟨j, j1, j2, j3, j4⟩
            by_cases e : j = i
            · subst e; exact absurd j2 hl
            · exact ⟨j, by omega, by rw [mLk_of (n := i + 1) (by omega) (by omega)]; exact j2, j3, j4⟩)
        (by rw [y0, x42, hlast2, hlast]) (by rw [y0, x43, hcnt2, hcnt]; omega) hrow5
      refine ⟨c', ?_, k5.tr r2, r3⟩
      by_cases e : mR A p most left i = 0
      · have : (i : Int) = left := by
          by_cases q : (i : Int) = left
          · exact q
          · exact absurd ⟨e, q⟩ hne
        rw [if_pos e, if_pos this]
        exact r1
      · rw [if_neg e]
        exact r1
theorem zs_K_goThrough {c : zC} (h : KWd c K A p n) (hR : R = K + 8 ∨ R = K + 9) (hsrt : ∀ j k : Nat, j ≤ k → (k : Int) < n → A 2 (20 * p + j) ≤ A 2 (20 * p + k)) (h8 : A 9 0 ≤ 8) : ∃ c', zrun zTab (d + 3) 19 [K, most, left, R] c = some (mCnt (mRs A p most left n.toNat) left n.toNat, c') ∧ KP c c' K R ∧ ∀ j : Nat, (j : Int) < n → c' R j = mR A p most left j := by
  have hk := h.1
  have hn := hk.2.2.2.2.2
  have h9 := hk.2.2.1.2.2.2.2.2.2.2.2.2
  have hX := hk.2.2.2.1.2.2.2.2.2.2.2.2.2
  have k1 : KP c (zup (zup (zup (zup c (K + 10) 0 0) (K + 10) 1 0) (K + 10) 2 (-5)) (K + 10) 3 0) K R := ((((KP.rf c K R).up (Or.inr rfl) (by omega)).up (Or.inr rfl) (by omega)).up (Or.inr rfl) (by omega)).up (Or.inr rfl) (by omega)
  rw [ze_X3_goThrough, if_pos hk.2.1, h9, if_pos hX, zs_Q_start (d + 1) c hX, zbnd_some]
  obtain ⟨c', r1, r2, r3⟩ := zs_K_gt_l (most := most) (left := left) d hR hsrt h8 n.toNat 19998 0 _ (k1.wd h hR) (by omega) (by omega) (by rw [zup_ne (by omega), zup_ne (by omega), zup_eq ⟨rfl, rfl⟩]; decide) (Or.inl rfl)
    (fun s s0 s1 => by
      rw [zup_ne (show K + 10 ≠ K + 10 ∨ (1 : Int) ≠ 3 by omega), zup_ne (show K + 10 ≠ K + 10 ∨ (1 : Int) ≠ 2 by omega), zup_eq ⟨rfl, rfl⟩]
      constructor
      · intro q; exact absurd (zbit_0 s0 s1) q
      · rintro ⟨j, j1, -⟩; omega)
    (by rw [zup_ne (by omega), zup_eq ⟨rfl, rfl⟩]; rfl) (by rw [zup_eq ⟨rfl, rfl⟩]; rfl) (fun j hj => by omega)
  exact ⟨c', r1, k1.tr r2, r3⟩
end
