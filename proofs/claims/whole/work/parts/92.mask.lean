/-! The reference: the calls that ask. -/
def MAk (c : zC) (σ : aS) (r : zR) (v : Int) : Prop := ∃ c', r = some (v, c') ∧ RM c' σ ∧ zlo c c'
theorem MAk.rf {c : zC} {σ : aS} {r : zR} {v : Int} (h : RM c σ) (e : r = some (v, c)) : MAk c σ r v := ⟨c, e, h, zlo.rf c⟩
section
variable {c c1 : zC} {σ : aS} {p k w s : Int} (d : Nat)
theorem RM.lf (h : RM c σ) (g : LFr c c1) : RM c1 σ := h.sc g.1 (fun k hk => g.2.2 k (by omega)) (fun k => g.2.1 682 (by decide) (by decide) k) (fun k => g.2.1 683 (by decide) (by decide) k)
theorem LFr.lo (g : LFr c c1) : zlo c c1 := fun b hb k => g.2.1 b (by omega) (by omega) k
theorem M_links (h : RM c σ) (hp : isP p) : ∃ c', zrun zTab (d + 7) 183 [681, p] c = some (0, c') ∧ LFr c c' ∧ ML c' σ.1 p (σ.1 1 p) (-1) ∧ RM c' σ := by
  obtain ⟨c1, q1, q2, q3⟩ := zm_links1 d h.1 h.ok.1 hp
  rw [h.ok.2] at q3
  exact ⟨c1, q1, q2, q3, h.lf q2⟩
theorem M_linksB (h : RM c σ) (hp : isP p) (bud left : Int) : ∃ c', zrun zTab (d + 6) 182 [681, p, left, bud] c = some (0, c') ∧ LFr c c' ∧ ML c' σ.1 p bud left ∧ RM c' σ := by
  obtain ⟨c1, q1, q2, q3⟩ := zm_linksB d h.1 h.ok.1 hp bud left
  rw [h.ok.2] at q3
  exact ⟨c1, q1, q2, q3, h.lf q2⟩
theorem mR_me {A : zA2} (hs : SnOK A) {bud left : Int} {i : Nat} (h : mR A p bud left i = 0) : (mMe A p i).1 ≠ -5 := by
  have : mSta A p i = 0 := by
    rw [mR_eq] at h
    unfold mRe at h
    by_cases e : mSta A p i = 0
    · exact e
    · rw [if_pos e] at h; exact h
  exact (mSta_iff hs).mp this |>.1
theorem mMe_5 {A : zA2} {i : Int} (h : (mMe A p i).1 = -5) : (mMe A p i).2 = -5 := by
  have ch := mCh_ok A p i (A 9 0).toNat
  unfold mMe at h ⊢
  split
  · rfl
  · rename_i q
    rw [if_neg q] at h
    omega
/-- what the links of a page say of a word -/
theorem ML.r {bud left : Int} {A : zA2} {i : Nat} (h : ML c A p bud left) (hi : (i : Int) < A 0 p) (hl : (i : Int) ≠ left) : c 695 i = mR A p bud left i := by
  have := (h.1 i hi).2.2
  rw [if_neg hl] at this
  exact this
theorem ML.m {bud left : Int} {A : zA2} {i : Nat} (h : ML c A p bud left) (hi : (i : Int) < A 0 p) : c 693 i = (if (mMe A p i).1 = -5 then -1 else (mMe A p i).1) := (h.1 i hi).2.1.2.1
theorem ML.same {bud left : Int} {A : zA2} (h : ML c A p bud left) (g : ∀ b, 681 ≤ b → b ≠ 697 → b ≠ 696 → ∀ k, (b ≠ 681 ∨ k = 22) → c1 b k = c b k) : ML c1 A p bud left := by
  refine ⟨fun i hi => ?_, by rw [g 681 (by decide) (by decide) (by decide) 22 (Or.inr rfl)]; exact h.2⟩
  obtain ⟨a1, a2, a3⟩ := h.1 i hi
  exact ⟨a1.same (fun b b0 b1 k => g b (by omega) (by omega) (by omega) k (Or.inl (by omega))), a2.same ⟨g _ (by decide) (by decide) (by decide) _ (Or.inl (by decide)), g _ (by decide) (by decide) (by decide) _ (Or.inl (by decide)), g _ (by decide) (by decide) (by decide) _ (Or.inl (by decide))⟩, by rw [g _ (by decide) (by decide) (by decide) _ (Or.inl (by decide))]; exact a3⟩
theorem zm_told_32 (h : MO c) {A : zA2} {bud : Int} (hl : ML c A p bud (-1)) (i w : Int) {m : Nat} (hm : (m : Int) = i) (hmn : (m : Int) ≤ A 0 p) (hn : A 0 p ≤ 20) : ∀ (t F k : Nat), t ≤ F → k + t = m → zex zc_X12_told zk_X12_told (zrun zTab d) (F + 1) 32 [(2, 681), (0, p), (0, i), (0, w), (0, zcnt (fun j => mR A p bud (-1) j.toNat = 0) k), (0, (k : Int))] [] c = zex zc_X12_told zk_X12_told (zrun zTab d) (F - t + 1) 32 [(2, 681), (0, p), (0, i), (0, w), (0, zcnt (fun j => mR A p bud (-1) j.toNat = 0) m), (0, i)] [] c := by
  intro t
  induction t with
  | zero =>
    intro F k hF hk
    rw [show k = m by omega, hm]
    rfl
  | succ t ih =>
    intro F k hF hk
    obtain ⟨F, rfl⟩ : ∃ G, F = G + 1 := ⟨F - 1, by omega⟩
    have zc := zcnt_le (fun j => mR A p bud (-1) j.toNat = 0) k
    have r := hl.r (i := k) (by omega) (by omega)
    have st : zcnt (fun j => mR A p bud (-1) j.toNat = 0) (k + 1) = zcnt (fun j => mR A p bud (-1) j.toNat = 0) k + (if mR A p bud (-1) k = 0 then 1 else 0) := by
      show zcnt (fun j => mR A p bud (-1) j.toNat = 0) k + (if mR A p bud (-1) ((k : Int)).toNat = 0 then 1 else 0) = _
      rw [Int.toNat_natCast]
    have nx := ih F (k + 1) (by omega) (by omega)
    rw [st] at nx
    rw [ze_X12_told_32, if_pos (by omega), if_pos h.k, h.f.2.2.2.2.2.2.2.2.2.2.2.2.2.1, if_pos (h.r695 (by omega) (by omega)), r, zadd_id (by omega) (by omega), zadd_id (by omega) (by omega), zw_id' (x := (k : Int) + 1) (by omega) (by omega), show (k : Int) + 1 = ((k + 1 : Nat) : Int) by omega, show F + 1 - (t + 1) = F - t by omega]
    by_cases e : mR A p bud (-1) k = 0
    · rw [if_pos e] at nx ⊢; exact nx
    · rw [if_neg e] at nx ⊢; exact nx
theorem M_told {i : Int} (h : RM c σ) : MAk c σ (zrun zTab (d + 40) 195 [681, p, i, w] c) (aTold σ.1 p i w) := by
  rw [ze_X12_told, if_pos h.1.k, zm_isWord (d + 36) h.1 h.bn, zbnd_some]
  unfold aTold
  by_cases hw : isW σ.1 p i
  · have hp := hw.1
    have p0 := hp.1
    have p1 := hp.2
    have i1 := hw.2.2
    have i0 := hw.2.1
    have n0 := h.bn p hp
    have ea0 := h.a0 hp
    rw [if_pos (show isP p ∧ 0 ≤ i ∧ i < c 682 (242 * p) from ⟨hp, hw.2.1, by rw [← ea0]; exact i1⟩), if_neg (by decide), if_neg (show ¬ ¬ isW σ.1 p i from fun q => q hw), zm_in, zbnd_some]
    by_cases e : 0 ≤ w ∧ w ≤ 7
    · obtain ⟨c2, q1, q2, q3, q4⟩ := M_links (d + 32) h hp
      have mo := q4.1
      obtain ⟨j, rfl⟩ : ∃ j : Nat, i = (j : Int) := ⟨i.toNat, by omega⟩
      have run := zm_told_32 (d + 39) mo q3 j w (m := j) rfl (by omega) (by omega) j 19998 0 (by omega) (by omega)
      have run : zex zc_X12_told zk_X12_told (zrun zTab (d + 39)) 19999 32 [(2, 681), (0, p), (0, (j : Int)), (0, w), (0, 0), (0, 0)] [] c2 = _ := run
      have r := q3.r (i := j) i1 (by omega)
      have m := q3.m (i := j) i1
      have j20 : (j : Int) < 20 := by omega
      have mok := mMe_ok σ.1 p j
      refine ⟨c2, ?_, q4, q2.lo⟩
      rw [if_pos e, if_neg (by decide), if_pos h.1.k, q1, zbnd_some, run, ze_X12_told_32, if_neg (by omega)]
      by_cases e0 : w = 0
      · rw [if_pos e0, if_pos e0, if_pos mo.k, zm_sectionOf (d + 37) mo hp (by omega), zbnd_some, ← q4.ok.2, mw_2 hp i0 j20 (by rw [← q4.a0 hp]; exact i1)]
      rw [if_neg e0, if_neg e0]
      by_cases e1 : w = 1
      · rw [if_pos e1, if_pos e1, if_pos mo.k, mo.f.2.2.2.2.2.2.2.2.2.2.2.2.2.1, if_pos (mo.r695 i0 j20), r, Int.toNat_natCast]
      rw [if_neg e1, if_neg e1]
      by_cases e2 : w = 2
      · rw [if_pos e2, if_pos e2, if_pos mo.k, mo.f.2.2.2.2.2.2.2.2.2.2.2.2.2.1, if_pos (mo.r695 i0 j20), r]
        unfold mTo
        by_cases y : mR σ.1 p (σ.1 1 p) (-1) j = 0
        · rw [if_pos y, if_pos mo.k, mo.f.2.2.2.2.2.2.2.2.2.2.2.1, if_pos (mo.r693 i0 j20), m, if_neg (mR_me h.v.sn y), if_pos ⟨i0, i1, by rw [Int.toNat_natCast]; exact y⟩]
        · rw [if_neg y, if_neg (fun q => y (by have := q.2.2; rw [Int.toNat_natCast] at this; exact this))]
      rw [if_neg e2, if_neg e2]
      by_cases e3 : w = 3
      · rw [if_pos e3, if_pos e3, if_pos mo.k, mo.f.2.2.2.2.2.2.2.2.2.2.2.1, if_pos (mo.r693 i0 j20), m]
        by_cases y : (mMe σ.1 p j).1 = -5
        · rw [if_pos y, if_pos (by decide), y]
        · rw [if_neg y, if_neg (by omega), if_pos mo.k, if_pos (mo.r693 i0 j20)]
      rw [if_neg e3, if_neg e3]
      by_cases e4 : w = 4
      · rw [if_pos e4, if_pos e4, if_pos mo.k, mo.f.2.2.2.2.2.2.2.2.2.2.2.1, if_pos (mo.r693 i0 j20), m]
        by_cases y : (mMe σ.1 p j).1 = -5
        · rw [if_pos y, if_pos (by decide), mMe_5 y]
        · rw [if_neg y, if_neg (by omega), if_pos mo.k, mo.f.2.2.2.2.2.2.2.2.2.2.2.2.1, if_pos (mo.r694 i0 j20), (q3.1 j i1).2.1.2.2 y]
      rw [if_neg e4, if_neg e4]
      by_cases e5 : w = 5
      · rw [if_pos e5, if_pos e5, if_pos mo.k, mo.f.2.2.2.2.2.2.2.2.2.2.1, if_pos (mo.r692 i0 j20)]
        obtain ⟨hB, ⟨w1, -⟩, -⟩ := q3.1 j i1
        rcases w1 with ⟨x1, x2⟩ | ⟨b, x1, x2, x3⟩
        · rw [x2, if_pos (by decide), x1]
        · have cap : (mBL σ.1 p j).length ≤ 43 := by rw [← h.ok.2]; exact mBL_cap h.ok.1 p j
          obtain ⟨nb, n1, n2, n3, -⟩ := hB.2 b x1
          rw [x2, if_neg (by omega), if_pos mo.k, if_pos mo.k, if_pos (mo.r692 i0 j20), mo.f.2.2.2.2.2.1, zmul_id (by omega) (by omega), zadd_id (by omega) (by omega), if_pos (mo.r687 (by omega) (by omega)), n3, x3]
      rw [if_neg e5, if_neg e5]
      by_cases e6 : w = 6
      · rw [if_pos e6, if_pos e6, Int.toNat_natCast]
      rw [if_neg e6, if_neg e6, if_pos (show w = 7 by omega), if_pos mo.k, mo.f.2.2.2.2.1, if_pos (mo.r686 i0 j20), (q3.1 j i1).1.1]
    · refine MAk.rf h ?_
      rw [if_neg e, if_pos rfl, if_neg (by omega), if_neg (by omega), if_neg (by omega), if_neg (by omega), if_neg (by omega), if_neg (by omega), if_neg (by omega), if_neg (by omega)]
  · refine MAk.rf h ?_
    rw [if_neg (show ¬ (isP p ∧ 0 ≤ i ∧ i < c 682 (242 * p)) from fun q => hw ⟨q.1, q.2.1, by rw [h.a0 q.1]; exact q.2.2⟩), if_pos rfl, if_pos hw]
theorem M_base {i b : Int} (h : RM c σ) : MAk c σ (zrun zTab (d + 40) 196 [681, p, i, b, k] c) (aBase σ.1 p i b k) := by
  rw [ze_X12_base, if_pos h.1.k, zm_isWord (d + 36) h.1 h.bn, zbnd_some]
  unfold aBase
  by_cases hw : isW σ.1 p i
  · have hp := hw.1
    have i1 := hw.2.2
    have i0 := hw.2.1
    have n0 := h.bn p hp
    have ea0 := h.a0 hp
    rw [if_pos (show isP p ∧ 0 ≤ i ∧ i < c 682 (242 * p) from ⟨hp, hw.2.1, by rw [← ea0]; exact i1⟩), if_neg (by decide)]
    by_cases e1 : b < 0
    · refine MAk.rf h ?_
      rw [if_pos e1, if_pos (Or.inr (Or.inl e1))]
    rw [if_neg e1]
    by_cases e2 : k < -1
    · refine MAk.rf h ?_
      rw [if_pos e2, if_pos (Or.inr (Or.inr e2))]
    obtain ⟨c2, q1, q2, q3⟩ := zm_bases (d + 35) (i := i) h.1 h.ok.1 hp ⟨i0, by rw [← ea0]; exact i1⟩
    rw [h.ok.2] at q2
    have fr : LFr c c2 := ⟨q3.1, fun b b0 b1 k => q3.2.1 b (by omega) k, fun k hk => q3.2.1 681 (by decide) k⟩
    have hc2 := h.lf fr
    have mo := hc2.1
    have cap : (mBL σ.1 p i).length ≤ 43 := by rw [← h.ok.2]; exact mBL_cap h.ok.1 p i
    refine ⟨c2, ?_, hc2, fr.lo⟩
    rw [if_neg e2, if_neg (show ¬ (¬ isW σ.1 p i ∨ b < 0 ∨ k < -1) from fun q => by rcases q with q | q | q; exact q hw; exact e1 q; exact e2 q), if_pos h.1.k, q1, zbnd_some, if_pos mo.k, mo.f.2.2.2.2.1, if_pos (mo.r686 i0 (by omega)), q2.1]
    by_cases e3 : b < ((mBL σ.1 p i).length : Int)
    · obtain ⟨m, rfl⟩ : ∃ m : Nat, b = (m : Int) := ⟨b.toNat, by omega⟩
      obtain ⟨nb, n1, n2, n3, n4, n5⟩ := q2.2 m (by omega)
      rw [if_pos e3, if_pos e3, if_pos mo.k, mo.f.2.2.2.2.2.2.1, zmul_id (by omega) (by omega), zadd_id (by omega) (by omega), if_pos (mo.r688 (by omega) (by omega)), n2, Int.toNat_natCast, ← n5, lOL_zenc n4 n1.2]
      by_cases y1 : k = -1
      · rw [if_pos y1, if_pos y1]
      rw [if_neg y1, if_neg y1, if_neg (show ¬ k < 0 by omega)]
      by_cases y2 : k < (nb : Int)
      · rw [if_pos y2, if_pos y2, if_pos mo.k, mo.f.2.2.2.2.2.2.2.1, zmul_id (by omega) (by omega), zadd_id (by omega) (by omega), if_pos (mo.r689 (by omega) (by omega))]
      · rw [if_neg y2, if_neg y2]
    · rw [if_neg e3, if_neg e3]
  · refine MAk.rf h ?_
    rw [if_neg (show ¬ (isP p ∧ 0 ≤ i ∧ i < c 682 (242 * p)) from fun q => hw ⟨q.1, q.2.1, by rw [h.a0 q.1]; exact q.2.2⟩), if_pos rfl, if_pos (Or.inl hw)]
/-- the count of a page -/
def mPp (A : zA2) (s w p : Int) : Int := if w = 4 then mMT A p s else mLT A p s
abbrev mSel (w p : Int) : Prop := w ≤ 9 ∨ w - 10 = p
theorem zm_os_114 (h : MO c) {A : zA2} {bud n0 : Int} (hp : isP p) (hA : A 0 p = c 682 (242 * p)) (hn : A 0 p ≤ 20) (hsn : SnOK A) (hbud : bud = A 1 p) (hl : ML c A p bud (-1)) (hs : 0 ≤ s) (hn0 : 0 ≤ n0 ∧ n0 ≤ 1000) : ∀ (t F k : Nat), t ≤ F → (k : Int) + t = A 0 p → zex zc_X12_ofSense zk_X12_ofSense (zrun zTab (d + 1)) (F + 1) 114 [(2, 681), (0, s), (0, w), (0, n0 + (if w = 4 then zcnt (fun j => (mMe A p j).1 = s) k else zcnt (fun j => mTo A p j = s) k)), (0, p), (0, (k : Int))] [] c = zex zc_X12_ofSense zk_X12_ofSense (zrun zTab (d + 1)) (F - t) 81 [(2, 681), (0, s), (0, w), (0, n0 + mPp A s w p), (0, p + 1), (3, 0)] [] c := by
  have p0 := hp.1
  have p1 := hp.2
  intro t
  induction t with
  | zero =>
    intro F k hF hk
    rw [ze_X12_ofSense_114, if_pos h.k, zm_words d h hp, zbnd_some, ← hA, if_neg (by omega), zw_id' (by omega) (by omega)]
    unfold mPp mMT mLT
    rw [show (A 0 p).toNat = k by omega]
    rfl
  | succ t ih =>
    intro F k hF hk
    obtain ⟨F, rfl⟩ : ∃ G, F = G + 1 := ⟨F - 1, by omega⟩
    have ki : (k : Int) < A 0 p := by omega
    have r := hl.r (i := k) ki (by omega)
    have m := hl.m (i := k) ki
    have z1 := zcnt_le (fun j => (mMe A p j).1 = s) k
    have z2 := zcnt_le (fun j => mTo A p j = s) k
    have s1 : zcnt (fun j => (mMe A p j).1 = s) (k + 1) = zcnt (fun j => (mMe A p j).1 = s) k + (if (mMe A p k).1 = s then 1 else 0) := rfl
    have s2 : zcnt (fun j => mTo A p j = s) (k + 1) = zcnt (fun j => mTo A p j = s) k + (if mTo A p k = s then 1 else 0) := rfl
    have nx := ih F (k + 1) (by omega) (by omega)
    rw [s1, s2] at nx
    have mok := mMe_ok A p k
    have em : (c 693 k = s) ↔ (mMe A p k).1 = s := by
      rw [m]
      by_cases y : (mMe A p k).1 = -5
      · rw [if_pos y]; omega
      · rw [if_neg y]
    have et : mTo A p k = s ↔ ((mMe A p k).1 = s ∧ mR A p bud (-1) k = 0) := by
      unfold mTo
      rw [Int.toNat_natCast, ← hbud]
      by_cases y : mR A p bud (-1) k = 0
      · rw [if_pos ⟨by omega, ki, y⟩]; exact ⟨fun q => ⟨q, y⟩, fun q => q.1⟩
      · rw [if_neg (fun q => y q.2.2)]; exact ⟨fun q => by omega, fun q => absurd q.2 y⟩
    rw [ze_X12_ofSense_114, if_pos h.k, zm_words d h hp, zbnd_some, ← hA, if_pos ki, if_pos h.k, h.f.2.2.2.2.2.2.2.2.2.2.2.1, if_pos (h.r693 (by omega) (by omega)), zw_id' (by omega) (by omega), show (k : Int) + 1 = ((k + 1 : Nat) : Int) by omega, show F + 1 - (t + 1) = F - t by omega]
    by_cases e1 : (mMe A p k).1 = s
    · rw [if_pos (em.mpr e1)]
      by_cases e2 : w = 4
      · rw [if_pos e2, if_pos e1] at nx
        rw [if_pos e2, if_pos e2, zadd_id (by omega) (by omega), Int.add_assoc]
        exact nx
      · rw [if_neg e2] at nx
        rw [if_neg e2, if_neg e2, if_pos h.k, h.f.2.2.2.2.2.2.2.2.2.2.2.2.2.1, if_pos (h.r695 (by omega) (by omega)), r]
        by_cases e3 : mR A p bud (-1) k = 0
        · rw [if_pos (et.mpr ⟨e1, e3⟩)] at nx
          rw [if_pos e3, zadd_id (by omega) (by omega), Int.add_assoc]
          exact nx
        · rw [if_neg (fun q => e3 (et.mp q).2), Int.add_zero] at nx
          rw [if_neg e3, zadd_id (by omega) (by omega), Int.add_zero]
          exact nx
    · rw [if_neg e1, if_neg (fun q => e1 (et.mp q).1), Int.add_zero, Int.add_zero] at nx
      rw [if_neg (fun q => e1 (em.mp q)), zadd_id (by split <;> omega) (by split <;> omega), Int.add_zero]
      exact nx
theorem mPp_le (A : zA2) (s w p : Int) (h : A 0 p ≤ 20) : 0 ≤ mPp A s w p ∧ mPp A s w p ≤ 20 := by
  unfold mPp; split
  · exact mMT_le A p s h
  · exact mLT_le A p s h
theorem M_os_81 (hs : 0 ≤ s) (hw : 3 ≤ w ∧ w ≤ 13) : ∀ (t F k : Nat) (c : zC), 100 * t ≤ F → k + t = 4 → RM c σ → MAk c σ (zex zc_X12_ofSense zk_X12_ofSense (zrun zTab (d + 8)) (F + 1) 81 [(2, 681), (0, s), (0, w), (0, sm4 (fun p => if mSel w p then mPp σ.1 s w p else 0) k), (0, (k : Int)), (3, 0)] [] c) (sm4 (fun p => if mSel w p then mPp σ.1 s w p else 0) 4) := by
  intro t
  induction t with
  | zero =>
    intro F k c hF hk h
    refine MAk.rf h ?_
    rw [ze_X12_ofSense_81, if_neg (by omega), show k = 4 by omega]
  | succ t ih =>
    intro F k c hF hk h
    obtain ⟨F, rfl⟩ : ∃ G, F = G + 1 := ⟨F - 1, by omega⟩
    have hp : isP (k : Int) := ⟨by omega, by omega⟩
    have a20 := fun p (hp : isP p) => ((h.v.1 p hp.1 hp.2).1)
    have b1 := sm4_le (f := fun p => if mSel w p then mPp σ.1 s w p else 0) (fun p hp => by
      show 0 ≤ (if mSel w p then mPp σ.1 s w p else 0) ∧ (if mSel w p then mPp σ.1 s w p else 0) ≤ 20
      split
      · exact mPp_le _ _ _ _ (a20 p hp).2
      · omega) k (by omega)
    have st : sm4 (fun p => if mSel w p then mPp σ.1 s w p else 0) (k + 1) = sm4 (fun p => if mSel w p then mPp σ.1 s w p else 0) k + (if mSel w (k : Int) then mPp σ.1 s w k else 0) := rfl
    have go : mSel w (k : Int) → MAk c σ (zbnd (zrun zTab (d + 8) 183 [681, (k : Int)] c) (fun _ c2 => zex zc_X12_ofSense zk_X12_ofSense (zrun zTab (d + 8)) (F + 1) 114 [(2, 681), (0, s), (0, w), (0, sm4 (fun p => if mSel w p then mPp σ.1 s w p else 0) k), (0, (k : Int)), (0, 0)] [] c2)) (sm4 (fun p => if mSel w p then mPp σ.1 s w p else 0) 4) := fun sel => by
      obtain ⟨c2, q1, q2, q3, q4⟩ := M_links (d + 1) h hp
      have run := zm_os_114 (d + 7) (w := w) (s := s) (n0 := sm4 (fun p => if mSel w p then mPp σ.1 s w p else 0) k) q4.1 hp (q4.a0 hp) (a20 k hp).2 h.v.sn rfl q3 hs (by omega) (σ.1 0 k).toNat F 0 (by have := (a20 k hp).2; omega) (by have := (a20 k hp).1; omega)
      have e00 : (if w = 4 then zcnt (fun j => (mMe σ.1 k j).1 = s) 0 else zcnt (fun j => mTo σ.1 k j = s) 0) = 0 := by split <;> rfl
      rw [e00, Int.add_zero, show ((0 : Nat) : Int) = 0 from rfl] at run
      obtain ⟨G, hG⟩ : ∃ G, F - (σ.1 0 k).toNat = G + 1 := ⟨F - (σ.1 0 k).toNat - 1, by have := (a20 k hp).2; omega⟩
      rw [if_pos sel] at st
      have nx := ih G (k + 1) c2 (by have := (a20 k hp).2; omega) (by omega) q4
      rw [st] at nx
      rw [q1, zbnd_some, run, hG, show (k : Int) + 1 = ((k + 1 : Nat) : Int) by omega]
      obtain ⟨c3, x1, x2, x3⟩ := nx
      exact ⟨c3, x1, x2, q2.lo.tr x3⟩
    rw [ze_X12_ofSense_81, if_pos (by omega)]
    by_cases e1 : w ≤ 9
    · rw [if_pos e1, if_pos h.1.k]
      exact go (Or.inl e1)
    · rw [if_neg e1]
      rw [zsub_id (by omega) (by omega)]
      by_cases e2 : w - 10 = (k : Int)
      · rw [if_pos e2, if_pos h.1.k]
        exact go (Or.inr e2)
      · rw [if_neg (show ¬ mSel w (k : Int) from fun q => q.elim e1 e2), Int.add_zero] at st
        have nx := ih F (k + 1) c (by omega) (by omega) h
        rw [st] at nx
        rw [if_neg e2, zw_id' (by omega) (by omega), show (k : Int) + 1 = ((k + 1 : Nat) : Int) by omega]
        exact nx
end
