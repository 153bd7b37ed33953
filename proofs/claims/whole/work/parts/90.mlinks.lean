/-! The reference: reasons, the links of a page. -/
def mS (A : zA2) (p i : Int) : Int := if (mMe A p i).1 = -5 then -1 else (mMe A p i).1
theorem mSta_ne {A : zA2} (hs : SnOK A) {p i : Int} (h : (mHd A p i).2 = -5) : (mMe A p i).1 = -5 := by
  rcases mHd_ok A p i with q | q
  · unfold mMe
    rw [mCh_zero (fun s hs2 => by rw [q]; exact hs.2 s (by omega) (by omega))]
    rfl
  · omega
section
variable {c : zC} {p : Int} {i : Nat} (d : Nat)
theorem zm_rs_41 {bud left last : Int} (h : MO c) (ok : MOK (c 682) 0) (hp : isP p) (hi : (i : Int) < c 682 (242 * p)) (hW : ∀ j : Nat, j ≤ i → MW c (mview (c 682) 0) p j) (hR : ∀ j : Nat, j < i → c 695 j = if (j : Int) = left then 7 else mR (mview (c 682) 0) p bud left j) (hm : (mMe (mview (c 682) 0) p i).1 ≠ -5)
    (hlast : last = if mLast (mRs (mview (c 682) 0) p bud left i) left i = -5 then -1 else mLast (mRs (mview (c 682) 0) p bud left i) left i) (hl : c 681 22 = mCnt (mRs (mview (c 682) 0) p bud left i) left i) : ∀ (t F k : Nat), t ≤ F → k + t = i →
    ((∃ j : Nat, k ≤ j ∧ j < i ∧ mLk (mRs (mview (c 682) 0) p bud left i) left j = true ∧ (mMe (mview (c 682) 0) p j).1 = (mMe (mview (c 682) 0) p i).1 ∧ mview (c 682) 0 2 (20 * p + j) = mview (c 682) 0 2 (20 * p + i)) ∧ zex zc_X12_reason zk_X12_reason (zrun zTab (d + 2)) (F + 1) 41 [(2, 681), (0, p), (0, (i : Int)), (0, last), (0, bud), (0, (k : Int))] [] c = some (4, c)) ∨
    ((∀ j : Nat, k ≤ j → j < i → ¬ (mLk (mRs (mview (c 682) 0) p bud left i) left j = true ∧ (mMe (mview (c 682) 0) p j).1 = (mMe (mview (c 682) 0) p i).1 ∧ mview (c 682) 0 2 (20 * p + j) = mview (c 682) 0 2 (20 * p + i))) ∧ zex zc_X12_reason zk_X12_reason (zrun zTab (d + 2)) (F + 1) 41 [(2, 681), (0, p), (0, (i : Int)), (0, last), (0, bud), (0, (k : Int))] [] c = some (if mLast (mRs (mview (c 682) 0) p bud left i) left i ≠ -5 ∧ (i : Int) - mLast (mRs (mview (c 682) 0) p bud left i) left i - 1 < mview (c 682) 0 15 0 then 5 else if bud ≤ mCnt (mRs (mview (c 682) 0) p bud left i) left i then 6 else 0, c)) := by
  have pg := ok.pg hp
  have n20 := pg.1
  have e15 : mview (c 682) 0 15 0 = c 682 1481 := rfl
  intro t
  induction t with
  | zero =>
    intro F k hF hk
    refine Or.inr ⟨fun j j0 j1 => by omega, ?_⟩
    have ml := mLast_le (mRs (mview (c 682) 0) p bud left i) left i
    rw [ze_X12_reason_41, if_neg (by omega), e15]
    generalize mLast (mRs (mview (c 682) 0) p bud left i) left i = M at ml hlast ⊢
    generalize mCnt (mRs (mview (c 682) 0) p bud left i) left i = N at hl ⊢
    by_cases x : M = -5
    · rw [if_pos x] at hlast
      rw [if_pos (by omega), if_pos h.k, hl, if_neg (show ¬ (M ≠ -5 ∧ (i : Int) - M - 1 < c 682 1481) from fun q => q.1 x)]
      by_cases y : N < bud
      · rw [if_pos y, if_neg (by omega)]
      · rw [if_neg y, if_pos (by omega)]
    · rw [if_neg x] at hlast
      subst hlast
      rw [if_neg (by omega), if_pos h.k, h.f.1, if_pos (h.r682 (by omega) (by omega)), zsub_id (x := (i : Int)) (by omega) (by omega), zsub_id (by omega) (by omega)]
      by_cases z : (i : Int) - last - 1 < c 682 1481
      · rw [if_pos z, if_pos ⟨x, z⟩]
      · rw [if_neg z, if_pos h.k, hl, if_neg (show ¬ (last ≠ -5 ∧ (i : Int) - last - 1 < c 682 1481) from fun q => z q.2)]
        by_cases y : N < bud
        · rw [if_pos y, if_neg (by omega)]
        · rw [if_neg y, if_pos (by omega)]
  | succ t ih =>
    intro F k hF hk
    obtain ⟨F, rfl⟩ : ∃ G, F = G + 1 := ⟨F - 1, by omega⟩
    have ki : k < i := by omega
    have s1 : mview (c 682) 0 2 (20 * p + k) = c 682 (242 * p + 2 + 12 * k) := mw_2 hp (by omega) (by omega) (by omega)
    have s2 : mview (c 682) 0 2 (20 * p + i) = c 682 (242 * p + 2 + 12 * i) := mw_2 hp (by omega) (by omega) (by omega)
    have wi := (hW i (Nat.le_refl i)).2.1
    have wk := (hW k (by omega)).2.1
    rw [if_neg hm] at wi
    have lk := mLk_iff (A := mview (c 682) 0) (p := p) (bud := bud) (left := left) (n := i) (i := k)
    have rk := hR k ki
    have mok := mMe_ok (mview (c 682) 0) p i
    have mok2 := mMe_ok (mview (c 682) 0) p k
    have nx : ¬ (mLk (mRs (mview (c 682) 0) p bud left i) left k = true ∧ (mMe (mview (c 682) 0) p k).1 = (mMe (mview (c 682) 0) p i).1 ∧ mview (c 682) 0 2 (20 * p + k) = mview (c 682) 0 2 (20 * p + i)) → ∀ w : zR, w = zex zc_X12_reason zk_X12_reason (zrun zTab (d + 2)) (F + 1) 41 [(2, 681), (0, p), (0, (i : Int)), (0, last), (0, bud), (0, ((k + 1 : Nat) : Int))] [] c →
      ((∃ j : Nat, k ≤ j ∧ j < i ∧ mLk (mRs (mview (c 682) 0) p bud left i) left j = true ∧ (mMe (mview (c 682) 0) p j).1 = (mMe (mview (c 682) 0) p i).1 ∧ mview (c 682) 0 2 (20 * p + j) = mview (c 682) 0 2 (20 * p + i)) ∧ w = some (4, c)) ∨
      ((∀ j : Nat, k ≤ j → j < i → ¬ (mLk (mRs (mview (c 682) 0) p bud left i) left j = true ∧ (mMe (mview (c 682) 0) p j).1 = (mMe (mview (c 682) 0) p i).1 ∧ mview (c 682) 0 2 (20 * p + j) = mview (c 682) 0 2 (20 * p + i))) ∧ w = some (if mLast (mRs (mview (c 682) 0) p bud left i) left i ≠ -5 ∧ (i : Int) - mLast (mRs (mview (c 682) 0) p bud left i) left i - 1 < mview (c 682) 0 15 0 then 5 else if bud ≤ mCnt (mRs (mview (c 682) 0) p bud left i) left i then 6 else 0, c)) := fun hn w hw => by
      rcases ih F (k + 1) (by omega) (by omega) with ⟨⟨j, j0, j1, j2⟩, r⟩ | ⟨a, r⟩
      · exact Or.inl ⟨⟨j, by omega, j1, j2⟩, hw.trans r⟩
      · refine Or.inr ⟨fun j j0 j1 => ?_, hw.trans r⟩
        by_cases y : j = k
        · subst y; exact hn
        · exact a j (by omega) j1
    rw [ze_X12_reason_41, if_pos (by omega), if_pos h.k, h.f.2.2.2.2.2.2.2.2.2.2.2.2.2.1, if_pos (h.r695 (by omega) (by omega)), zw_id' (by omega) (by omega), show (k : Int) + 1 = ((k + 1 : Nat) : Int) by omega]
    by_cases e1 : c 695 k = 0
    · have hk2 : mLk (mRs (mview (c 682) 0) p bud left i) left k = true := by
        rw [lk]
        by_cases y : (k : Int) = left
        · rw [if_pos y] at rk; omega
        · rw [if_neg y] at rk; exact ⟨ki, by omega, y⟩
      rw [if_pos e1, if_pos h.k, h.f.2.2.2.2.2.2.2.2.2.2.2.1, if_pos (h.r693 (by omega) (by omega)), if_pos h.k, if_pos (h.r693 (by omega) (by omega)), wi, wk]
      by_cases e2 : (mMe (mview (c 682) 0) p k).1 = (mMe (mview (c 682) 0) p i).1
      · rw [if_pos (show (if (mMe (mview (c 682) 0) p k).1 = -5 then -1 else (mMe (mview (c 682) 0) p k).1) = (mMe (mview (c 682) 0) p i).1 by rw [if_neg (by rw [e2]; exact hm)]; exact e2), if_pos h.k, zm_sectionOf d h hp (by omega), zbnd_some, if_pos h.k, zm_sectionOf d h hp (by omega), zbnd_some]
        by_cases e3 : c 682 (242 * p + 2 + 12 * k) = c 682 (242 * p + 2 + 12 * i)
        · rw [if_pos e3]
          exact Or.inl ⟨⟨k, Nat.le_refl k, ki, hk2, e2, by rw [s1, s2]; exact e3⟩, rfl⟩
        · rw [if_neg e3]
          exact nx (fun q => e3 (by rw [← s1, ← s2]; exact q.2.2)) _ rfl
      · rw [if_neg (show ¬ (if (mMe (mview (c 682) 0) p k).1 = -5 then -1 else (mMe (mview (c 682) 0) p k).1) = (mMe (mview (c 682) 0) p i).1 by split <;> omega)]
        exact nx (fun q => e2 q.2.1) _ rfl
    · rw [if_neg e1]
      refine nx (fun q => e1 ?_) _ rfl
      have y := lk.mp q.1
      rw [rk, if_neg y.2.2]
      exact y.2.1
theorem zm_reason {bud left last : Int} (h : MO c) (ok : MOK (c 682) 0) (hp : isP p) (hi : (i : Int) < c 682 (242 * p)) (hW : ∀ j : Nat, j ≤ i → MW c (mview (c 682) 0) p j) (hR : ∀ j : Nat, j < i → c 695 j = if (j : Int) = left then 7 else mR (mview (c 682) 0) p bud left j)
    (hlast : last = if mLast (mRs (mview (c 682) 0) p bud left i) left i = -5 then -1 else mLast (mRs (mview (c 682) 0) p bud left i) left i) (hl : c 681 22 = mCnt (mRs (mview (c 682) 0) p bud left i) left i) : zrun zTab (d + 3) 181 [681, p, (i : Int), last, bud] c = some (mR (mview (c 682) 0) p bud left i, c) := by
  have n20 := (ok.pg hp).1
  obtain ⟨w1, w2, w3⟩ := hW i (Nat.le_refl i)
  have mok := mMe_ok (mview (c 682) 0) p i
  have e9 : mview (c 682) 0 9 0 = c 682 1023 := rfl
  have n9 := ok.n9
  rw [ze_X12_reason, if_pos h.k, h.f.2.2.2.2.2.2.2.2.2.2.1, if_pos (h.r692 (by omega) (by omega)), mR_eq]
  unfold mRe mSta
  rcases w1 with ⟨x1, x2⟩ | ⟨b, x1, x2, x3⟩
  · rw [if_pos (by omega), if_pos x1, if_pos (by decide)]
  · have lev : 0 ≤ (mHd (mview (c 682) 0) p i).2 := by
      rw [← x3]
      exact (mbas_lev _ _ _ _ (zgetD_mem x1)).1
    rw [if_neg (by omega), if_neg (show ¬ (mHd (mview (c 682) 0) p i).2 = -5 by omega), if_pos h.k, h.f.2.2.2.2.2.2.2.2.2.2.2.1, if_pos (h.r693 (by omega) (by omega)), w2]
    by_cases e1 : (mMe (mview (c 682) 0) p i).1 = -5
    · rw [if_pos e1, if_pos e1, if_pos (by decide), if_pos (by decide)]
    · have m0 : 0 ≤ (mMe (mview (c 682) 0) p i).1 ∧ (mMe (mview (c 682) 0) p i).1 < c 682 1023 := by rw [e9] at mok; exact mok.resolve_left e1
      rw [if_neg e1, if_neg e1, if_neg (by omega), if_pos h.k, if_pos (h.r693 (by omega) (by omega)), if_pos h.k, zm_own d h (by omega), zbnd_some, mw_13 m0.1 m0.2, show 1024 + 57 * (mMe (mview (c 682) 0) p i).1 + 56 = 1080 + 57 * (mMe (mview (c 682) 0) p i).1 by omega]
      by_cases e2 : c 682 (1080 + 57 * (mMe (mview (c 682) 0) p i).1) = p
      · rw [if_pos e2, if_pos e2, if_pos (by decide)]
      · rw [if_neg e2, if_neg e2, if_neg (by decide)]
        have tw := mTwin_iff (A := mview (c 682) 0) (p := p) (most := bud) (left := left) (i := i) (m := i) (Nat.le_refl i)
        rcases zm_rs_41 d h ok hp hi hW hR e1 hlast hl i 19998 0 (by omega) (by omega) with ⟨⟨j, j0, j1, j2⟩, r⟩ | ⟨a, r⟩
        · rw [if_pos (tw.mpr ⟨j, j1, j2⟩)]
          exact r
        · rw [if_neg (fun q => by obtain ⟨j, j1, j2⟩ := tw.mp q; exact a j (Nat.zero_le j) j1 j2)]
          exact r
/-- the links of a page are worked out -/
def ML (c : zC) (A : zA2) (p bud left : Int) : Prop := (∀ i : Nat, (i : Int) < A 0 p → MBs c i (mBL A p i) ∧ MW c A p i ∧ c 695 i = if (i : Int) = left then 7 else mR A p bud left i) ∧ c 681 22 = mCnt (mRs A p bud left (A 0 p).toNat) left (A 0 p).toNat
def LFr (c c' : zC) : Prop := MS c c' ∧ (∀ b, b ≠ 681 → (b < 686 ∨ 695 < b) → ∀ k, c' b k = c b k) ∧ ∀ k, k ≠ 22 → c' 681 k = c 681 k
theorem LFr.tr {c c1 c2 : zC} (h : LFr c c1) (g : LFr c1 c2) : LFr c c2 := ⟨h.1.tr g.1, fun b b0 b1 k => (g.2.1 b b0 b1 k).trans (h.2.1 b b0 b1 k), fun k hk => (g.2.2 k hk).trans (h.2.2 k hk)⟩
theorem LFr.rf (c : zC) : LFr c c := ⟨MS.rf c, fun _ _ _ _ => rfl, fun _ _ => rfl⟩
theorem LFr.e682 {c c' : zC} (h : LFr c c') : c' 682 = c 682 := funext (h.2.1 682 (by decide) (by decide))
theorem zm_links_3 (h : MO c) (ok : MOK (c 682) 0) (hp : isP p) (bud left : Int) : ∀ (t F i : Nat) (c1 : zC), t + 1 ≤ F → (i : Int) + t = c 682 (242 * p) → LFr c c1 → (∀ j : Nat, j < i → MBs c1 j (mBL (mview (c 682) 0) p j)) → ∃ c2, zex zc_X12_links zk_X12_links (zrun zTab (d + 5)) (F + 1) 3 [(2, 681), (0, p), (0, left), (0, bud), (0, (i : Int)), (3, 0)] [] c1 = zex zc_X12_links zk_X12_links (zrun zTab (d + 5)) (F - t) 37 [(2, 681), (0, p), (0, left), (0, bud), (0, -1), (0, 0)] [] c2 ∧ LFr c c2 ∧ c2 681 22 = 0 ∧ ∀ j : Nat, (j : Int) < c 682 (242 * p) → MBs c2 j (mBL (mview (c 682) 0) p j) := by
  have n20 := (ok.pg hp).1
  intro t
  induction t with
  | zero =>
    intro F i c1 hF hi fr hB
    have m1 := h.ms fr.1
    have e := fr.e682
    refine ⟨zup c1 681 22 0, ?_, ⟨fr.1.up (by decide) (Or.inr (by decide)), fun b b0 b1 k => by rw [zup_ne (Or.inl b0)]; exact fr.2.1 b b0 b1 k, fun k hk => by rw [zup_ne (Or.inr hk)]; exact fr.2.2 k hk⟩, zup_eq ⟨rfl, rfl⟩, fun j hj => (hB j (by omega)).same (fun b b0 b1 k => zup_ne (by omega))⟩
    rw [ze_X12_links_3, if_pos m1.k, zm_words (d + 4) m1 hp, zbnd_some, e, if_neg (by omega), if_pos m1.k]
    rfl
  | succ t ih =>
    intro F i c1 hF hi fr hB
    obtain ⟨F, rfl⟩ : ∃ G, F = G + 1 := ⟨F - 1, by omega⟩
    have m1 := h.ms fr.1
    have e := fr.e682
    obtain ⟨c2, q1, q2, q3⟩ := zm_bases (d + 1) (i := (i : Int)) m1 (by rw [e]; exact ok) hp (by rw [e]; omega)
    rw [e] at q2
    have fr2 : LFr c c2 := fr.tr ⟨q3.1, fun b b0 b1 k => q3.2.1 b (by omega) k, fun k hk => q3.2.1 681 (by decide) k⟩
    obtain ⟨c3, r1, r2, r3⟩ := ih F (i + 1) c2 (by omega) (by omega) fr2 (fun j hj => by
      by_cases x : j = i
      · subst x; exact q2
      · exact (hB j (by omega)).fq q3 (by omega) (mBL_cap ok p j))
    rw [ze_X12_links_3, if_pos m1.k, zm_words (d + 4) m1 hp, zbnd_some, e, if_pos (by omega), if_pos m1.k, q1, zbnd_some, zw_id' (by omega) (by omega), show (i : Int) + 1 = ((i + 1 : Nat) : Int) by omega, r1, show F - t = F + 1 - (t + 1) by omega]
    exact ⟨c3, rfl, r2, r3⟩
theorem zm_links_37 (h : MO c) (ok : MOK (c 682) 0) (hp : isP p) (bud left : Int) : ∀ (t F i : Nat) (c1 : zC) (last : Int), t ≤ F → (i : Int) + t = c 682 (242 * p) → LFr c c1 → (∀ j : Nat, (j : Int) < c 682 (242 * p) → MBs c1 j (mBL (mview (c 682) 0) p j)) → (∀ j : Nat, j < i → MW c1 (mview (c 682) 0) p j ∧ c1 695 j = if (j : Int) = left then 7 else mR (mview (c 682) 0) p bud left j) →
    c1 681 22 = mCnt (mRs (mview (c 682) 0) p bud left i) left i → last = (if mLast (mRs (mview (c 682) 0) p bud left i) left i = -5 then -1 else mLast (mRs (mview (c 682) 0) p bud left i) left i) → ∃ c2, zex zc_X12_links zk_X12_links (zrun zTab (d + 5)) (F + 1) 37 [(2, 681), (0, p), (0, left), (0, bud), (0, last), (0, (i : Int))] [] c1 = some (0, c2) ∧ LFr c c2 ∧ ML c2 (mview (c 682) 0) p bud left := by
  have n20 := (ok.pg hp).1
  intro t
  induction t with
  | zero =>
    intro F i c1 last hF hi fr hB hW hl hlast
    have m1 := h.ms fr.1
    have e := fr.e682
    have e0 : mview (c 682) 0 0 p = c 682 (242 * p) := mw_0 hp
    refine ⟨c1, ?_, fr, fun j hj => ⟨hB j (by rw [← e0]; exact hj), hW j (by omega)⟩, ?_⟩
    · rw [ze_X12_links_37, if_pos m1.k, zm_words (d + 4) m1 hp, zbnd_some, e, if_neg (by omega)]
    · rw [e0, show (c 682 (242 * p)).toNat = i by omega]; exact hl
  | succ t ih =>
    intro F i c1 last hF hi fr hB hW hl hlast
    obtain ⟨F, rfl⟩ : ∃ G, F = G + 1 := ⟨F - 1, by omega⟩
    have m1 := h.ms fr.1
    have e := fr.e682
    have i20 : (i : Int) < 20 := by omega
    obtain ⟨c2, q1, q2, q3, q4⟩ := zm_means d (i := i) m1 (by rw [e]; exact ok) hp (by rw [e]; omega) (fun j hj => by rw [e]; exact hB j (by omega))
    rw [e] at q2
    have fr2 : LFr c c2 := fr.tr ⟨q3, fun b b0 b1 k => q4 b k (by omega), fun k hk => q4 681 k (by omega)⟩
    have m2 := h.ms fr2.1
    have e2 := fr2.e682
    have hB2 : ∀ j : Nat, (j : Int) < c 682 (242 * p) → MBs c2 j (mBL (mview (c 682) 0) p j) := fun j hj => (hB j hj).same (fun b b0 b1 k => q4 b k (by omega))
    have hW2 : ∀ j : Nat, j < i → MW c2 (mview (c 682) 0) p j := fun j hj => (hW j hj).1.same ⟨q4 _ _ (by omega), q4 _ _ (by omega), q4 _ _ (by omega)⟩
    have hR2 : ∀ j : Nat, j < i → c2 695 j = if (j : Int) = left then 7 else mR (mview (c 682) 0) p bud left j := fun j hj => by rw [q4 695 _ (by omega)]; exact (hW j hj).2
    have hl2 : c2 681 22 = mCnt (mRs (mview (c 682) 0) p bud left i) left i := by rw [q4 681 _ (by omega)]; exact hl
    have cnt := mCnt_le (mRs (mview (c 682) 0) p bud left i) left i
    -- what the next word finds
    have stepC : mCnt (mRs (mview (c 682) 0) p bud left (i + 1)) left (i + 1) = mCnt (mRs (mview (c 682) 0) p bud left i) left i + (if mLk (mRs (mview (c 682) 0) p bud left (i + 1)) left i = true then 1 else 0) := by
      show mCnt (mRs (mview (c 682) 0) p bud left (i + 1)) left i + _ = _
      rw [mCnt_of (m := i + 1) (n := i) (by omega) (Nat.le_refl i)]
    have stepL : mLast (mRs (mview (c 682) 0) p bud left (i + 1)) left (i + 1) = if mLk (mRs (mview (c 682) 0) p bud left (i + 1)) left i = true then (i : Int) else mLast (mRs (mview (c 682) 0) p bud left i) left i := by
      show (if mLk (mRs (mview (c 682) 0) p bud left (i + 1)) left i = true then (i : Int) else mLast (mRs (mview (c 682) 0) p bud left (i + 1)) left i) = _
      rw [mLast_of (m := i + 1) (n := i) (by omega) (Nat.le_refl i)]
    have lk := mLk_iff (A := mview (c 682) 0) (p := p) (bud := bud) (left := left) (n := i + 1) (i := i)
    -- a reason has been written
    have wr : ∀ v : Int, v = (if (i : Int) = left then 7 else mR (mview (c 682) 0) p bud left i) → MO (zup c2 695 i v) ∧ LFr c (zup c2 695 i v) ∧ (∀ j : Nat, (j : Int) < c 682 (242 * p) → MBs (zup c2 695 i v) j (mBL (mview (c 682) 0) p j)) ∧ ∀ j : Nat, j < i + 1 → MW (zup c2 695 i v) (mview (c 682) 0) p j ∧ zup c2 695 i v 695 j = if (j : Int) = left then 7 else mR (mview (c 682) 0) p bud left j := fun v hv => by
      have f3 : LFr c (zup c2 695 i v) := ⟨fr2.1.up (by omega) (Or.inl (by decide)), fun b b0 b1 k => by rw [zup_ne (by omega)]; exact fr2.2.1 b b0 b1 k, fun k hk => by rw [zup_ne (by omega)]; exact fr2.2.2 k hk⟩
      refine ⟨h.ms f3.1, f3, fun j hj => (hB2 j hj).same (fun b b0 b1 k => zup_ne (by omega)), fun j hj => ?_⟩
      by_cases x : j = i
      · subst x
        exact ⟨q2.same ⟨zup_ne (by omega), zup_ne (by omega), zup_ne (by omega)⟩, by rw [zup_eq ⟨rfl, rfl⟩]; exact hv⟩
      · exact ⟨(hW2 j (by omega)).same ⟨zup_ne (by omega), zup_ne (by omega), zup_ne (by omega)⟩, by rw [zup_ne (by omega)]; exact hR2 j (by omega)⟩
    rw [ze_X12_links_37, if_pos m1.k, zm_words (d + 4) m1 hp, zbnd_some, e, if_pos (by omega), if_pos m1.k, q1, zbnd_some, if_pos m2.k, zw_id' (by omega) (by omega), show (i : Int) + 1 = ((i + 1 : Nat) : Int) by omega]
    have ff := m2.f.2.2.2.2.2.2.2.2.2.2.2.2.2.1
    by_cases x : (i : Int) = left
    · obtain ⟨w1, w2, w3, w4⟩ := wr 7 (by rw [if_pos x])
      have nl : ¬ mLk (mRs (mview (c 682) 0) p bud left (i + 1)) left i = true := fun q => (lk.mp q).2.2 x
      rw [if_neg nl, Int.add_zero] at stepC
      rw [if_neg nl] at stepL
      have e7 : zup c2 695 i 7 695 i = 7 := zup_eq ⟨rfl, rfl⟩
      obtain ⟨c3, r1, r2, r3⟩ := ih F (i + 1) (zup c2 695 i 7) last (by omega) (by omega) w2 w3 w4 (by rw [zup_ne (by omega), stepC]; exact hl2) (by rw [stepL]; exact hlast)
      rw [if_pos x, ff, if_pos (m2.r695 (by omega) i20), if_pos w1.k, w1.f.2.2.2.2.2.2.2.2.2.2.2.2.2.1, if_pos (w1.r695 (by omega) i20), e7, if_neg (by decide)]
      exact ⟨c3, r1, r2, r3⟩
    · have run := zm_reason (d + 2) (i := i) (bud := bud) (left := left) (last := last) m2 (by rw [e2]; exact ok) hp (by rw [e2]; omega) (fun j hj => by
        rw [e2]
        by_cases y : j = i
        · subst y; exact q2
        · exact hW2 j (by omega)) (fun j hj => by rw [e2]; exact hR2 j hj) (by rw [e2]; exact hlast) (by rw [e2]; exact hl2)
      rw [e2] at run
      obtain ⟨w1, w2, w3, w4⟩ := wr (mR (mview (c 682) 0) p bud left i) (by rw [if_neg x])
      have e7 : zup c2 695 i (mR (mview (c 682) 0) p bud left i) 695 i = mR (mview (c 682) 0) p bud left i := zup_eq ⟨rfl, rfl⟩
      have e22 : zup c2 695 i (mR (mview (c 682) 0) p bud left i) 681 22 = mCnt (mRs (mview (c 682) 0) p bud left i) left i := by rw [zup_ne (by omega)]; exact hl2
      rw [if_neg x, if_pos m2.k, run, zbnd_some, ff, if_pos (m2.r695 (by omega) i20), if_pos w1.k, w1.f.2.2.2.2.2.2.2.2.2.2.2.2.2.1, if_pos (w1.r695 (by omega) i20), e7]
      by_cases y : mR (mview (c 682) 0) p bud left i = 0
      · have yl : mLk (mRs (mview (c 682) 0) p bud left (i + 1)) left i = true := lk.mpr ⟨by omega, y, x⟩
        rw [if_pos yl] at stepC stepL
        obtain ⟨c3, r1, r2, r3⟩ := ih F (i + 1) (zup (zup c2 695 i (mR (mview (c 682) 0) p bud left i)) 681 22 (mCnt (mRs (mview (c 682) 0) p bud left i) left i + 1)) i (by omega) (by omega)
          ⟨w2.1.up (by decide) (Or.inr (by decide)), fun b b0 b1 k => by rw [zup_ne (Or.inl b0)]; exact w2.2.1 b b0 b1 k, fun k hk => by rw [zup_ne (Or.inr hk)]; exact w2.2.2 k hk⟩
          (fun j hj => (w3 j hj).same (fun b b0 b1 k => zup_ne (by omega))) (fun j hj => ⟨(w4 j hj).1.same ⟨zup_ne (by omega), zup_ne (by omega), zup_ne (by omega)⟩, by rw [zup_ne (by omega)]; exact (w4 j hj).2⟩) (by rw [zup_eq ⟨rfl, rfl⟩, stepC]) (by rw [stepL, if_neg (by omega)])
        rw [if_pos y, if_pos w1.k, if_pos w1.k, e22, zadd_id (by omega) (by omega)]
        exact ⟨c3, r1, r2, r3⟩
      · have yl : ¬ mLk (mRs (mview (c 682) 0) p bud left (i + 1)) left i = true := fun q => y (lk.mp q).2.1
        rw [if_neg yl, Int.add_zero] at stepC
        rw [if_neg yl] at stepL
        obtain ⟨c3, r1, r2, r3⟩ := ih F (i + 1) (zup c2 695 i (mR (mview (c 682) 0) p bud left i)) last (by omega) (by omega) w2 w3 w4 (by rw [e22, stepC]) (by rw [stepL]; exact hlast)
        rw [if_neg y]
        exact ⟨c3, r1, r2, r3⟩
theorem zm_linksB (h : MO c) (ok : MOK (c 682) 0) (hp : isP p) (bud left : Int) : ∃ c', zrun zTab (d + 6) 182 [681, p, left, bud] c = some (0, c') ∧ LFr c c' ∧ ML c' (mview (c 682) 0) p bud left := by
  have n20 := (ok.pg hp).1
  obtain ⟨c1, q1, q2, q3, q4⟩ := zm_links_3 d h ok hp bud left (c 682 (242 * p)).toNat 19998 0 c (by omega) (by omega) (LFr.rf c) (fun j hj => absurd hj (Nat.not_lt_zero j))
  obtain ⟨F, hF⟩ : ∃ F, 19998 - (c 682 (242 * p)).toNat = F + 1 := ⟨19998 - (c 682 (242 * p)).toNat - 1, by omega⟩
  obtain ⟨c2, r1, r2, r3⟩ := zm_links_37 d h ok hp bud left (c 682 (242 * p)).toNat F 0 c1 (-1) (by omega) (by omega) q2 q4 (fun j hj => absurd hj (Nat.not_lt_zero j)) q3 rfl
  refine ⟨c2, ?_, r2, r3⟩
  rw [ze_X12_links]
  have q1 : zex zc_X12_links zk_X12_links (zrun zTab (d + 5)) 19999 3 [(2, 681), (0, p), (0, left), (0, bud), (0, 0), (3, 0)] [] c = _ := q1
  rw [q1, hF]
  exact r1
theorem zm_links1 (h : MO c) (ok : MOK (c 682) 0) (hp : isP p) : ∃ c', zrun zTab (d + 7) 183 [681, p] c = some (0, c') ∧ LFr c c' ∧ ML c' (mview (c 682) 0) p (mview (c 682) 0 1 p) (-1) := by
  obtain ⟨c1, q1, q2⟩ := zm_linksB d h ok hp (c 682 (242 * p + 1)) (-1)
  refine ⟨c1, ?_, by rw [mw_1 hp]; exact q2⟩
  rw [ze_X12_links_, if_pos h.k, zm_budgetOf (d + 5) h hp, zbnd_some, if_pos h.k, q1, zbnd_some]
end
