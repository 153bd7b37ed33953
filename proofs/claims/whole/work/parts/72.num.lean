/-! The class itself: numbers, budgets, senses and rules that go. -/
section
variable {c c' : zC} {S : Int}
theorem st_num (h : LState c S) {k v : Int} (hk : k = 5 ∨ k = 6) : LState (zup c S k v) S ∧ (RulesOK c S → RulesOK (zup c S k v) S) ∧ cview (zup c S k v) S = uNum (cview c S) (k + 9) v := by
  have o : ∀ b k', (b ≠ S ∨ k' ≠ k) → zup c S k v b k' = c b k' := fun b k' q => zup_ne q
  have s0 := h.1
  have n3 := h.n3
  have n4 := h.n4
  refine ⟨h.mk2 (fun b k q => o b k (by omega)) (fun k q1 q2 => o S k (by omega)) (fun k => o _ k (by omega)) (fun k => o _ k (by omega)) (fun k => o _ k (by omega)) (fun p hp => ?_) (fun j j0 j1 => ?_) (by rw [o S 3 (by omega)]; exact h.n3) (by rw [o S 4 (by omega)]; exact h.n4), fun hr => hr.mk2 (o S 4 (by omega)) (fun k => o _ k (by omega)) (fun r r0 r1 k => ?_), ?_⟩
  · have hP := h.pg hp
    have := hp.1
    rw [o _ 0 (by omega), o _ 1 (by omega), o _ 2 (by omega)]
    exact ⟨rfl, rfl, hP.2.2.2.2.2⟩
  · have hs := h.sn j0 j1
    rw [o _ 1 (by omega), o _ 2 (by omega)]
    exact ⟨rfl, hs.2.2.2.2⟩
  · have := (h.rl r0 (by omega)).1
    exact o _ k (by omega)
  · unfold uNum
    refine cv_raw (fun p hp => ?_) (fun p i hp i0 i1 i2 => ?_) ?_ (fun r r0 r1 => ?_) ?_ (fun s s0 s1 => ?_) (fun s x s0 s1 x0 x1 x2 => ?_) ?_ ?_
    · have := hp.1
      rw [o _ 2 (by omega), o _ 3 (by omega), if_neg (by omega), if_neg (by omega), cv_0 hp.1 hp.2, cv_1 hp.1 hp.2]
      exact ⟨rfl, rfl⟩
    · have := hp.1
      rw [if_neg (by omega), cv_0 hp.1 hp.2] at i2
      rw [o _ i (by omega), o _ i (by omega), if_neg (by omega), if_neg (by omega), cv_2 hp.1 hp.2 i0 i1 i2, cv_3 hp.1 hp.2 i0 i1 i2]
      exact ⟨rfl, rfl⟩
    · rw [o S 4 (by omega), if_neg (by omega), cv_4]
    · rw [if_neg (by omega), cv_4] at r1
      have := (h.rl r0 (by omega)).1
      rw [o (S + 3) r (by omega), o _ 0 (by omega), o _ 1 (by omega), o _ 2 (by omega), o _ 3 (by omega), if_neg (by omega), if_neg (by omega), if_neg (by omega), if_neg (by omega), cv_5 r0 r1, cv_6 r0 r1, cv_7 r0 r1, cv_8 r0 r1]
      exact ⟨rfl, rfl, rfl, rfl⟩
    · rw [o S 3 (by omega), if_neg (by omega), cv_9]
    · rw [if_neg (by omega), cv_9] at s1
      have := (h.sn s0 (by omega)).1
      rw [o (S + 2) s (by omega), o _ 0 (by omega), o _ 2 (by omega), o _ 3 (by omega), if_neg (by omega), if_neg (by omega), if_neg (by omega), cv_10 s0 s1, cv_11 s0 s1, cv_13 s0 s1]
      exact ⟨rfl, rfl, rfl⟩
    · rw [if_neg (by omega), cv_9] at s1
      rw [if_neg (by omega), cv_11 s0 s1] at x2
      have := (h.sn s0 (by omega)).1
      rw [o (S + 2) s (by omega), o _ x (by omega), if_neg (by omega), cv_12 s0 s1 x0 x1 x2]
    · rcases hk with rfl | rfl
      · rw [zup_eq ⟨rfl, rfl⟩, if_pos (by decide)]
      · rw [o S 5 (by omega), if_neg (by omega), cv_14]
    · rcases hk with rfl | rfl
      · rw [o S 6 (by omega), if_neg (by omega), cv_15]
      · rw [zup_eq ⟨rfl, rfl⟩, if_pos (by decide)]
theorem st_bud (h : LState c S) {p v : Int} (hp : isP p) : LState (zup c (S + 4 + 3 * p) 3 v) S ∧ (RulesOK c S → RulesOK (zup c (S + 4 + 3 * p) 3 v) S) ∧ cview (zup c (S + 4 + 3 * p) 3 v) S = uBud (cview c S) p v := by
  have o : ∀ b k', (b ≠ S + 4 + 3 * p ∨ k' ≠ 3) → zup c (S + 4 + 3 * p) 3 v b k' = c b k' := fun b k' q => zup_ne q
  have s0 := h.1
  have p0 := hp.1
  have p1 := hp.2
  have n3 := h.n3
  have n4 := h.n4
  refine ⟨h.mk2 (fun b k q => o b k (by omega)) (fun k q1 q2 => o S k (by omega)) (fun k => o _ k (by omega)) (fun k => o _ k (by omega)) (fun k => o _ k (by omega)) (fun q hq => ?_) (fun j j0 j1 => ?_) (by rw [o S 3 (by omega)]; exact h.n3) (by rw [o S 4 (by omega)]; exact h.n4), fun hr => hr.mk2 (o S 4 (by omega)) (fun k => o _ k (by omega)) (fun r r0 r1 k => ?_), ?_⟩
  · have hP := h.pg hq
    rw [o _ 0 (by omega), o _ 1 (by omega), o _ 2 (by omega)]
    exact ⟨rfl, rfl, hP.2.2.2.2.2⟩
  · have hs := h.sn j0 j1
    rw [o _ 1 (by omega), o _ 2 (by omega)]
    exact ⟨rfl, hs.2.2.2.2⟩
  · have := (h.rl r0 (by omega)).1
    exact o _ k (by omega)
  · unfold uBud
    refine cv_raw (fun q hq => ?_) (fun q i hq i0 i1 i2 => ?_) ?_ (fun r r0 r1 => ?_) ?_ (fun s s0 s1 => ?_) (fun s x s0 s1 x0 x1 x2 => ?_) ?_ ?_
    · have := hq.1
      rw [o _ 2 (by omega), if_neg (by omega), if_pos rfl, cv_0 hq.1 hq.2, cv_1 hq.1 hq.2]
      refine ⟨rfl, ?_⟩
      by_cases e : q = p
      · rw [if_pos e, e, zup_eq ⟨rfl, rfl⟩]
      · rw [if_neg e, o _ 3 (by omega)]
    · have := hq.1
      rw [if_neg (by omega), cv_0 hq.1 hq.2] at i2
      rw [o _ i (by omega), o _ i (by omega), if_neg (by omega), if_neg (by omega), cv_2 hq.1 hq.2 i0 i1 i2, cv_3 hq.1 hq.2 i0 i1 i2]
      exact ⟨rfl, rfl⟩
    · rw [o S 4 (by omega), if_neg (by omega), cv_4]
    · rw [if_neg (by omega), cv_4] at r1
      have := (h.rl r0 (by omega)).1
      rw [o (S + 3) r (by omega), o _ 0 (by omega), o _ 1 (by omega), o _ 2 (by omega), o _ 3 (by omega), if_neg (by omega), if_neg (by omega), if_neg (by omega), if_neg (by omega), cv_5 r0 r1, cv_6 r0 r1, cv_7 r0 r1, cv_8 r0 r1]
      exact ⟨rfl, rfl, rfl, rfl⟩
    · rw [o S 3 (by omega), if_neg (by omega), cv_9]
    · rw [if_neg (by omega), cv_9] at s1
      have := (h.sn s0 (by omega)).1
      rw [o (S + 2) s (by omega), o _ 0 (by omega), o _ 2 (by omega), o _ 3 (by omega), if_neg (by omega), if_neg (by omega), if_neg (by omega), cv_10 s0 s1, cv_11 s0 s1, cv_13 s0 s1]
      exact ⟨rfl, rfl, rfl⟩
    · rw [if_neg (by omega), cv_9] at s1
      rw [if_neg (by omega), cv_11 s0 s1] at x2
      have := (h.sn s0 (by omega)).1
      rw [o (S + 2) s (by omega), o _ x (by omega), if_neg (by omega), cv_12 s0 s1 x0 x1 x2]
    · rw [o S 5 (by omega), if_neg (by omega), cv_14]
    · rw [o S 6 (by omega), if_neg (by omega), cv_15]
/-- a row whose entry i has gone behind the n that are left -/
def mPi (i n j : Int) : Int := if j < i then j else if j < n then j + 1 else if j = n then i else j
theorem mPi_ok {i n j m : Int} (hi : 0 ≤ i) (hin : i ≤ n) (hn : n < m) (j0 : 0 ≤ j) (j1 : j < m) : 0 ≤ mPi i n j ∧ mPi i n j < m := by
  unfold mPi; split; omega; split; omega; split <;> omega
theorem mPi_ne {i n j k : Int} (hi : 0 ≤ i) (hin : i ≤ n) (h : j < k) : mPi i n j ≠ mPi i n k := by
  unfold mPi; split <;> split <;> (try split) <;> (try split) <;> (try split) <;> (try split) <;> omega
theorem mPi_lt {i n j : Int} (j1 : j < n) : mPi i n j = mSk i j := by
  unfold mPi mSk; split; rfl; rfl
/-- the heap behind a row's entry that has gone -/
def zdr (c : zC) (S a m i n : Int) : zC := zup (zup (zdn c a i n) S m n) a n (c a i)
theorem zdr_row {a m i n k : Int} (ha : a ≠ S) (hi : 0 ≤ i) (hin : i ≤ n) (k0 : 0 ≤ k) : zdr c S a m i n a k = c a (mPi i n k) := by
  unfold zdr mPi
  by_cases e : k = n
  · rw [zup_eq ⟨rfl, e⟩, if_neg (by omega), if_neg (by omega), if_pos e]
  · rw [zup_ne (by omega), zup_ne (by omega)]
    by_cases e4 : k < i
    · rw [if_pos e4, zdn_o (by omega)]
    · rw [if_neg e4]
      by_cases e5 : k < n
      · rw [if_pos e5, zdn_i (by omega) e5]
      · rw [if_neg e5, if_neg e, zdn_o (by omega)]
theorem zdr_o {a m i n b k : Int} (hb : b ≠ a) (hk : b ≠ S ∨ k ≠ m) : zdr c S a m i n b k = c b k := by
  unfold zdr; rw [zup_ne (by omega), zup_ne (by omega), zdn_o (by omega)]
theorem zdr_m {a m i n : Int} (ha : a ≠ S) : zdr c S a m i n S m = n := by
  unfold zdr; rw [zup_ne (by omega), zup_eq ⟨rfl, rfl⟩]
theorem zdr_neg {a m i n b k : Int} (hi : 0 ≤ i) (hin : i ≤ n) (hm : 0 ≤ m) (hk : k < 0) : zdr c S a m i n b k = c b k := by
  unfold zdr; rw [zup_ne (by omega), zup_ne (by omega), zdn_o (by omega)]
theorem st_dropS (h : LState c S) {i : Int} (hi : 0 ≤ i) (hin : i < c S 3) : LState (zdr c S (S + 2) 3 i (c S 3 - 1)) S ∧ (RulesOK c S → RulesOK (zdr c S (S + 2) 3 i (c S 3 - 1)) S) ∧ cview (zdr c S (S + 2) 3 i (c S 3 - 1)) S = uDelS (cview c S) i := by
  have n3 := h.n3
  have n4 := h.n4
  have s0 := h.1
  have o : ∀ b, b ≠ S + 2 → ∀ k, (b ≠ S ∨ k ≠ 3) → zdr c S (S + 2) 3 i (c S 3 - 1) b k = c b k := fun b hb k hk => zdr_o hb hk
  have on : ∀ b k, k < 0 → zdr c S (S + 2) 3 i (c S 3 - 1) b k = c b k := fun b k hk => zdr_neg hi (by omega) (by decide) hk
  have om : zdr c S (S + 2) 3 i (c S 3 - 1) S 3 = c S 3 - 1 := zdr_m (by omega)
  have row : ∀ k, 0 ≤ k → zdr c S (S + 2) 3 i (c S 3 - 1) (S + 2) k = c (S + 2) (mPi i (c S 3 - 1) k) := fun k k0 => zdr_row (by omega) hi (by omega) k0
  have pi : ∀ k, 0 ≤ k → k < 8 → 0 ≤ mPi i (c S 3 - 1) k ∧ mPi i (c S 3 - 1) k < 8 := fun k k0 k1 => mPi_ok hi (by omega) (by omega) k0 k1
  generalize zdr c S (S + 2) 3 i (c S 3 - 1) = c' at o on om row ⊢
  refine ⟨?_, fun hr => hr.mk2 (o S (by omega) 4 (by omega)) (fun k => o _ (by omega) k (by omega)) (fun r r0 r1 k => ?_), ?_⟩
  · obtain ⟨g0, g1, g2, g3, g4, ⟨a1, a2⟩, ⟨b1, b2⟩, ⟨d1, d2⟩, hP, hS, hS2, hR, hR2, -⟩ := id h
    refine ⟨g0, by rw [on _ _ (by decide)]; exact g1, by rw [o S (by omega) 0 (by omega)]; exact g2, by rw [o S (by omega) 1 (by omega)]; exact g3, by rw [o S (by omega) 2 (by omega)]; exact g4, ⟨by rw [on _ _ (by decide)]; exact a1, by rw [on _ _ (by decide)]; exact a2⟩, ⟨by rw [on _ _ (by decide)]; exact b1, by rw [on _ _ (by decide)]; exact b2⟩, ⟨by rw [on _ _ (by decide)]; exact d1, by rw [on _ _ (by decide)]; exact d2⟩, fun p p0 p1 => ?_, fun j j0 j1 => ?_, fun x y x0 xy y1 => ?_, fun j j0 j1 => ?_, fun x y x0 xy y1 => ?_, by rw [om]; omega, by rw [om]; omega, by rw [o S (by omega) 4 (by omega)]; exact n4.1, by rw [o S (by omega) 4 (by omega)]; exact n4.2⟩
    · obtain ⟨q1, q2, q3, q4, q5, q6, q7⟩ := hP p p0 p1
      unfold LArr at q5 q6
      rw [o _ (by omega) p (by omega)]
      exact ⟨q1, by rw [on _ _ (by decide)]; exact q2, by rw [o _ (by omega) _ (by omega)]; exact q3, by rw [o _ (by omega) _ (by omega)]; exact q4, ⟨by rw [on _ _ (by decide)]; exact q5.1, by rw [on _ _ (by decide)]; exact q5.2⟩, ⟨by rw [on _ _ (by decide)]; exact q6.1, by rw [on _ _ (by decide)]; exact q6.2⟩, by rw [o _ (by omega) _ (by omega)]; exact q7⟩
    · have := pi j j0 j1
      obtain ⟨q1, q2, q3, q4, q5⟩ := hS _ this.1 this.2
      unfold LArr at q4
      rw [row j j0]
      exact ⟨q1, by rw [on _ _ (by decide)]; exact q2, by rw [o _ (by omega) _ (by omega)]; exact q3, ⟨by rw [on _ _ (by decide)]; exact q4.1, by rw [on _ _ (by decide)]; exact q4.2⟩, by rw [o _ (by omega) _ (by omega)]; exact q5⟩
    · rw [row x x0, row y (by omega)]
      have px := pi x x0 (by omega)
      have py := pi y (by omega) y1
      have := mPi_ne (n := c S 3 - 1) hi (by omega) xy
      by_cases e : mPi i (c S 3 - 1) x < mPi i (c S 3 - 1) y
      · exact hS2 _ _ px.1 e py.2
      · exact fun q => hS2 _ _ py.1 (by omega) px.2 q.symm
    · have := (hR j j0 j1).1
      rw [o _ (by omega) j (by omega), on _ _ (by decide)]
      exact hR j j0 j1
    · rw [o _ (by omega) x (by omega), o _ (by omega) y (by omega)]
      exact hR2 x y x0 xy y1
  · have := (h.rl r0 (by omega)).1
    exact o _ (by omega) k (by omega)
  · unfold uDelS uSn
    refine cv_raw (fun p hp => ?_) (fun p i hp i0 i1 i2 => ?_) ?_ (fun r r0 r1 => ?_) ?_ (fun s s0 s1 => ?_) (fun s x s0 s1 x0 x1 x2 => ?_) ?_ ?_
    · have := hp.1
      have := hp.2
      rw [o _ (by omega) 2 (by omega), o _ (by omega) 3 (by omega)]
      exact ⟨(cv_0 hp.1 hp.2).symm, (cv_1 hp.1 hp.2).symm⟩
    · have := hp.1
      have := hp.2
      have i2 : i < cview c S 0 p := i2
      rw [cv_0 hp.1 hp.2] at i2
      rw [o _ (by omega) i (by omega), o _ (by omega) i (by omega)]
      exact ⟨(cv_2 hp.1 hp.2 i0 i1 i2).symm, (cv_3 hp.1 hp.2 i0 i1 i2).symm⟩
    · exact (o S (by omega) 4 (by omega)).trans cv_4.symm
    · have r1 : r < cview c S 4 0 := r1
      rw [cv_4] at r1
      have := (h.rl r0 (by omega)).1
      rw [o (S + 3) (by omega) r (by omega), o _ (by omega) 0 (by omega), o _ (by omega) 1 (by omega), o _ (by omega) 2 (by omega), o _ (by omega) 3 (by omega)]
      exact ⟨(cv_5 r0 r1).symm, (cv_6 r0 r1).symm, (cv_7 r0 r1).symm, (cv_8 r0 r1).symm⟩
    · rw [om]
      show c S 3 - 1 = cview c S 9 0 - 1
      rw [cv_9]
    · have s1 : s < cview c S 9 0 - 1 := s1
      rw [cv_9] at s1
      have e := mPi_lt (i := i) s1
      have pp := pi s s0 (by omega)
      have q := (h.sn pp.1 pp.2).1
      have pl : mPi i (c S 3 - 1) s < c S 3 := by rw [e]; unfold mSk; split <;> omega
      rw [row s s0, o _ (by omega) 0 (by omega), o _ (by omega) 2 (by omega), o _ (by omega) 3 (by omega)]
      show _ = cview c S 10 (mSk i s) ∧ _ = cview c S 11 (mSk i s) ∧ _ = cview c S 13 (mSk i s)
      rw [← e]
      exact ⟨(cv_10 pp.1 pl).symm, (cv_11 pp.1 pl).symm, (cv_13 pp.1 pl).symm⟩
    · have s1 : s < cview c S 9 0 - 1 := s1
      rw [cv_9] at s1
      have e := mPi_lt (i := i) s1
      have pp := pi s s0 (by omega)
      have q := (h.sn pp.1 pp.2).1
      have pl : mPi i (c S 3 - 1) s < c S 3 := by rw [e]; unfold mSk; split <;> omega
      have x2 : x < cview c S 11 (mSk i s) := x2
      rw [← e, cv_11 pp.1 pl] at x2
      rw [row s s0, o _ (by omega) x (by omega)]
      show _ = cview c S 12 (4 * mSk i ((4 * s + x) / 4) + (4 * s + x) % 4)
      rw [show (4 * s + x) / 4 = s by omega, show (4 * s + x) % 4 = x by omega, ← e]
      exact (cv_12 pp.1 pl x0 x1 x2).symm
    · exact (o S (by omega) 5 (by omega)).trans cv_14.symm
    · exact (o S (by omega) 6 (by omega)).trans cv_15.symm
theorem st_dropR (h : LState c S) {i : Int} (hi : 0 ≤ i) (hin : i < c S 4) : LState (zdr c S (S + 3) 4 i (c S 4 - 1)) S ∧ (RulesOK c S → RulesOK (zdr c S (S + 3) 4 i (c S 4 - 1)) S) ∧ cview (zdr c S (S + 3) 4 i (c S 4 - 1)) S = uDelR (cview c S) i := by
  have n3 := h.n3
  have n4 := h.n4
  have s0 := h.1
  have o : ∀ b, b ≠ S + 3 → ∀ k, (b ≠ S ∨ k ≠ 4) → zdr c S (S + 3) 4 i (c S 4 - 1) b k = c b k := fun b hb k hk => zdr_o hb hk
  have on : ∀ b k, k < 0 → zdr c S (S + 3) 4 i (c S 4 - 1) b k = c b k := fun b k hk => zdr_neg hi (by omega) (by decide) hk
  have om : zdr c S (S + 3) 4 i (c S 4 - 1) S 4 = c S 4 - 1 := zdr_m (by omega)
  have row : ∀ k, 0 ≤ k → zdr c S (S + 3) 4 i (c S 4 - 1) (S + 3) k = c (S + 3) (mPi i (c S 4 - 1) k) := fun k k0 => zdr_row (by omega) hi (by omega) k0
  have pi : ∀ k, 0 ≤ k → k < 6 → 0 ≤ mPi i (c S 4 - 1) k ∧ mPi i (c S 4 - 1) k < 6 := fun k k0 k1 => mPi_ok hi (by omega) (by omega) k0 k1
  generalize zdr c S (S + 3) 4 i (c S 4 - 1) = c' at o on om row ⊢
  refine ⟨?_, fun hr r r1 => ?_, ?_⟩
  · obtain ⟨g0, g1, g2, g3, g4, ⟨a1, a2⟩, ⟨b1, b2⟩, ⟨d1, d2⟩, hP, hS, hS2, hR, hR2, -⟩ := id h
    refine ⟨g0, by rw [on _ _ (by decide)]; exact g1, by rw [o S (by omega) 0 (by omega)]; exact g2, by rw [o S (by omega) 1 (by omega)]; exact g3, by rw [o S (by omega) 2 (by omega)]; exact g4, ⟨by rw [on _ _ (by decide)]; exact a1, by rw [on _ _ (by decide)]; exact a2⟩, ⟨by rw [on _ _ (by decide)]; exact b1, by rw [on _ _ (by decide)]; exact b2⟩, ⟨by rw [on _ _ (by decide)]; exact d1, by rw [on _ _ (by decide)]; exact d2⟩, fun p p0 p1 => ?_, fun j j0 j1 => ?_, fun x y x0 xy y1 => ?_, fun j j0 j1 => ?_, fun x y x0 xy y1 => ?_, by rw [o S (by omega) 3 (by omega)]; exact n3.1, by rw [o S (by omega) 3 (by omega)]; exact n3.2, by rw [om]; omega, by rw [om]; omega⟩
    · obtain ⟨q1, q2, q3, q4, q5, q6, q7⟩ := hP p p0 p1
      unfold LArr at q5 q6
      rw [o _ (by omega) p (by omega)]
      exact ⟨q1, by rw [on _ _ (by decide)]; exact q2, by rw [o _ (by omega) _ (by omega)]; exact q3, by rw [o _ (by omega) _ (by omega)]; exact q4, ⟨by rw [on _ _ (by decide)]; exact q5.1, by rw [on _ _ (by decide)]; exact q5.2⟩, ⟨by rw [on _ _ (by decide)]; exact q6.1, by rw [on _ _ (by decide)]; exact q6.2⟩, by rw [o _ (by omega) _ (by omega)]; exact q7⟩
    · obtain ⟨q1, q2, q3, q4, q5⟩ := hS _ j0 j1
      unfold LArr at q4
      rw [o _ (by omega) j (by omega)]
      exact ⟨q1, by rw [on _ _ (by decide)]; exact q2, by rw [o _ (by omega) _ (by omega)]; exact q3, ⟨by rw [on _ _ (by decide)]; exact q4.1, by rw [on _ _ (by decide)]; exact q4.2⟩, by rw [o _ (by omega) _ (by omega)]; exact q5⟩
    · rw [o _ (by omega) x (by omega), o _ (by omega) y (by omega)]
      exact hS2 x y x0 xy y1
    · have := pi j j0 j1
      rw [row j j0, on _ _ (by decide)]
      exact hR _ this.1 this.2
    · rw [row x x0, row y (by omega)]
      have px := pi x x0 (by omega)
      have py := pi y (by omega) y1
      have := mPi_ne (n := c S 4 - 1) hi (by omega) xy
      by_cases e : mPi i (c S 4 - 1) x < mPi i (c S 4 - 1) y
      · exact hR2 _ _ px.1 e py.2
      · exact fun q => hR2 _ _ py.1 (by omega) px.2 q.symm
  · rw [om] at r1
    have e := mPi_lt (i := i) r1
    have pp := pi r (by omega) (by omega)
    have q := (h.rl pp.1 pp.2).1
    have pl : mPi i (c S 4 - 1) r < c S 4 := by rw [e]; unfold mSk; split <;> omega
    rw [row r (by omega)]
    have := hr (mPi i (c S 4 - 1) r).toNat (by omega)
    rw [show ((mPi i (c S 4 - 1) r).toNat : Int) = mPi i (c S 4 - 1) r by omega] at this
    exact this.same (fun k => o _ (by omega) k (by omega))
  · unfold uDelR uRl
    refine cv_raw (fun p hp => ?_) (fun p i hp i0 i1 i2 => ?_) ?_ (fun r r0 r1 => ?_) ?_ (fun s s0 s1 => ?_) (fun s x s0 s1 x0 x1 x2 => ?_) ?_ ?_
    · have := hp.1
      have := hp.2
      rw [o _ (by omega) 2 (by omega), o _ (by omega) 3 (by omega)]
      exact ⟨(cv_0 hp.1 hp.2).symm, (cv_1 hp.1 hp.2).symm⟩
    · have := hp.1
      have := hp.2
      have i2 : i < cview c S 0 p := i2
      rw [cv_0 hp.1 hp.2] at i2
      rw [o _ (by omega) i (by omega), o _ (by omega) i (by omega)]
      exact ⟨(cv_2 hp.1 hp.2 i0 i1 i2).symm, (cv_3 hp.1 hp.2 i0 i1 i2).symm⟩
    · rw [om]
      show c S 4 - 1 = cview c S 4 0 - 1
      rw [cv_4]
    · have r1 : r < cview c S 4 0 - 1 := r1
      rw [cv_4] at r1
      have e := mPi_lt (i := i) r1
      have pp := pi r r0 (by omega)
      have q := (h.rl pp.1 pp.2).1
      have pl : mPi i (c S 4 - 1) r < c S 4 := by rw [e]; unfold mSk; split <;> omega
      rw [row r r0, o _ (by omega) 0 (by omega), o _ (by omega) 1 (by omega), o _ (by omega) 2 (by omega), o _ (by omega) 3 (by omega)]
      show _ = cview c S 5 (mSk i r) ∧ _ = cview c S 6 (mSk i r) ∧ _ = cview c S 7 (mSk i r) ∧ _ = cview c S 8 (mSk i r)
      rw [← e]
      exact ⟨(cv_5 pp.1 pl).symm, (cv_6 pp.1 pl).symm, (cv_7 pp.1 pl).symm, (cv_8 pp.1 pl).symm⟩
    · exact (o S (by omega) 3 (by omega)).trans cv_9.symm
    · have s1 : s < cview c S 9 0 := s1
      rw [cv_9] at s1
      have := (h.sn s0 (by omega)).1
      rw [o (S + 2) (by omega) s (by omega), o _ (by omega) 0 (by omega), o _ (by omega) 2 (by omega), o _ (by omega) 3 (by omega)]
      exact ⟨(cv_10 s0 s1).symm, (cv_11 s0 s1).symm, (cv_13 s0 s1).symm⟩
    · have s1 : s < cview c S 9 0 := s1
      rw [cv_9] at s1
      have x2 : x < cview c S 11 s := x2
      rw [cv_11 s0 s1] at x2
      have := (h.sn s0 (by omega)).1
      rw [o (S + 2) (by omega) s (by omega), o _ (by omega) x (by omega)]
      exact (cv_12 s0 s1 x0 x1 x2).symm
    · exact (o S (by omega) 5 (by omega)).trans cv_14.symm
    · exact (o S (by omega) 6 (by omega)).trans cv_15.symm
end
section
variable {c : zC} {σ : aS} {p i k w s v : Int} (d : Nat)
theorem G_par (h : RC c σ) : GC c (zrun zTab (d + 40) 105 [2, w, v] c) (aPar σ w v) := by
  obtain ⟨⟨l1, -, ⟨s1, -⟩, -⟩, ⟨v1, -⟩, -⟩ := id h
  rw [ze_X11_parameter]
  unfold aPar
  by_cases e1 : w < 0
  · rw [if_pos e1, if_pos (by omega)]
    exact ⟨c, rfl, h, zfr.rf c⟩
  rw [if_neg e1]
  by_cases e2 : w ≤ 1
  · rw [if_pos e2, if_neg (show ¬ ¬ (0 ≤ w ∧ w ≤ 1) by omega)]
    by_cases e3 : v < 0
    · rw [if_pos e3, if_pos (by omega)]
      exact ⟨c, rfl, h, zfr.rf c⟩
    rw [if_neg e3]
    obtain ⟨c1, r1, r2, r3, r4, r5, r6⟩ := G_start (d + 34) h
    have s2 := r2.1.2.2.1
    have x1 := r2.2.1.1
    by_cases e4 : w = 0
    · subst e4
      rw [if_pos rfl, if_pos rfl, ze_X11_parameter_27]
      by_cases e5 : v ≤ 8
      · obtain ⟨y1, y2, y3⟩ := st_num (v := v) s2.1 (Or.inl rfl)
        rw [x1] at y3
        rw [if_pos e5, if_neg (show ¬ ¬ (0 ≤ v ∧ v ≤ 8) by omega), if_pos rfl, if_pos l1.1, l1.2.2.1, if_pos s1.2.1, if_pos l1.1, r1, zbnd_some, if_pos rfl, if_pos r2.1.1.1, r2.1.1.2.2.1, if_pos s2.1.2.1]
        refine ⟨_, ?_, RC.st r2 r3 (fun b hb k => zup_ne (by omega)) y1 (y2 s2.2) y3, r4.tr (fun b hb k => zup_ne (by omega))⟩
        rw [← cv_14 (c := c) (S := 11), v1]; rfl
      · rw [if_neg e5, if_pos (by omega)]
        exact ⟨c, rfl, h, zfr.rf c⟩
    · obtain rfl : w = 1 := by omega
      rw [if_neg e4, if_neg e4, ze_X11_parameter_27]
      by_cases e5 : v ≤ 9
      · obtain ⟨y1, y2, y3⟩ := st_num (v := v) s2.1 (Or.inr rfl)
        rw [x1] at y3
        rw [if_pos e5, if_neg (show ¬ ¬ (0 ≤ v ∧ v ≤ 9) by omega), if_neg e4, if_pos l1.1, l1.2.2.1, if_pos s1.2.1, if_pos l1.1, r1, zbnd_some, if_neg e4, if_pos r2.1.1.1, r2.1.1.2.2.1, if_pos s2.1.2.1]
        refine ⟨_, ?_, RC.st r2 r3 (fun b hb k => zup_ne (by omega)) y1 (y2 s2.2) y3, r4.tr (fun b hb k => zup_ne (by omega))⟩
        rw [← cv_15 (c := c) (S := 11), v1]; rfl
      · rw [if_neg e5, if_pos (by omega)]
        exact ⟨c, rfl, h, zfr.rf c⟩
  · rw [if_neg e2, if_pos (by omega)]
    exact ⟨c, rfl, h, zfr.rf c⟩
theorem G_bud (h : RC c σ) : GC c (zrun zTab (d + 40) 106 [2, p, v] c) (aBud σ p v) := by
  obtain ⟨⟨l1, -, ⟨s1, -⟩, -⟩, ⟨v1, -⟩, -⟩ := id h
  rw [ze_X11_budget, if_pos l1.1, l1.2.2.1, if_pos s1.2.1, zs_T_pageAt (d + 38) c s1, zbnd_some]
  unfold aBud
  by_cases hp : isP p
  · have p0 := hp.1
    have p1 := hp.2
    rw [if_pos (show 0 ≤ p ∧ p < 4 from hp), if_neg (by omega), if_neg (show ¬ ¬ isP p from fun q => q hp)]
    by_cases e3 : v < 0
    · rw [if_pos e3, if_pos (by omega)]
      exact ⟨c, rfl, h, zfr.rf c⟩
    rw [if_neg e3]
    by_cases e4 : v ≤ 20
    · obtain ⟨c1, r1, r2, r3, r4, r5, r6⟩ := G_start (d + 34) h
      have s2 := r2.1.2.2.1
      have x1 := r2.2.1.1
      obtain ⟨y1, y2, y3⟩ := st_bud (v := v) s2.1 hp
      rw [x1] at y3
      rw [if_pos e4, if_neg (show ¬ ¬ (0 ≤ v ∧ v ≤ 20) by omega), if_pos (s1.pg hp).1, if_pos l1.1, r1, zbnd_some, if_pos (s2.1.pg hp).1]
      refine ⟨_, ?_, RC.st r2 r3 (fun b hb k => zup_ne (by omega)) y1 (y2 s2.2) y3, r4.tr (fun b hb k => zup_ne (by omega))⟩
      rw [← cv_1 (c := c) (S := 11) hp.1 hp.2, v1]
    · rw [if_neg e4, if_pos (by omega)]
      exact ⟨c, rfl, h, zfr.rf c⟩
  · rw [if_neg (show ¬ (0 ≤ p ∧ p < 4) from hp), if_pos rfl, if_pos (show ¬ isP p from hp)]
    exact ⟨c, rfl, h, zfr.rf c⟩
theorem RC.a4 (h : RC c σ) : σ.1 4 0 = c 11 4 := by rw [← h.2.1.1, cv_4]
theorem G_rmS (h : RC c σ) : GC c (zrun zTab (d + 40) 103 [2, s] c) (aRmS σ s) := by
  obtain ⟨⟨l1, -, ⟨s1, -⟩, -⟩, ⟨v1, -⟩, -⟩ := id h
  rw [ze_X11_removeSense, if_pos l1.1, l1.2.2.1, if_pos s1.2.1, zs_T_senseAt (d + 38) c s1, zbnd_some, ← h.a9]
  unfold aRmS
  by_cases e : 0 ≤ s ∧ s < σ.1 9 0
  · have n3 := s1.n3
    rw [← h.a9] at n3
    obtain ⟨c1, r1, r2, r3, r4, r5, r6⟩ := G_start (d + 34) h
    have s2 := r2.1.2.2.1
    have x1 := r2.2.1.1
    have a9 : σ.1 9 0 = c1 11 3 := r2.a9
    obtain ⟨y1, y2, y3⟩ := st_dropS s2.1 e.1 (by rw [← a9]; exact e.2)
    rw [x1] at y3
    have q := (s1.sn e.1 (by omega)).1
    have z2 : ∀ k, zdr c1 11 (11 + 2) 3 s (c1 11 3 - 1) 2 k = c1 2 k := fun k => zdr_o (by decide) (Or.inl (by decide))
    have run := zs_T_dropSense (d + 37) c1 s2.1 e.1 (by rw [← a9]; exact e.2)
    rw [if_pos e, if_pos e, if_neg (by omega), if_pos l1.1, r1, zbnd_some, if_pos r2.1.1.1, r2.1.1.2.2.1, if_pos s2.1.2.1, run, zbnd_some]
    show GC c (if zdr c1 11 (11 + 2) 3 s (c1 11 3 - 1) 2 (-1) = 11 then if zdr c1 11 (11 + 2) 3 s (c1 11 3 - 1) (zdr c1 11 (11 + 2) 3 s (c1 11 3 - 1) 2 1) (-1) = 9 then some (zdr c1 11 (11 + 2) 3 s (c1 11 3 - 1) (zdr c1 11 (11 + 2) 3 s (c1 11 3 - 1) 2 1) 3, zdr c1 11 (11 + 2) 3 s (c1 11 3 - 1)) else none else none) _
    rw [z2, z2, if_pos r2.1.1.1, r2.1.1.2.2.1, if_pos y1.2.1, zdr_m (by decide), ← a9]
    rw [a9]
    exact ⟨_, rfl, RC.st r2 r3 (fun b hb k => zdr_o (by omega) (by omega)) y1 (y2 s2.2) y3, r4.tr (fun b hb k => zdr_o (by omega) (by omega))⟩
  · rw [if_neg e, if_neg e, if_pos rfl]
    exact ⟨c, rfl, h, zfr.rf c⟩
theorem G_rmR (h : RC c σ) : GC c (zrun zTab (d + 40) 104 [2, s] c) (aRmR σ s) := by
  obtain ⟨⟨l1, -, ⟨s1, -⟩, -⟩, ⟨v1, -⟩, -⟩ := id h
  rw [ze_X11_removeRule, if_pos l1.1, l1.2.2.1, if_pos s1.2.1, zs_T_ruleAt (d + 38) c s1, zbnd_some, ← h.a4]
  unfold aRmR
  by_cases e : 0 ≤ s ∧ s < σ.1 4 0
  · have n3 := s1.n4
    rw [← h.a4] at n3
    obtain ⟨c1, r1, r2, r3, r4, r5, r6⟩ := G_start (d + 34) h
    have s2 := r2.1.2.2.1
    have x1 := r2.2.1.1
    have a9 : σ.1 4 0 = c1 11 4 := r2.a4
    obtain ⟨y1, y2, y3⟩ := st_dropR s2.1 e.1 (by rw [← a9]; exact e.2)
    rw [x1] at y3
    have q := (s1.rl e.1 (by omega)).1
    have z2 : ∀ k, zdr c1 11 (11 + 3) 4 s (c1 11 4 - 1) 2 k = c1 2 k := fun k => zdr_o (by decide) (Or.inl (by decide))
    have run := zs_T_dropRule (d + 37) c1 s2.1 e.1 (by rw [← a9]; exact e.2)
    rw [if_pos e, if_pos e, if_neg (by omega), if_pos l1.1, r1, zbnd_some, if_pos r2.1.1.1, r2.1.1.2.2.1, if_pos s2.1.2.1, run, zbnd_some]
    show GC c (if zdr c1 11 (11 + 3) 4 s (c1 11 4 - 1) 2 (-1) = 11 then if zdr c1 11 (11 + 3) 4 s (c1 11 4 - 1) (zdr c1 11 (11 + 3) 4 s (c1 11 4 - 1) 2 1) (-1) = 9 then some (zdr c1 11 (11 + 3) 4 s (c1 11 4 - 1) (zdr c1 11 (11 + 3) 4 s (c1 11 4 - 1) 2 1) 4, zdr c1 11 (11 + 3) 4 s (c1 11 4 - 1)) else none else none) _
    rw [z2, z2, if_pos r2.1.1.1, r2.1.1.2.2.1, if_pos y1.2.1, zdr_m (by decide), ← a9]
    rw [a9]
    exact ⟨_, rfl, RC.st r2 r3 (fun b hb k => zdr_o (by omega) (by omega)) y1 (y2 s2.2) y3, r4.tr (fun b hb k => zdr_o (by omega) (by omega))⟩
  · rw [if_neg e, if_neg e, if_pos rfl]
    exact ⟨c, rfl, h, zfr.rf c⟩
end
