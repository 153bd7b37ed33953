/-! The reference: the present row and its view; numbers, budgets, what goes, the snapshot, changes undone. -/
def mPg0 (f : Int → Int) (p : Int) : Prop := (0 ≤ f (242 * p) ∧ f (242 * p) ≤ 20) ∧ (0 ≤ f (242 * p + 1) ∧ f (242 * p + 1) ≤ 20) ∧ (∀ i, 0 ≤ i → i < f (242 * p) → (0 ≤ f (242 * p + 2 + 12 * i) ∧ f (242 * p + 2 + 12 * i) ≤ 3) ∧ mWd f (242 * p + 3 + 12 * i)) ∧ ∀ i j, 0 ≤ i → i ≤ j → j < f (242 * p) → f (242 * p + 2 + 12 * i) ≤ f (242 * p + 2 + 12 * j)
section
variable {f g : Int → Int} {A B : zA2} {p r s : Int}
theorem MOK.pg (h : MOK f 0) (hp : isP p) : mPg0 f p := by
  have := h.1 p hp
  unfold mPgOK at this
  simp only [Int.zero_add] at this
  exact this
theorem MOK.n4 (h : MOK f 0) : 0 ≤ f 968 ∧ f 968 ≤ 6 := h.2.1.1
theorem MOK.n9 (h : MOK f 0) : 0 ≤ f 1023 ∧ f 1023 ≤ 8 := h.2.2.1.1
theorem MOK.ru (h : MOK f 0) (h0 : 0 ≤ r) (h1 : r < f 968) : mRuOK f (969 + 9 * r) := by
  have := h.2.1.2 r h0 h1
  rw [show (0 : Int) + 969 + 9 * r = 969 + 9 * r by omega] at this
  exact this
theorem MOK.sn (h : MOK f 0) (h0 : 0 ≤ s) (h1 : s < f 1023) : mSnOK f (1024 + 57 * s) := by
  have := h.2.2.1.2 s h0 h1
  rw [show (0 : Int) + 1024 + 57 * s = 1024 + 57 * s by omega] at this
  exact this
theorem mw_0 (hp : isP p) : mview f 0 0 p = f (242 * p) := by rw [mv_0 hp.1 hp.2, Int.zero_add]
theorem mw_1 (hp : isP p) : mview f 0 1 p = f (242 * p + 1) := by rw [mv_1 hp.1 hp.2, Int.zero_add]
theorem mw_2 {i : Int} (hp : isP p) (h3 : 0 ≤ i) (h4 : i < 20) (h5 : i < f (242 * p)) : mview f 0 2 (20 * p + i) = f (242 * p + 2 + 12 * i) := by rw [mv_2 hp.1 hp.2 h3 h4 (by rw [Int.zero_add]; exact h5), Int.zero_add]
theorem mw_3 {i : Int} (hp : isP p) (h3 : 0 ≤ i) (h4 : i < 20) (h5 : i < f (242 * p)) : mview f 0 3 (20 * p + i) = mV f (242 * p + 3 + 12 * i) := by rw [mv_3 hp.1 hp.2 h3 h4 (by rw [Int.zero_add]; exact h5), Int.zero_add]
theorem mw_4 : mview f 0 4 0 = f 968 := rfl
theorem mw_5 (h0 : 0 ≤ r) (h1 : r < f 968) : mview f 0 5 r = mV f (969 + 9 * r) := by rw [mv_5 h0 h1, show (0 : Int) + 969 + 9 * r = 969 + 9 * r by omega]
theorem mw_6 (h0 : 0 ≤ r) (h1 : r < f 968) : mview f 0 6 r = mV f (974 + 9 * r) := by rw [mv_6 h0 h1, show (0 : Int) + 974 + 9 * r = 974 + 9 * r by omega]
theorem mw_7 (h0 : 0 ≤ r) (h1 : r < f 968) : mview f 0 7 r = f (969 + 9 * r) := by rw [mv_7 h0 h1, show (0 : Int) + 969 + 9 * r = 969 + 9 * r by omega]
theorem mw_8 (h0 : 0 ≤ r) (h1 : r < f 968) : mview f 0 8 r = f (974 + 9 * r) := by rw [mv_8 h0 h1, show (0 : Int) + 974 + 9 * r = 974 + 9 * r by omega]
theorem mw_9 : mview f 0 9 0 = f 1023 := rfl
theorem mw_10 (h0 : 0 ≤ s) (h1 : s < f 1023) : mview f 0 10 s = mV f (1024 + 57 * s) := by rw [mv_10 h0 h1, show (0 : Int) + 1024 + 57 * s = 1024 + 57 * s by omega]
theorem mw_11 (h0 : 0 ≤ s) (h1 : s < f 1023) : mview f 0 11 s = f (1035 + 57 * s) := by rw [mv_11 h0 h1, show (0 : Int) + 1035 + 57 * s = 1035 + 57 * s by omega]
theorem mw_12 {h : Int} (h0 : 0 ≤ s) (h1 : s < f 1023) (h3 : 0 ≤ h) (h4 : h < 4) (h5 : h < f (1035 + 57 * s)) : mview f 0 12 (4 * s + h) = mV f (1036 + 57 * s + 11 * h) := by rw [mv_12 h0 h1 h3 h4 (by rw [show (0 : Int) + 1035 + 57 * s = 1035 + 57 * s by omega]; exact h5), show (0 : Int) + 1036 + 57 * s + 11 * h = 1036 + 57 * s + 11 * h by omega]
theorem mw_13 (h0 : 0 ≤ s) (h1 : s < f 1023) : mview f 0 13 s = f (1080 + 57 * s) := by rw [mv_13 h0 h1, show (0 : Int) + 1080 + 57 * s = 1080 + 57 * s by omega]
theorem mw_14 : mview f 0 14 0 = f 1480 := rfl
theorem mw_15 : mview f 0 15 0 = f 1481 := rfl
/-- what is to be known of a row to know its view -/
theorem mput (hp : ∀ p, isP p → mPg0 g p ∧ g (242 * p) = B 0 p ∧ g (242 * p + 1) = B 1 p ∧ ∀ i, 0 ≤ i → i < 20 → i < g (242 * p) → g (242 * p + 2 + 12 * i) = B 2 (20 * p + i) ∧ mV g (242 * p + 3 + 12 * i) = B 3 (20 * p + i))
    (hr : (0 ≤ g 968 ∧ g 968 ≤ 6) ∧ g 968 = B 4 0) (hr2 : ∀ r, 0 ≤ r → r < g 968 → mRuOK g (969 + 9 * r) ∧ mV g (969 + 9 * r) = B 5 r ∧ mV g (974 + 9 * r) = B 6 r ∧ g (969 + 9 * r) = B 7 r ∧ g (974 + 9 * r) = B 8 r)
    (hs : (0 ≤ g 1023 ∧ g 1023 ≤ 8) ∧ g 1023 = B 9 0) (hs2 : ∀ s, 0 ≤ s → s < g 1023 → mSnOK g (1024 + 57 * s) ∧ mV g (1024 + 57 * s) = B 10 s ∧ g (1035 + 57 * s) = B 11 s ∧ g (1080 + 57 * s) = B 13 s ∧ ∀ h, 0 ≤ h → h < 4 → h < g (1035 + 57 * s) → mV g (1036 + 57 * s + 11 * h) = B 12 (4 * s + h))
    (hw : (0 ≤ g 1480 ∧ g 1480 ≤ 8) ∧ g 1480 = B 14 0) (hg : (0 ≤ g 1481 ∧ g 1481 ≤ 9) ∧ g 1481 = B 15 0) : MOK g 0 ∧ mview g 0 = vcut B := by
  refine ⟨⟨fun p q => ?_, ⟨hr.1, fun r r0 r1 => ?_⟩, ⟨hs.1, fun s s0 s1 => ?_⟩, hw.1, hg.1⟩, ?_⟩
  · unfold mPgOK
    simp only [Int.zero_add]
    exact (hp p q).1
  · rw [show (0 : Int) + 969 + 9 * r = 969 + 9 * r by omega]; exact (hr2 r r0 r1).1
  · rw [show (0 : Int) + 1024 + 57 * s = 1024 + 57 * s by omega]; exact (hs2 s s0 s1).1
  · unfold mview
    refine vcut_ext (fun p p0 p1 => ?_) (fun p i p0 p1 i0 i1 i2 => ?_) hr.2 (fun r r0 r1 => ?_) hs.2 (fun s s0 s1 => ?_) (fun s h s0 s1 x0 x1 x2 => ?_) hw.2 hg.2
    · show g (0 + 242 * p) = B 0 p ∧ g (0 + 242 * p + 1) = B 1 p
      rw [Int.zero_add]
      exact ⟨(hp p ⟨p0, p1⟩).2.1, (hp p ⟨p0, p1⟩).2.2.1⟩
    · have i2 : i < g (0 + 242 * p) := i2
      rw [Int.zero_add] at i2
      show g (0 + 242 * ((20 * p + i) / 20) + 2 + 12 * ((20 * p + i) % 20)) = _ ∧ mV g (0 + 242 * ((20 * p + i) / 20) + 3 + 12 * ((20 * p + i) % 20)) = _
      rw [show (20 * p + i) / 20 = p by omega, show (20 * p + i) % 20 = i by omega, Int.zero_add]
      exact (hp p ⟨p0, p1⟩).2.2.2 i i0 i1 i2
    · show mV g (0 + 969 + 9 * r) = _ ∧ mV g (0 + 974 + 9 * r) = _ ∧ g (0 + 969 + 9 * r) = _ ∧ g (0 + 974 + 9 * r) = _
      rw [show (0 : Int) + 969 + 9 * r = 969 + 9 * r by omega, show (0 : Int) + 974 + 9 * r = 974 + 9 * r by omega]
      exact (hr2 r r0 r1).2
    · show mV g (0 + 1024 + 57 * s) = _ ∧ g (0 + 1035 + 57 * s) = _ ∧ g (0 + 1080 + 57 * s) = _
      rw [show (0 : Int) + 1024 + 57 * s = 1024 + 57 * s by omega, show (0 : Int) + 1035 + 57 * s = 1035 + 57 * s by omega, show (0 : Int) + 1080 + 57 * s = 1080 + 57 * s by omega]
      exact ⟨(hs2 s s0 s1).2.1, (hs2 s s0 s1).2.2.1, (hs2 s s0 s1).2.2.2.1⟩
    · have x2 : h < g (0 + 1035 + 57 * s) := x2
      rw [show (0 : Int) + 1035 + 57 * s = 1035 + 57 * s by omega] at x2
      show mV g (0 + 1036 + 57 * ((4 * s + h) / 4) + 11 * ((4 * s + h) % 4)) = _
      rw [show (4 * s + h) / 4 = s by omega, show (4 * s + h) % 4 = h by omega, show (0 : Int) + 1036 + 57 * s + 11 * h = 1036 + 57 * s + 11 * h by omega]
      exact (hs2 s s0 s1).2.2.2.2 h x0 x1 x2
/-- pages, rules, senses whose numbers are the same -/
theorem mpg_same (h : MOK f 0) (hp : isP p) (e : ∀ k, 242 * p ≤ k → k < 242 * p + 242 → g k = f k) : mPg0 g p ∧ g (242 * p) = mview f 0 0 p ∧ g (242 * p + 1) = mview f 0 1 p ∧ ∀ i, 0 ≤ i → i < 20 → i < g (242 * p) → g (242 * p + 2 + 12 * i) = mview f 0 2 (20 * p + i) ∧ mV g (242 * p + 3 + 12 * i) = mview f 0 3 (20 * p + i) := by
  obtain ⟨h1, h2, h3, h4⟩ := h.pg hp
  have e0 := e (242 * p) (by omega) (by omega)
  have e1 := e (242 * p + 1) (by omega) (by omega)
  have w : ∀ i, 0 ≤ i → i < f (242 * p) → mWd g (242 * p + 3 + 12 * i) ∧ mV g (242 * p + 3 + 12 * i) = mV f (242 * p + 3 + 12 * i) := fun i i0 i1 => (h3 i i0 i1).2.eq (fun k k0 k1 => e _ (by omega) (by omega))
  unfold mPg0
  rw [e0, e1, mw_0 hp, mw_1 hp]
  refine ⟨⟨h1, h2, fun i i0 i1 => ⟨by rw [e _ (by omega) (by omega)]; exact (h3 i i0 i1).1, (w i i0 i1).1⟩, fun i j i0 ij j1 => by rw [e _ (by omega) (by omega), e _ (by omega) (by omega)]; exact h4 i j i0 ij j1⟩, rfl, rfl, fun i i0 i1 i2 => ?_⟩
  rw [mw_2 hp i0 i1 i2, mw_3 hp i0 i1 i2]
  exact ⟨e _ (by omega) (by omega), (w i i0 i2).2⟩
theorem mru_same {r2 : Int} (h : MOK f 0) (h0 : 0 ≤ r) (h1 : r < f 968) (e : ∀ k, 0 ≤ k → k < 9 → g (969 + 9 * r2 + k) = f (969 + 9 * r + k)) : mRuOK g (969 + 9 * r2) ∧ mV g (969 + 9 * r2) = mview f 0 5 r ∧ mV g (974 + 9 * r2) = mview f 0 6 r ∧ g (969 + 9 * r2) = mview f 0 7 r ∧ g (974 + 9 * r2) = mview f 0 8 r := by
  have q := (h.ru h0 h1).eq e
  rw [mw_5 h0 h1, mw_6 h0 h1, mw_7 h0 h1, mw_8 h0 h1, show 974 + 9 * r2 = 969 + 9 * r2 + 5 by omega, show 974 + 9 * r = 969 + 9 * r + 5 by omega]
  exact ⟨q.1, q.2.2.1, q.2.2.2.2, q.2.1, q.2.2.2.1⟩
theorem msn_same {s2 : Int} (h : MOK f 0) (h0 : 0 ≤ s) (h1 : s < f 1023) (e : ∀ k, 0 ≤ k → k < 57 → g (1024 + 57 * s2 + k) = f (1024 + 57 * s + k)) : mSnOK g (1024 + 57 * s2) ∧ mV g (1024 + 57 * s2) = mview f 0 10 s ∧ g (1035 + 57 * s2) = mview f 0 11 s ∧ g (1080 + 57 * s2) = mview f 0 13 s ∧ ∀ h, 0 ≤ h → h < 4 → h < g (1035 + 57 * s2) → mV g (1036 + 57 * s2 + 11 * h) = mview f 0 12 (4 * s + h) := by
  have q := (h.sn h0 h1).eq e
  rw [mw_10 h0 h1, mw_11 h0 h1, mw_13 h0 h1, show 1035 + 57 * s2 = 1024 + 57 * s2 + 11 by omega, show 1035 + 57 * s = 1024 + 57 * s + 11 by omega, show 1080 + 57 * s2 = 1024 + 57 * s2 + 56 by omega, show 1080 + 57 * s = 1024 + 57 * s + 56 by omega]
  refine ⟨q.1, q.2.1, q.2.2.1, q.2.2.2.1, fun x x0 x1 x2 => ?_⟩
  rw [q.2.2.1] at x2
  rw [mw_12 h0 h1 x0 x1 (by rw [show 1035 + 57 * s = 1024 + 57 * s + 11 by omega]; exact x2), show 1036 + 57 * s2 + 11 * x = 1024 + 57 * s2 + 12 + 11 * x by omega, show 1036 + 57 * s + 11 * x = 1024 + 57 * s + 12 + 11 * x by omega]
  exact q.2.2.2.2 x x0 x2
end
def MC (c : zC) (r : zR) (R : aR) : Prop := ∃ c', r = some (R.1, c') ∧ RM c' R.2 ∧ zlo c c'
theorem MC.of {c c' : zC} {v : Int} {τ : aS} {R : aR} (e : R = (v, τ)) (h : RM c' τ) (z : zlo c c') : MC c (some (v, c')) R := ⟨c', by rw [e], by rw [e]; exact h, z⟩
section
variable {c c' : zC} {σ : aS} {p s v w : Int} (d : Nat)
theorem RM.ok (h : RM c σ) : MOK (c 682) 0 ∧ mview (c 682) 0 = σ.1 := h.2.1.1
theorem RM.a0 (h : RM c σ) (hp : isP p) : σ.1 0 p = c 682 (242 * p) := by rw [← h.ok.2, mw_0 hp]
theorem RM.a1 (h : RM c σ) (hp : isP p) : σ.1 1 p = c 682 (242 * p + 1) := by rw [← h.ok.2, mw_1 hp]
theorem RM.a4 (h : RM c σ) : σ.1 4 0 = c 682 968 := by rw [← h.ok.2]; rfl
theorem RM.a9 (h : RM c σ) : σ.1 9 0 = c 682 1023 := by rw [← h.ok.2]; rfl
theorem RM.a14 (h : RM c σ) : σ.1 14 0 = c 682 1480 := by rw [← h.ok.2]; rfl
theorem RM.a15 (h : RM c σ) : σ.1 15 0 = c 682 1481 := by rw [← h.ok.2]; rfl
/-- one number of the present row has changed -/
theorem mset_num (h : MOK (c 682) 0) {k v : Int} (hk : k = 0 ∧ (0 ≤ v ∧ v ≤ 8) ∨ k = 1 ∧ 0 ≤ v ∧ v ≤ 9) : MOK (zup c 682 (1480 + k) v 682) 0 ∧ mview (zup c 682 (1480 + k) v 682) 0 = uNum (mview (c 682) 0) (14 + k) v := by
  have o : ∀ j, j ≠ 1480 + k → zup c 682 (1480 + k) v 682 j = c 682 j := fun j hj => zup_ne (Or.inr hj)
  have n4 := h.n4
  have n9 := h.n9
  have w := h.2.2.2
  have w1 : 0 ≤ c 682 1480 ∧ c 682 1480 ≤ 8 := w.1
  have w2 : 0 ≤ c 682 1481 ∧ c 682 1481 ≤ 9 := w.2
  refine mput (fun p hp => ?_) ?_ (fun r r0 r1 => ?_) ?_ (fun s s0 s1 => ?_) ?_ ?_
  · have q := mpg_same (g := zup c 682 (1480 + k) v 682) h hp (fun j j0 j1 => o j (by have := hp.2; omega))
    simp only [if_neg (show ¬ (0 : Int) = 14 + k by omega), if_neg (show ¬ (1 : Int) = 14 + k by omega), if_neg (show ¬ (2 : Int) = 14 + k by omega), if_neg (show ¬ (3 : Int) = 14 + k by omega)]
    exact q
  · rw [o 968 (by omega), if_neg (by omega)]; exact ⟨n4, rfl⟩
  · rw [o 968 (by omega)] at r1
    have q := mru_same (g := zup c 682 (1480 + k) v 682) (r2 := r) h r0 r1 (fun j j0 j1 => o _ (by omega))
    simp only [if_neg (show ¬ (5 : Int) = 14 + k by omega), if_neg (show ¬ (6 : Int) = 14 + k by omega), if_neg (show ¬ (7 : Int) = 14 + k by omega), if_neg (show ¬ (8 : Int) = 14 + k by omega)]
    exact q
  · rw [o 1023 (by omega), if_neg (by omega)]; exact ⟨n9, rfl⟩
  · rw [o 1023 (by omega)] at s1
    have q := msn_same (g := zup c 682 (1480 + k) v 682) (s2 := s) h s0 s1 (fun j j0 j1 => o _ (by omega))
    simp only [if_neg (show ¬ (10 : Int) = 14 + k by omega), if_neg (show ¬ (11 : Int) = 14 + k by omega), if_neg (show ¬ (12 : Int) = 14 + k by omega), if_neg (show ¬ (13 : Int) = 14 + k by omega)]
    exact q
  · by_cases e : k = 0
    · subst e
      rw [show (1480 : Int) + 0 = 1480 from rfl, zup_eq ⟨rfl, rfl⟩, if_pos (by decide)]
      exact ⟨by omega, rfl⟩
    · rw [o 1480 (by omega), if_neg (by omega)]; exact ⟨w1, rfl⟩
  · by_cases e : k = 1
    · subst e
      rw [show (1480 : Int) + 1 = 1481 from rfl, zup_eq ⟨rfl, rfl⟩, if_pos (by decide)]
      exact ⟨by omega, rfl⟩
    · rw [o 1481 (by omega), if_neg (by omega)]; exact ⟨w2, rfl⟩
theorem mset_bud (h : MOK (c 682) 0) (hp : isP p) (hv : 0 ≤ v ∧ v ≤ 20) : MOK (zup c 682 (242 * p + 1) v 682) 0 ∧ mview (zup c 682 (242 * p + 1) v 682) 0 = uBud (mview (c 682) 0) p v := by
  have p0 := hp.1
  have p1 := hp.2
  have o : ∀ j, j ≠ 242 * p + 1 → zup c 682 (242 * p + 1) v 682 j = c 682 j := fun j hj => zup_ne (Or.inr hj)
  have n4 := h.n4
  have n9 := h.n9
  refine mput (fun q hq => ?_) ?_ (fun r r0 r1 => ?_) ?_ (fun s s0 s1 => ?_) ?_ ?_
  · show mPg0 (zup c 682 (242 * p + 1) v 682) q ∧ _ = mview (c 682) 0 0 q ∧ _ = (if q = p then v else mview (c 682) 0 1 q) ∧ ∀ i, 0 ≤ i → i < 20 → i < zup c 682 (242 * p + 1) v 682 (242 * q) → _ = mview (c 682) 0 2 (20 * q + i) ∧ _ = mview (c 682) 0 3 (20 * q + i)
    by_cases e : q = p
    · subst e
      obtain ⟨h1, h2, h3, h4⟩ := h.pg hp
      have w : ∀ i, 0 ≤ i → i < c 682 (242 * q) → mWd (zup c 682 (242 * q + 1) v 682) (242 * q + 3 + 12 * i) ∧ mV (zup c 682 (242 * q + 1) v 682) (242 * q + 3 + 12 * i) = mV (c 682) (242 * q + 3 + 12 * i) := fun i i0 i1 => (h3 i i0 i1).2.eq (fun k k0 k1 => o _ (by omega))
      unfold mPg0
      rw [o (242 * q) (by omega), zup_eq ⟨rfl, rfl⟩, if_pos rfl, mw_0 hp]
      refine ⟨⟨h1, hv, fun i i0 i1 => ⟨by rw [o _ (by omega)]; exact (h3 i i0 i1).1, (w i i0 i1).1⟩, fun i j i0 ij j1 => by rw [o _ (by omega), o _ (by omega)]; exact h4 i j i0 ij j1⟩, rfl, rfl, fun i i0 i1 i2 => ?_⟩
      rw [mw_2 hp i0 i1 i2, mw_3 hp i0 i1 i2]
      exact ⟨o _ (by omega), (w i i0 i2).2⟩
    · rw [if_neg e]
      exact mpg_same h hq (fun j j0 j1 => o j (by have := hq.1; omega))
  · rw [o 968 (by omega)]; exact ⟨n4, rfl⟩
  · rw [o 968 (by omega)] at r1
    exact mru_same (r2 := r) h r0 r1 (fun j j0 j1 => o _ (by omega))
  · rw [o 1023 (by omega)]; exact ⟨n9, rfl⟩
  · rw [o 1023 (by omega)] at s1
    exact msn_same (s2 := s) h s0 s1 (fun j j0 j1 => o _ (by omega))
  · rw [o 1480 (by omega)]; exact ⟨h.2.2.2.1, rfl⟩
  · rw [o 1481 (by omega)]; exact ⟨h.2.2.2.2, rfl⟩
/-- numbers from a to b replaced by those w behind them -/
def zdl (c : zC) (w a b : Int) : zC := fun x k => if x = 682 ∧ a ≤ k ∧ k < b then c 682 (k + w) else c x k
theorem zdl_0 {a : Int} : zdl c w a a = c := by funext x k; unfold zdl; rw [if_neg (by omega)]
theorem zdl_up {a b : Int} (h : a ≤ b) : zup (zdl c w a b) 682 b (c 682 (b + w)) = zdl c w a (b + 1) := by
  funext x k
  unfold zdl
  by_cases e : x = 682 ∧ k = b
  · rw [zup_eq e, if_pos (by omega), e.2]
  · rw [zup_ne (by omega)]
    by_cases e2 : x = 682 ∧ a ≤ k ∧ k < b
    · rw [if_pos e2, if_pos (by omega)]
    · rw [if_neg e2, if_neg (by omega)]
theorem zdl_o {a b x k : Int} (h : x ≠ 682 ∨ k < a ∨ b ≤ k) : zdl c w a b x k = c x k := by unfold zdl; rw [if_neg (by omega)]
theorem zdl_i {a b k : Int} (h : a ≤ k) (h1 : k < b) : zdl c w a b 682 k = c 682 (k + w) := by unfold zdl; rw [if_pos ⟨rfl, h, h1⟩]
theorem zdl_ms {a b : Int} (h : 0 ≤ a) : MS c (zdl c w a b) := ⟨fun x k hk => zdl_o (by omega), fun k hk => zdl_o (Or.inl (by decide))⟩
theorem mdel_S (h : MOK (c 682) 0) (h0 : 0 ≤ s) (h1 : s < c 682 1023) : MOK (zdl (zup c 682 1023 (c 682 1023 - 1)) 57 (1024 + 57 * s) (1024 + 57 * (c 682 1023 - 1)) 682) 0 ∧ mview (zdl (zup c 682 1023 (c 682 1023 - 1)) 57 (1024 + 57 * s) (1024 + 57 * (c 682 1023 - 1)) 682) 0 = uDelS (mview (c 682) 0) s := by
  have n4 := h.n4
  have n9 := h.n9
  have o : ∀ j, j ≠ 1023 → (j < 1024 + 57 * s ∨ 1024 + 57 * (c 682 1023 - 1) ≤ j) → zdl (zup c 682 1023 (c 682 1023 - 1)) 57 (1024 + 57 * s) (1024 + 57 * (c 682 1023 - 1)) 682 j = c 682 j := fun j hj hj2 => by rw [zdl_o (by omega), zup_ne (by omega)]
  have oi : ∀ j, 1024 + 57 * s ≤ j → j < 1024 + 57 * (c 682 1023 - 1) → zdl (zup c 682 1023 (c 682 1023 - 1)) 57 (1024 + 57 * s) (1024 + 57 * (c 682 1023 - 1)) 682 j = c 682 (j + 57) := fun j hj hj2 => by rw [zdl_i hj hj2, zup_ne (by omega)]
  have om : zdl (zup c 682 1023 (c 682 1023 - 1)) 57 (1024 + 57 * s) (1024 + 57 * (c 682 1023 - 1)) 682 1023 = c 682 1023 - 1 := by rw [zdl_o (by omega), zup_eq ⟨rfl, rfl⟩]
  generalize zdl (zup c 682 1023 (c 682 1023 - 1)) 57 (1024 + 57 * s) (1024 + 57 * (c 682 1023 - 1)) 682 = g at o oi om ⊢
  unfold uDelS uSn
  refine mput (fun q hq => ?_) ?_ (fun r r0 r1 => ?_) ?_ (fun x x0 x1 => ?_) ?_ ?_
  · exact mpg_same h hq (fun j j0 j1 => by have := hq.2; exact o j (by omega) (by omega))
  · rw [o 968 (by omega) (by omega)]; exact ⟨n4, rfl⟩
  · rw [o 968 (by omega) (by omega)] at r1
    exact mru_same (r2 := r) h r0 r1 (fun j j0 j1 => o _ (by omega) (by omega))
  · rw [om]; exact ⟨by omega, rfl⟩
  · rw [om] at x1
    have e : ∀ k, 0 ≤ k → k < 57 → g (1024 + 57 * x + k) = c 682 (1024 + 57 * mSk s x + k) := fun k k0 k1 => by
      unfold mSk
      by_cases y : x < s
      · rw [if_pos y]; exact o _ (by omega) (by omega)
      · rw [if_neg y, oi _ (by omega) (by omega), show 1024 + 57 * x + k + 57 = 1024 + 57 * (x + 1) + k by omega]
    have q := msn_same h (s := mSk s x) (s2 := x) (by unfold mSk; split <;> omega) (by unfold mSk; split <;> omega) e
    show mSnOK g (1024 + 57 * x) ∧ mV g (1024 + 57 * x) = mview (c 682) 0 10 (mSk s x) ∧ g (1035 + 57 * x) = mview (c 682) 0 11 (mSk s x) ∧ g (1080 + 57 * x) = mview (c 682) 0 13 (mSk s x) ∧ ∀ h, 0 ≤ h → h < 4 → h < g (1035 + 57 * x) → mV g (1036 + 57 * x + 11 * h) = mview (c 682) 0 12 (4 * mSk s ((4 * x + h) / 4) + (4 * x + h) % 4)
    refine ⟨q.1, q.2.1, q.2.2.1, q.2.2.2.1, fun y y0 y1 y2 => ?_⟩
    rw [show (4 * x + y) / 4 = x by omega, show (4 * x + y) % 4 = y by omega]
    exact q.2.2.2.2 y y0 y1 y2
  · rw [o 1480 (by omega) (by omega)]; exact ⟨h.2.2.2.1, rfl⟩
  · rw [o 1481 (by omega) (by omega)]; exact ⟨h.2.2.2.2, rfl⟩
theorem mdel_R (h : MOK (c 682) 0) (h0 : 0 ≤ s) (h1 : s < c 682 968) : MOK (zdl (zup c 682 968 (c 682 968 - 1)) 9 (969 + 9 * s) (969 + 9 * (c 682 968 - 1)) 682) 0 ∧ mview (zdl (zup c 682 968 (c 682 968 - 1)) 9 (969 + 9 * s) (969 + 9 * (c 682 968 - 1)) 682) 0 = uDelR (mview (c 682) 0) s := by
  have n4 := h.n4
  have n9 := h.n9
  have o : ∀ j, j ≠ 968 → (j < 969 + 9 * s ∨ 969 + 9 * (c 682 968 - 1) ≤ j) → zdl (zup c 682 968 (c 682 968 - 1)) 9 (969 + 9 * s) (969 + 9 * (c 682 968 - 1)) 682 j = c 682 j := fun j hj hj2 => by rw [zdl_o (by omega), zup_ne (by omega)]
  have oi : ∀ j, 969 + 9 * s ≤ j → j < 969 + 9 * (c 682 968 - 1) → zdl (zup c 682 968 (c 682 968 - 1)) 9 (969 + 9 * s) (969 + 9 * (c 682 968 - 1)) 682 j = c 682 (j + 9) := fun j hj hj2 => by rw [zdl_i hj hj2, zup_ne (by omega)]
  have om : zdl (zup c 682 968 (c 682 968 - 1)) 9 (969 + 9 * s) (969 + 9 * (c 682 968 - 1)) 682 968 = c 682 968 - 1 := by rw [zdl_o (by omega), zup_eq ⟨rfl, rfl⟩]
  generalize zdl (zup c 682 968 (c 682 968 - 1)) 9 (969 + 9 * s) (969 + 9 * (c 682 968 - 1)) 682 = g at o oi om ⊢
  unfold uDelR uRl
  refine mput (fun q hq => ?_) ?_ (fun x x0 x1 => ?_) ?_ (fun r r0 r1 => ?_) ?_ ?_
  · exact mpg_same h hq (fun j j0 j1 => by have := hq.2; exact o j (by omega) (by omega))
  · rw [om]; exact ⟨by omega, rfl⟩
  · rw [om] at x1
    have e : ∀ k, 0 ≤ k → k < 9 → g (969 + 9 * x + k) = c 682 (969 + 9 * mSk s x + k) := fun k k0 k1 => by
      unfold mSk
      by_cases y : x < s
      · rw [if_pos y]; exact o _ (by omega) (by omega)
      · rw [if_neg y, oi _ (by omega) (by omega), show 969 + 9 * x + k + 9 = 969 + 9 * (x + 1) + k by omega]
    exact mru_same h (r := mSk s x) (r2 := x) (by unfold mSk; split <;> omega) (by unfold mSk; split <;> omega) e
  · rw [o 1023 (by omega) (by omega)]; exact ⟨n9, rfl⟩
  · rw [o 1023 (by omega) (by omega)] at r1
    exact msn_same (s2 := r) h r0 r1 (fun j j0 j1 => o _ (by omega) (by omega))
  · rw [o 1480 (by omega) (by omega)]; exact ⟨h.2.2.2.1, rfl⟩
  · rw [o 1481 (by omega) (by omega)]; exact ⟨h.2.2.2.2, rfl⟩
end
