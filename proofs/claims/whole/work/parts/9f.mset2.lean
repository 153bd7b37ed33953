/-! The reference: a page behind an edit. -/
section
variable {f0 g : Int → Int} {p i v : Int}
theorem pgw (h : MOK f0 0) (hp : isP p) {j b : Int} (j0 : 0 ≤ j) (j1 : j < f0 (242 * p)) (e : ∀ x, 0 ≤ x → x < 12 → g (b + x) = f0 (242 * p + 2 + 12 * j + x)) : (0 ≤ mview f0 0 2 (20 * p + j) ∧ mview f0 0 2 (20 * p + j) ≤ 3) ∧ g b = mview f0 0 2 (20 * p + j) ∧ mWd g (b + 1) ∧ mV g (b + 1) = mview f0 0 3 (20 * p + j) := by
  obtain ⟨n20, -, h3, -⟩ := h.pg hp
  obtain ⟨a1, a2⟩ := h3 j j0 j1
  have e0 := e 0 (by decide) (by decide)
  rw [Int.add_zero, Int.add_zero] at e0
  have m := a2.eq (g := g) (b := b + 1) (fun x x0 x1 => by
    have := e (1 + x) (by omega) (by omega)
    rw [show b + 1 + x = b + (1 + x) by omega, show 242 * p + 3 + 12 * j + x = 242 * p + 2 + 12 * j + (1 + x) by omega]
    exact this)
  rw [mw_2 hp j0 (by omega) j1, mw_3 hp j0 (by omega) j1]
  exact ⟨a1, e0, m.1, m.2⟩
theorem pgs (h : MOK f0 0) (hp : isP p) {j k : Int} (j0 : 0 ≤ j) (jk : j ≤ k) (k1 : k < f0 (242 * p)) : mview f0 0 2 (20 * p + j) ≤ mview f0 0 2 (20 * p + k) := by
  obtain ⟨n20, -, -, h4⟩ := h.pg hp
  rw [mw_2 hp j0 (by omega) (by omega), mw_2 hp (by omega) (by omega) k1]
  exact h4 j k j0 jk k1
theorem mset_rep (h : MOK f0 0) (hp : isP p) (hi : 0 ≤ i ∧ i < f0 (242 * p)) (o : ∀ k, (k ≤ 242 * p + 2 + 12 * i ∨ 242 * p + 2 + 12 * i + 12 ≤ k) → g k = f0 k) (w1 : mWd g (242 * p + 3 + 12 * i)) (w2 : mV g (242 * p + 3 + 12 * i) = v) : MOK g 0 ∧ mview g 0 = uRep (mview f0 0) p i v := by
  obtain ⟨n20, -, h3, -⟩ := h.pg hp
  unfold uRep
  rw [mw_0 hp]
  refine mset_pg h hp (fun k hk => o k (by omega)) (o _ (by omega)) n20 (fun k k0 k1 => ?_) (fun j k j0 jk k1 => pgs h hp j0 jk k1)
  by_cases x : k = i
  · subst x
    rw [if_pos rfl, o _ (by omega), mw_2 hp k0 (by omega) k1]
    exact ⟨(h3 k k0 k1).1, rfl, w1, w2⟩
  · have q := pgw (g := g) (b := 242 * p + 2 + 12 * k) h hp k0 k1 (fun y y0 y1 => o _ (by omega))
    rw [show 242 * p + 2 + 12 * k + 1 = 242 * p + 3 + 12 * k by omega] at q
    rw [if_neg x]
    exact q
theorem mset_ins (h : MOK f0 0) (hp : isP p) (hi : 0 ≤ i ∧ i ≤ f0 (242 * p)) (hn : f0 (242 * p) < 20) (o : ∀ k, (k < 242 * p ∨ 242 * p < k ∧ k < 242 * p + 2 + 12 * i ∨ 242 * p + 242 ≤ k) → g k = f0 k) (e0 : g (242 * p) = f0 (242 * p) + 1) (es : g (242 * p + 2 + 12 * i) = mSecIns (mview f0 0) p i) (w1 : mWd g (242 * p + 3 + 12 * i)) (w2 : mV g (242 * p + 3 + 12 * i) = v) (sh : ∀ k, 242 * p + 2 + 12 * i ≤ k → k < 242 * p + 2 + 12 * f0 (242 * p) → g (k + 12) = f0 k) : MOK g 0 ∧ mview g 0 = uIns (mview f0 0) p i v := by
  obtain ⟨n20, -, h3, -⟩ := h.pg hp
  have si : (0 ≤ mSecIns (mview f0 0) p i ∧ mSecIns (mview f0 0) p i ≤ 3) ∧ (∀ k, 0 ≤ k → k < i → mview f0 0 2 (20 * p + k) ≤ mSecIns (mview f0 0) p i) ∧ ∀ k, i ≤ k → k < f0 (242 * p) → mSecIns (mview f0 0) p i ≤ mview f0 0 2 (20 * p + k) := by
    unfold mSecIns
    rw [mw_0 hp]
    by_cases x : i < f0 (242 * p)
    · rw [if_pos x]
      exact ⟨(pgw h hp hi.1 x (fun _ _ _ => rfl)).1, fun k k0 k1 => pgs h hp k0 (by omega) x, fun k k0 k1 => pgs h hp hi.1 k0 k1⟩
    · rw [if_neg x]
      by_cases y : f0 (242 * p) = 0
      · rw [if_pos y]
        exact ⟨by decide, fun k k0 k1 => by omega, fun k k0 k1 => by omega⟩
      · rw [if_neg y]
        exact ⟨(pgw h hp (j := f0 (242 * p) - 1) (by omega) (by omega) (fun _ _ _ => rfl)).1, fun k k0 k1 => pgs h hp k0 (by omega) (by omega), fun k k0 k1 => by omega⟩
  unfold uIns
  rw [mw_0 hp]
  refine mset_pg h hp (fun k hk => o k (by omega)) e0 (by omega) (fun k k0 k1 => ?_) (fun j k j0 jk k1 => ?_)
  · by_cases x : k < i
    · have q := pgw (g := g) (b := 242 * p + 2 + 12 * k) h hp k0 (by omega) (fun y y0 y1 => o _ (by omega))
      rw [show 242 * p + 2 + 12 * k + 1 = 242 * p + 3 + 12 * k by omega] at q
      rw [if_pos x, if_pos x]
      exact q
    · by_cases y : k = i
      · subst y
        rw [if_neg x, if_pos rfl, if_neg x, if_pos rfl]
        exact ⟨si.1, es, w1, w2⟩
      · have q := pgw (g := g) (b := 242 * p + 2 + 12 * k) (j := k - 1) h hp (by omega) (by omega) (fun y y0 y1 => by
          rw [show 242 * p + 2 + 12 * k + y = 242 * p + 2 + 12 * (k - 1) + y + 12 by omega]
          exact sh _ (by omega) (by omega))
        rw [show 242 * p + 2 + 12 * k + 1 = 242 * p + 3 + 12 * k by omega] at q
        rw [if_neg x, if_neg y, if_neg x, if_neg y]
        exact q
  · show (if j < i then mview f0 0 2 (20 * p + j) else if j = i then mSecIns (mview f0 0) p i else mview f0 0 2 (20 * p + (j - 1))) ≤ (if k < i then mview f0 0 2 (20 * p + k) else if k = i then mSecIns (mview f0 0) p i else mview f0 0 2 (20 * p + (k - 1)))
    by_cases x : j < i
    · rw [if_pos x]
      by_cases x2 : k < i
      · rw [if_pos x2]; exact pgs h hp j0 jk (by omega)
      · rw [if_neg x2]
        by_cases y2 : k = i
        · rw [if_pos y2]; exact si.2.1 j j0 x
        · rw [if_neg y2]; exact pgs h hp j0 (by omega) (by omega)
    · rw [if_neg x, if_neg (show ¬ k < i by omega)]
      by_cases y : j = i
      · rw [if_pos y]
        by_cases y2 : k = i
        · rw [if_pos y2]; exact Int.le_refl _
        · rw [if_neg y2]; exact si.2.2 _ (by omega) (by omega)
      · rw [if_neg y, if_neg (show ¬ k = i by omega)]; exact pgs h hp (by omega) (by omega) (by omega)
theorem mset_cut (h : MOK f0 0) (hp : isP p) (hi : 0 ≤ i ∧ i < f0 (242 * p)) (al : Prop) [Decidable al] (hal : al ↔ mAl (mview f0 0) p i) (o : ∀ k, (k < 242 * p ∨ 242 * p < k ∧ k < 242 * p + 2 + 12 * i ∨ 242 * p + 242 ≤ k) → g k = f0 k) (e0 : g (242 * p) = f0 (242 * p) - 1) (sh : ∀ j x, i ≤ j → j < f0 (242 * p) - 1 → 0 ≤ x → x < 12 → g (242 * p + 2 + 12 * j + x) = f0 (242 * p + 2 + 12 * (j + 1) + x) - (if x = 0 ∧ al then 1 else 0)) : MOK g 0 ∧ mview g 0 = uCut (mview f0 0) p i := by
  obtain ⟨n20, -, h3, -⟩ := h.pg hp
  have sec : ∀ k, 0 ≤ k → k < f0 (242 * p) → k ≠ i → al → (mview f0 0 2 (20 * p + i) < mview f0 0 2 (20 * p + k) ↔ i < k) := fun k k0 k1 ki a => by
    have ne := (hal.mp a) k k0 (by rw [mw_0 hp]; exact k1) ki
    constructor
    · intro q
      by_cases z : i < k
      · exact z
      · have := pgs h hp k0 (show k ≤ i by omega) hi.2; omega
    · intro q
      have := pgs h hp hi.1 (show i ≤ k by omega) k1; omega
  -- the sections behind the cut
  have key : ∀ k, 0 ≤ k → k < f0 (242 * p) - 1 → ∀ D : Decidable (mAl (mview f0 0) p i ∧ mview f0 0 2 (20 * p + i) < (if k < i then mview f0 0 2 (20 * p + k) else mview f0 0 2 (20 * p + (k + 1)))), @ite Int _ D ((if k < i then mview f0 0 2 (20 * p + k) else mview f0 0 2 (20 * p + (k + 1))) - 1) (if k < i then mview f0 0 2 (20 * p + k) else mview f0 0 2 (20 * p + (k + 1))) = (if k < i then mview f0 0 2 (20 * p + k) else mview f0 0 2 (20 * p + (k + 1)) - (if al then 1 else 0)) := fun k k0 k1 D => by
    by_cases x : k < i
    · simp only [if_pos x]
      rw [if_neg (fun q => by
        have a := hal.mpr q.1
        have u := q.2
        rw [if_pos x] at u
        have := (sec k k0 (by omega) (by omega) a).mp u
        omega)]
    · simp only [if_neg x]
      by_cases a : al
      · rw [if_pos ⟨hal.mp a, by rw [if_neg x]; exact (sec (k + 1) (by omega) (by omega) (by omega) a).mpr (by omega)⟩, if_pos a]
      · rw [if_neg (fun q => a (hal.mpr q.1)), if_neg a, Int.sub_zero]
  have lowest : ∀ k, i ≤ k → k < f0 (242 * p) - 1 → al → 1 ≤ mview f0 0 2 (20 * p + (k + 1)) := fun k k0 k1 a => by
    have u := (sec (k + 1) (by omega) (by omega) (by omega) a).mpr (by omega)
    have := (pgw h hp hi.1 hi.2 (fun _ _ _ => rfl)).1.1
    omega
  unfold uCut
  rw [mw_0 hp]
  refine mset_pg h hp (fun k hk => o k (by omega)) e0 (by omega) (fun k k0 k1 => ?_) (fun j k j0 jk k1 => ?_)
  · rw [key k k0 k1]
    by_cases x : k < i
    · have q := pgw (g := g) (b := 242 * p + 2 + 12 * k) h hp k0 (by omega) (fun y y0 y1 => o _ (by omega))
      rw [show 242 * p + 2 + 12 * k + 1 = 242 * p + 3 + 12 * k by omega] at q
      rw [if_pos x, if_pos x]
      exact q
    · have q := pgw (g := fun y => f0 (y + 12)) (b := 242 * p + 2 + 12 * k) (j := k + 1) h hp (by omega) (by omega) (fun y y0 y1 => by
        show f0 (242 * p + 2 + 12 * k + y + 12) = _
        rw [show 242 * p + 2 + 12 * k + y + 12 = 242 * p + 2 + 12 * (k + 1) + y by omega])
      have m := q.2.2.1.eq (g := g) (b := 242 * p + 3 + 12 * k) (fun y y0 y1 => by
        have := sh k (1 + y) (by omega) k1 (by omega) (by omega)
        rw [if_neg (by omega), Int.sub_zero] at this
        rw [show 242 * p + 3 + 12 * k + y = 242 * p + 2 + 12 * k + (1 + y) by omega, this]
        show _ = f0 (242 * p + 2 + 12 * k + 1 + y + 12)
        rw [show 242 * p + 2 + 12 * k + 1 + y + 12 = 242 * p + 2 + 12 * (k + 1) + (1 + y) by omega])
      have s0 := sh k 0 (by omega) k1 (by decide) (by decide)
      have q1 : f0 (242 * p + 2 + 12 * k + 12) = mview f0 0 2 (20 * p + (k + 1)) := q.2.1
      rw [Int.add_zero, Int.add_zero, show 242 * p + 2 + 12 * (k + 1) = 242 * p + 2 + 12 * k + 12 by omega, q1] at s0
      rw [if_neg x, if_neg x]
      by_cases a : al
      · have := lowest k (by omega) k1 a
        have := q.1
        rw [if_pos ⟨rfl, a⟩] at s0
        rw [if_pos a]
        exact ⟨by omega, s0, m.1, m.2.trans q.2.2.2⟩
      · rw [if_neg (fun u => a u.2)] at s0
        rw [if_neg a]
        exact ⟨by have := q.1; omega, s0, m.1, m.2.trans q.2.2.2⟩
  · rw [key j j0 (by omega), key k (by omega) k1]
    by_cases x : j < i
    · rw [if_pos x]
      by_cases x2 : k < i
      · rw [if_pos x2]; exact pgs h hp j0 jk (by omega)
      · rw [if_neg x2]
        have a1 := pgs h hp j0 (show j ≤ i by omega) hi.2
        have a2 := pgs h hp hi.1 (show i ≤ k + 1 by omega) (by omega)
        by_cases a : al
        · have := (sec (k + 1) (by omega) (by omega) (by omega) a).mpr (by omega)
          rw [if_pos a]; omega
        · rw [if_neg a]; omega
    · have a2 := pgs h hp (show 0 ≤ j + 1 by omega) (show j + 1 ≤ k + 1 by omega) (by omega)
      rw [if_neg x, if_neg (show ¬ k < i by omega)]
      omega
end
