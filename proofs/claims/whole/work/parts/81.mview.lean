/-! The reference's view of a row of numbers. -/
/-- a word stands in f at a: its length, its letters -/
def mWd (f : Int → Int) (a : Int) : Prop := 1 ≤ f a ∧ f a ≤ 10 ∧ zlet f (a + 1) (f a).toNat
def mV (f : Int → Int) (a : Int) : Int := zenc f (a + 1) (f a).toNat
theorem zlet_congr {f g : Int → Int} {a b : Int} {n : Nat} (h : zlet f a n) (e : ∀ k : Nat, k < n → g (b + k) = f (a + k)) : zlet g b n := fun k hk => by rw [e k hk]; exact h k hk
theorem mWd.eq {f g : Int → Int} {a b : Int} (h : mWd f a) (e : ∀ k, 0 ≤ k → k ≤ 10 → g (b + k) = f (a + k)) : mWd g b ∧ mV g b = mV f a := by
  obtain ⟨h1, h2, h3⟩ := h
  have e0 : g b = f a := by have := e 0 (by decide) (by decide); rw [Int.add_zero, Int.add_zero] at this; exact this
  have ek : ∀ k : Nat, k < (f a).toNat → g (b + 1 + k) = f (a + 1 + k) := fun k hk => by
    have := e (1 + k) (by omega) (by omega)
    rw [show b + 1 + (k : Int) = b + (1 + k) by omega, show a + 1 + (k : Int) = a + (1 + k) by omega]
    exact this
  refine ⟨⟨by rw [e0]; exact h1, by rw [e0]; exact h2, by rw [e0]; exact zlet_congr h3 ek⟩, ?_⟩
  unfold mV
  rw [e0]
  exact zenc_congr ek
theorem mWd.wf {f : Int → Int} {a : Int} (h : mWd f a) : mwf (f a).toNat (mV f a) := zenc_wf h.2.2
theorem mWd.ex {f : Int → Int} {a : Int} (h : mWd f a) : ∃ n : Nat, 1 ≤ n ∧ n ≤ 10 ∧ mwf n (mV f a) := by
  have h1 := h.1
  have h2 := h.2.1
  exact ⟨(f a).toNat, by omega, by omega, h.wf⟩
def mraw (f : Int → Int) (o : Int) : zA2 := fun t k =>
  if t = 0 then f (o + 242 * k) else if t = 1 then f (o + 242 * k + 1) else if t = 2 then f (o + 242 * (k / 20) + 2 + 12 * (k % 20)) else if t = 3 then mV f (o + 242 * (k / 20) + 3 + 12 * (k % 20))
  else if t = 4 then f (o + 968) else if t = 5 then mV f (o + 969 + 9 * k) else if t = 6 then mV f (o + 974 + 9 * k) else if t = 7 then f (o + 969 + 9 * k) else if t = 8 then f (o + 974 + 9 * k)
  else if t = 9 then f (o + 1023) else if t = 10 then mV f (o + 1024 + 57 * k) else if t = 11 then f (o + 1035 + 57 * k) else if t = 12 then mV f (o + 1036 + 57 * (k / 4) + 11 * (k % 4)) else if t = 13 then f (o + 1080 + 57 * k)
  else if t = 14 then f (o + 1480) else f (o + 1481)
def mview (f : Int → Int) (o : Int) : zA2 := vcut (mraw f o)
section
variable {f g : Int → Int} {o o2 p i s h k : Int}
theorem mv_0 (h1 : 0 ≤ p) (h2 : p < 4) : mview f o 0 p = f (o + 242 * p) := vc_0 h1 h2
theorem mv_1 (h1 : 0 ≤ p) (h2 : p < 4) : mview f o 1 p = f (o + 242 * p + 1) := vc_1 h1 h2
theorem mv_2 (h1 : 0 ≤ p) (h2 : p < 4) (h3 : 0 ≤ i) (h4 : i < 20) (h5 : i < f (o + 242 * p)) : mview f o 2 (20 * p + i) = f (o + 242 * p + 2 + 12 * i) := by
  unfold mview
  rw [vc_2 h1 h2 h3 h4 h5]
  show f (o + 242 * ((20 * p + i) / 20) + 2 + 12 * ((20 * p + i) % 20)) = _
  rw [show (20 * p + i) / 20 = p by omega, show (20 * p + i) % 20 = i by omega]
theorem mv_3 (h1 : 0 ≤ p) (h2 : p < 4) (h3 : 0 ≤ i) (h4 : i < 20) (h5 : i < f (o + 242 * p)) : mview f o 3 (20 * p + i) = mV f (o + 242 * p + 3 + 12 * i) := by
  unfold mview
  rw [vc_3 h1 h2 h3 h4 h5]
  show mV f (o + 242 * ((20 * p + i) / 20) + 3 + 12 * ((20 * p + i) % 20)) = _
  rw [show (20 * p + i) / 20 = p by omega, show (20 * p + i) % 20 = i by omega]
theorem mv_4 : mview f o 4 0 = f (o + 968) := rfl
theorem mv_5 (h1 : 0 ≤ k) (h2 : k < f (o + 968)) : mview f o 5 k = mV f (o + 969 + 9 * k) := vc_5 h1 h2
theorem mv_6 (h1 : 0 ≤ k) (h2 : k < f (o + 968)) : mview f o 6 k = mV f (o + 974 + 9 * k) := vc_6 h1 h2
theorem mv_7 (h1 : 0 ≤ k) (h2 : k < f (o + 968)) : mview f o 7 k = f (o + 969 + 9 * k) := vc_7 h1 h2
theorem mv_8 (h1 : 0 ≤ k) (h2 : k < f (o + 968)) : mview f o 8 k = f (o + 974 + 9 * k) := vc_8 h1 h2
theorem mv_9 : mview f o 9 0 = f (o + 1023) := rfl
theorem mv_10 (h1 : 0 ≤ k) (h2 : k < f (o + 1023)) : mview f o 10 k = mV f (o + 1024 + 57 * k) := vc_10 h1 h2
theorem mv_11 (h1 : 0 ≤ k) (h2 : k < f (o + 1023)) : mview f o 11 k = f (o + 1035 + 57 * k) := vc_11 h1 h2
theorem mv_12 (h1 : 0 ≤ s) (h2 : s < f (o + 1023)) (h3 : 0 ≤ h) (h4 : h < 4) (h5 : h < f (o + 1035 + 57 * s)) : mview f o 12 (4 * s + h) = mV f (o + 1036 + 57 * s + 11 * h) := by
  unfold mview
  rw [vc_12 h1 h2 h3 h4 h5]
  show mV f (o + 1036 + 57 * ((4 * s + h) / 4) + 11 * ((4 * s + h) % 4)) = _
  rw [show (4 * s + h) / 4 = s by omega, show (4 * s + h) % 4 = h by omega]
theorem mv_13 (h1 : 0 ≤ k) (h2 : k < f (o + 1023)) : mview f o 13 k = f (o + 1080 + 57 * k) := vc_13 h1 h2
theorem mv_14 : mview f o 14 0 = f (o + 1480) := rfl
theorem mv_15 : mview f o 15 0 = f (o + 1481) := rfl
def mPgOK (f : Int → Int) (o p : Int) : Prop := (0 ≤ f (o + 242 * p) ∧ f (o + 242 * p) ≤ 20) ∧ (0 ≤ f (o + 242 * p + 1) ∧ f (o + 242 * p + 1) ≤ 20) ∧ (∀ i, 0 ≤ i → i < f (o + 242 * p) → (0 ≤ f (o + 242 * p + 2 + 12 * i) ∧ f (o + 242 * p + 2 + 12 * i) ≤ 3) ∧ mWd f (o + 242 * p + 3 + 12 * i)) ∧
  ∀ i j, 0 ≤ i → i ≤ j → j < f (o + 242 * p) → f (o + 242 * p + 2 + 12 * i) ≤ f (o + 242 * p + 2 + 12 * j)
def mRuOK (f : Int → Int) (a : Int) : Prop := (1 ≤ f a ∧ f a ≤ 4 ∧ zlet f (a + 1) (f a).toNat) ∧ 0 ≤ f (a + 5) ∧ f (a + 5) ≤ 3 ∧ zlet f (a + 6) (f (a + 5)).toNat
def mSnOK (f : Int → Int) (a : Int) : Prop := mWd f a ∧ (0 ≤ f (a + 11) ∧ f (a + 11) ≤ 4) ∧ (∀ h, 0 ≤ h → h < f (a + 11) → mWd f (a + 12 + 11 * h)) ∧ (f (a + 56) = -5 ∨ 0 ≤ f (a + 56) ∧ f (a + 56) ≤ 3)
def MOK (f : Int → Int) (o : Int) : Prop := (∀ p, isP p → mPgOK f o p) ∧ ((0 ≤ f (o + 968) ∧ f (o + 968) ≤ 6) ∧ ∀ r, 0 ≤ r → r < f (o + 968) → mRuOK f (o + 969 + 9 * r)) ∧ ((0 ≤ f (o + 1023) ∧ f (o + 1023) ≤ 8) ∧ ∀ s, 0 ≤ s → s < f (o + 1023) → mSnOK f (o + 1024 + 57 * s)) ∧ (0 ≤ f (o + 1480) ∧ f (o + 1480) ≤ 8) ∧ (0 ≤ f (o + 1481) ∧ f (o + 1481) ≤ 9)
theorem MOK.v (h : MOK f o) : VOK (mview f o) := by
  obtain ⟨h1, ⟨h2, h3⟩, ⟨h4, h5⟩, h6, h7⟩ := h
  refine ⟨fun p p0 p1 => ?_, ⟨h2, fun r r0 r1 => ?_⟩, ⟨h4, fun s s0 s1 => ?_⟩, h6, h7⟩
  · obtain ⟨a1, a2, a3, a4⟩ := h1 p ⟨p0, p1⟩
    rw [mv_0 p0 p1, mv_1 p0 p1]
    refine ⟨a1, a2, fun i i0 i1 => ?_, fun i j i0 ij j1 => ?_⟩
    · rw [mv_2 p0 p1 i0 (by omega) i1, mv_3 p0 p1 i0 (by omega) i1]
      exact ⟨(a3 i i0 i1).1, (a3 i i0 i1).2.ex⟩
    · rw [mv_2 p0 p1 i0 (by omega) (by omega), mv_2 p0 p1 (by omega) (by omega) j1]
      exact a4 i j i0 ij j1
  · have r1 : r < f (o + 968) := r1
    obtain ⟨⟨a1, a2, a3⟩, a4, a5, a6⟩ := h3 r r0 r1
    rw [mv_5 r0 r1, mv_6 r0 r1, mv_7 r0 r1, mv_8 r0 r1]
    rw [show o + 969 + 9 * r + 5 = o + 974 + 9 * r by omega] at a4 a5 a6
    refine ⟨(f (o + 969 + 9 * r)).toNat, (f (o + 974 + 9 * r)).toNat, by omega, by omega, by omega, zenc_wf a3, ?_, by omega, by omega⟩
    rw [show o + 969 + 9 * r + 6 = o + 974 + 9 * r + 1 by omega] at a6
    exact zenc_wf a6
  · have s1 : s < f (o + 1023) := s1
    obtain ⟨a1, a2, a3, a4⟩ := h5 s s0 s1
    rw [show o + 1024 + 57 * s + 11 = o + 1035 + 57 * s by omega] at a2 a3
    rw [show o + 1024 + 57 * s + 56 = o + 1080 + 57 * s by omega] at a4
    rw [mv_10 s0 s1, mv_11 s0 s1, mv_13 s0 s1]
    refine ⟨a1.ex, a2, fun h h0 h1 => ?_, a4⟩
    rw [mv_12 s0 s1 h0 (by omega) h1]
    have := a3 h h0 h1
    rw [show o + 1024 + 57 * s + 12 + 11 * h = o + 1036 + 57 * s + 11 * h by omega] at this
    exact this.ex
/-- a row that holds the same numbers has the same view -/
theorem mPgOK.eq (hp : isP p) (h : mPgOK f o p) (e : ∀ k, 0 ≤ k → k < 968 → g (o2 + k) = f (o + k)) : mPgOK g o2 p := by
  have p0 := hp.1
  have p1 := hp.2
  obtain ⟨h1, h2, h3, h4⟩ := h
  have e' : ∀ k, 0 ≤ k → k < 242 → g (o2 + 242 * p + k) = f (o + 242 * p + k) := fun k k0 k1 => by
    have := e (242 * p + k) (by omega) (by omega)
    rw [show o2 + (242 * p + k) = o2 + 242 * p + k by omega, show o + (242 * p + k) = o + 242 * p + k by omega] at this
    exact this
  have e0 : g (o2 + 242 * p) = f (o + 242 * p) := by have := e' 0 (by decide) (by decide); rw [Int.add_zero, Int.add_zero] at this; exact this
  have es : ∀ i, 0 ≤ i → i < 20 → g (o2 + 242 * p + 2 + 12 * i) = f (o + 242 * p + 2 + 12 * i) := fun i i0 i1 => by
    have := e' (2 + 12 * i) (by omega) (by omega)
    rw [show o2 + 242 * p + (2 + 12 * i) = o2 + 242 * p + 2 + 12 * i by omega, show o + 242 * p + (2 + 12 * i) = o + 242 * p + 2 + 12 * i by omega] at this
    exact this
  unfold mPgOK
  rw [e0, e' 1 (by decide) (by decide)]
  refine ⟨h1, h2, fun i i0 i1 => ?_, fun i j i0 ij j1 => ?_⟩
  · rw [es i i0 (by omega)]
    refine ⟨(h3 i i0 i1).1, ((h3 i i0 i1).2.eq (fun k k0 k1 => ?_)).1⟩
    have := e' (3 + 12 * i + k) (by omega) (by omega)
    rw [show o2 + 242 * p + 3 + 12 * i + k = o2 + 242 * p + (3 + 12 * i + k) by omega, show o + 242 * p + 3 + 12 * i + k = o + 242 * p + (3 + 12 * i + k) by omega]
    exact this
  · rw [es i i0 (by omega), es j (by omega) (by omega)]
    exact h4 i j i0 ij j1
theorem mRuOK.eq {a b : Int} (h : mRuOK f a) (e : ∀ k, 0 ≤ k → k < 9 → g (b + k) = f (a + k)) : mRuOK g b ∧ g b = f a ∧ mV g b = mV f a ∧ g (b + 5) = f (a + 5) ∧ mV g (b + 5) = mV f (a + 5) := by
  obtain ⟨⟨h1, h2, h3⟩, h4, h5, h6⟩ := h
  have e0 : g b = f a := by have := e 0 (by decide) (by decide); rw [Int.add_zero, Int.add_zero] at this; exact this
  have e5 := e 5 (by decide) (by decide)
  have ek : ∀ k : Nat, k < (f a).toNat → g (b + 1 + k) = f (a + 1 + k) := fun k hk => by
    have := e (1 + k) (by omega) (by omega)
    rw [show b + 1 + (k : Int) = b + (1 + k) by omega, show a + 1 + (k : Int) = a + (1 + k) by omega]
    exact this
  have ej : ∀ k : Nat, k < (f (a + 5)).toNat → g (b + 6 + k) = f (a + 6 + k) := fun k hk => by
    have := e (6 + k) (by omega) (by omega)
    rw [show b + 6 + (k : Int) = b + (6 + k) by omega, show a + 6 + (k : Int) = a + (6 + k) by omega]
    exact this
  refine ⟨⟨⟨by rw [e0]; exact h1, by rw [e0]; exact h2, by rw [e0]; exact zlet_congr h3 ek⟩, by rw [e5]; exact h4, by rw [e5]; exact h5, by rw [e5]; exact zlet_congr h6 ej⟩, e0, ?_, e5, ?_⟩
  · unfold mV; rw [e0]; exact zenc_congr ek
  · unfold mV
    rw [e5, show b + 5 + 1 = b + 6 by omega, show a + 5 + 1 = a + 6 by omega]
    exact zenc_congr ej
theorem mSnOK.eq {a b : Int} (h : mSnOK f a) (e : ∀ k, 0 ≤ k → k < 57 → g (b + k) = f (a + k)) : mSnOK g b ∧ mV g b = mV f a ∧ g (b + 11) = f (a + 11) ∧ g (b + 56) = f (a + 56) ∧ ∀ h, 0 ≤ h → h < f (a + 11) → mV g (b + 12 + 11 * h) = mV f (a + 12 + 11 * h) := by
  obtain ⟨h1, h2, h3, h4⟩ := h
  have e1 := e 11 (by decide) (by decide)
  have e2 := e 56 (by decide) (by decide)
  have q := h1.eq (g := g) (b := b) (fun k k0 k1 => e k k0 (by omega))
  have qh : ∀ h, 0 ≤ h → h < f (a + 11) → mWd g (b + 12 + 11 * h) ∧ mV g (b + 12 + 11 * h) = mV f (a + 12 + 11 * h) := fun h h0 hh => (h3 h h0 hh).eq (fun k k0 k1 => by
    have := e (12 + 11 * h + k) (by omega) (by omega)
    rw [show b + 12 + 11 * h + k = b + (12 + 11 * h + k) by omega, show a + 12 + 11 * h + k = a + (12 + 11 * h + k) by omega]
    exact this)
  exact ⟨⟨q.1, by rw [e1]; exact h2, fun h h0 hh => (qh h h0 (by rw [← e1]; exact hh)).1, by rw [e2]; exact h4⟩, q.2, e1, e2, fun h h0 hh => (qh h h0 hh).2⟩
theorem mshift (h : MOK f o) (e : ∀ k, 0 ≤ k → k < 1482 → g (o2 + k) = f (o + k)) : MOK g o2 ∧ mview g o2 = mview f o := by
  obtain ⟨h1, ⟨h2, h3⟩, ⟨h4, h5⟩, h6, h7⟩ := h
  have er : ∀ r, 0 ≤ r → r < f (o + 968) → ∀ k, 0 ≤ k → k < 9 → g (o2 + 969 + 9 * r + k) = f (o + 969 + 9 * r + k) := fun r r0 r1 k k0 k1 => by
    have := e (969 + 9 * r + k) (by omega) (by omega)
    rw [show o2 + 969 + 9 * r + k = o2 + (969 + 9 * r + k) by omega, show o + 969 + 9 * r + k = o + (969 + 9 * r + k) by omega]
    exact this
  have es : ∀ s, 0 ≤ s → s < f (o + 1023) → ∀ k, 0 ≤ k → k < 57 → g (o2 + 1024 + 57 * s + k) = f (o + 1024 + 57 * s + k) := fun r r0 r1 k k0 k1 => by
    have := e (1024 + 57 * r + k) (by omega) (by omega)
    rw [show o2 + 1024 + 57 * r + k = o2 + (1024 + 57 * r + k) by omega, show o + 1024 + 57 * r + k = o + (1024 + 57 * r + k) by omega]
    exact this
  have e968 := e 968 (by decide) (by decide)
  have e1023 := e 1023 (by decide) (by decide)
  refine ⟨⟨fun p hp => (h1 p hp).eq hp (fun k k0 k1 => e k k0 (by omega)), ⟨by rw [e968]; exact h2, fun r r0 r1 => ((h3 r r0 (by rw [← e968]; exact r1)).eq (er r r0 (by rw [← e968]; exact r1))).1⟩, ⟨by rw [e1023]; exact h4, fun s s0 s1 => ((h5 s s0 (by rw [← e1023]; exact s1)).eq (es s s0 (by rw [← e1023]; exact s1))).1⟩, by rw [e 1480 (by decide) (by decide)]; exact h6, by rw [e 1481 (by decide) (by decide)]; exact h7⟩, ?_⟩
  unfold mview
  refine vcut_ext (fun p p0 p1 => ?_) (fun p i p0 p1 i0 i1 i2 => ?_) e968 (fun r r0 r1 => ?_) e1023 (fun s s0 s1 => ?_) (fun s h s0 s1 x0 x1 x2 => ?_) (e 1480 (by decide) (by decide)) (e 1481 (by decide) (by decide))
  · show g (o2 + 242 * p) = f (o + 242 * p) ∧ g (o2 + 242 * p + 1) = f (o + 242 * p + 1)
    rw [show o2 + 242 * p + 1 = o2 + (242 * p + 1) by omega, show o + 242 * p + 1 = o + (242 * p + 1) by omega]
    exact ⟨e _ (by omega) (by omega), e _ (by omega) (by omega)⟩
  · have i2 : i < g (o2 + 242 * p) := i2
    rw [e (242 * p) (by omega) (by omega)] at i2
    show g (o2 + 242 * ((20 * p + i) / 20) + 2 + 12 * ((20 * p + i) % 20)) = f (o + 242 * ((20 * p + i) / 20) + 2 + 12 * ((20 * p + i) % 20)) ∧ mV g (o2 + 242 * ((20 * p + i) / 20) + 3 + 12 * ((20 * p + i) % 20)) = mV f (o + 242 * ((20 * p + i) / 20) + 3 + 12 * ((20 * p + i) % 20))
    rw [show (20 * p + i) / 20 = p by omega, show (20 * p + i) % 20 = i by omega]
    refine ⟨?_, (((h1 p ⟨p0, p1⟩).2.2.1 i i0 i2).2.eq (fun k k0 k1 => ?_)).2⟩
    · rw [show o2 + 242 * p + 2 + 12 * i = o2 + (242 * p + 2 + 12 * i) by omega, show o + 242 * p + 2 + 12 * i = o + (242 * p + 2 + 12 * i) by omega]
      exact e _ (by omega) (by omega)
    · rw [show o2 + 242 * p + 3 + 12 * i + k = o2 + (242 * p + 3 + 12 * i + k) by omega, show o + 242 * p + 3 + 12 * i + k = o + (242 * p + 3 + 12 * i + k) by omega]
      exact e _ (by omega) (by omega)
  · have r1 : r < g (o2 + 968) := r1
    rw [e968] at r1
    have q := (h3 r r0 r1).eq (er r r0 r1)
    show mV g (o2 + 969 + 9 * r) = mV f (o + 969 + 9 * r) ∧ mV g (o2 + 974 + 9 * r) = mV f (o + 974 + 9 * r) ∧ g (o2 + 969 + 9 * r) = f (o + 969 + 9 * r) ∧ g (o2 + 974 + 9 * r) = f (o + 974 + 9 * r)
    rw [show o2 + 974 + 9 * r = o2 + 969 + 9 * r + 5 by omega, show o + 974 + 9 * r = o + 969 + 9 * r + 5 by omega]
    exact ⟨q.2.2.1, q.2.2.2.2, q.2.1, q.2.2.2.1⟩
  · have s1 : s < g (o2 + 1023) := s1
    rw [e1023] at s1
    have q := (h5 s s0 s1).eq (es s s0 s1)
    show mV g (o2 + 1024 + 57 * s) = mV f (o + 1024 + 57 * s) ∧ g (o2 + 1035 + 57 * s) = f (o + 1035 + 57 * s) ∧ g (o2 + 1080 + 57 * s) = f (o + 1080 + 57 * s)
    rw [show o2 + 1035 + 57 * s = o2 + 1024 + 57 * s + 11 by omega, show o + 1035 + 57 * s = o + 1024 + 57 * s + 11 by omega, show o2 + 1080 + 57 * s = o2 + 1024 + 57 * s + 56 by omega, show o + 1080 + 57 * s = o + 1024 + 57 * s + 56 by omega]
    exact ⟨q.2.1, q.2.2.1, q.2.2.2.1⟩
  · have s1 : s < g (o2 + 1023) := s1
    rw [e1023] at s1
    have q := (h5 s s0 s1).eq (es s s0 s1)
    have x2 : h < g (o2 + 1035 + 57 * s) := x2
    rw [show o2 + 1035 + 57 * s = o2 + 1024 + 57 * s + 11 by omega, q.2.2.1] at x2
    show mV g (o2 + 1036 + 57 * ((4 * s + h) / 4) + 11 * ((4 * s + h) % 4)) = mV f (o + 1036 + 57 * ((4 * s + h) / 4) + 11 * ((4 * s + h) % 4))
    rw [show (4 * s + h) / 4 = s by omega, show (4 * s + h) % 4 = h by omega, show o2 + 1036 + 57 * s + 11 * h = o2 + 1024 + 57 * s + 12 + 11 * h by omega, show o + 1036 + 57 * s + 11 * h = o + 1024 + 57 * s + 12 + 11 * h by omega]
    exact q.2.2.2.2 h x0 x2
end
