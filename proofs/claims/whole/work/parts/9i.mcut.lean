/-! The reference: the call cut. -/
def zsd (c : zC) (a x : Int) : zC := fun b k => if b = 682 ∧ a ≤ k ∧ k < x then c 682 (k + 12) else c b k
/-- sections of the words i up to y, one less -/
def zdk (c : zC) (p i y : Int) : zC := fun b k => if b = 682 ∧ 242 * p + 2 + 12 * i ≤ k ∧ k < 242 * p + 2 + 12 * y ∧ (k - (242 * p + 2)) % 12 = 0 then c 682 k - 1 else c b k
section
variable {c : zC} {σ : aS} {p i n a : Int} (d : Nat)
theorem zsd_o {x b k : Int} (h : b ≠ 682 ∨ k < a ∨ x ≤ k) : zsd c a x b k = c b k := by unfold zsd; rw [if_neg (by omega)]
theorem zsd_0 : zsd c a a = c := by funext b k; exact zsd_o (by omega)
theorem zsd_i {x k : Int} (h : a ≤ k) (h1 : k < x) : zsd c a x 682 k = c 682 (k + 12) := by unfold zsd; rw [if_pos ⟨rfl, h, h1⟩]
theorem zsd_up {x : Int} (h : a ≤ x) : zup (zsd c a x) 682 x (c 682 (x + 12)) = zsd c a (x + 1) := by
  funext b k
  unfold zsd
  by_cases e : b = 682 ∧ k = x
  · rw [zup_eq e, if_pos (by omega), e.2]
  · rw [zup_ne (by omega)]
    by_cases e2 : b = 682 ∧ a ≤ k ∧ k < x
    · rw [if_pos e2, if_pos (by omega)]
    · rw [if_neg e2, if_neg (by omega)]
theorem zsd_ms {x : Int} (h : 0 ≤ a) : MS c (zsd c a x) := ⟨fun b k hk => zsd_o (by omega), fun k _ => zsd_o (Or.inl (by decide))⟩
theorem zdk_o {y b k : Int} (h : b ≠ 682 ∨ k < 242 * p + 2 + 12 * i ∨ 242 * p + 2 + 12 * y ≤ k ∨ (k - (242 * p + 2)) % 12 ≠ 0) : zdk c p i y b k = c b k := by unfold zdk; rw [if_neg (by omega)]
theorem zdk_0 : zdk c p i i = c := by funext b k; exact zdk_o (by omega)
theorem zdk_i {y j : Int} (h : i ≤ j) (h1 : j < y) : zdk c p i y 682 (242 * p + 2 + 12 * j) = c 682 (242 * p + 2 + 12 * j) - 1 := by unfold zdk; rw [if_pos ⟨rfl, by omega, by omega, by omega⟩]
theorem zdk_up {y : Int} (h : i ≤ y) : zup (zdk c p i y) 682 (242 * p + 2 + 12 * y) (c 682 (242 * p + 2 + 12 * y) - 1) = zdk c p i (y + 1) := by
  funext b k
  unfold zdk
  by_cases e : b = 682 ∧ k = 242 * p + 2 + 12 * y
  · rw [zup_eq e, if_pos ⟨e.1, by omega, by omega, by omega⟩, e.2]
  · rw [zup_ne (by omega)]
    by_cases e2 : b = 682 ∧ 242 * p + 2 + 12 * i ≤ k ∧ k < 242 * p + 2 + 12 * y ∧ (k - (242 * p + 2)) % 12 = 0
    · rw [if_pos e2, if_pos (by omega)]
    · rw [if_neg e2, if_neg (by omega)]
theorem zdk_ms {y : Int} (h : isP p) (hi : 0 ≤ i) : MS c (zdk c p i y) := ⟨fun b k hk => zdk_o (by have := h.1; omega), fun k _ => zdk_o (Or.inl (by decide))⟩
def zcutT (d : Nat) (p n i : Int) (c : zC) : zR := zbnd (zrun zTab d 186 [681, p, n, i, 1, 0] c) (fun _ c4 => if c4 681 (-1) = 12 then zbnd (zrun zTab d 142 [681, p] c4) (fun v5 c6 => some (v5, c6)) else none)
theorem zm_cut_132 (h : MO c) (hp : isP p) (hi : 0 ≤ i ∧ i < n) (hn : n ≤ 20) (e0 : c 682 (242 * p) = n - 1) (rg : ∀ k, -1000 ≤ c 682 (242 * p + 2 + 12 * k) ∧ c 682 (242 * p + 2 + 12 * k) ≤ 1000 ∨ k < i ∨ n - 1 ≤ k) : ∀ (t F : Nat) (y : Int), t ≤ F → y + t = n - 1 → i ≤ y → zex zc_X12_cut zk_X12_cut (zrun zTab (d + 1)) (F + 1) 132 [(2, 681), (0, p), (0, i), (0, n), (3, 0), (0, 1), (0, y)] [] (zdk c p i y) = zcutT (d + 1) p n i (zdk c p i (n - 1)) := by
  have p0 := hp.1
  have p1 := hp.2
  intro t
  induction t with
  | zero =>
    intro F y hF hy hy2
    have mo := h.ms (zdk_ms (y := y) hp hi.1)
    rw [ze_X12_cut_132, if_pos mo.k, zm_words d mo hp, zbnd_some, zdk_o (b := 682) (k := 242 * p) (by omega), e0, if_neg (by omega), if_pos mo.k, show y = n - 1 by omega]
    rfl
  | succ t ih =>
    intro F y hF hy hy2
    obtain ⟨F, rfl⟩ : ∃ G, F = G + 1 := ⟨F - 1, by omega⟩
    have mo := h.ms (zdk_ms (y := y) hp hi.1)
    have r := rg y
    rw [ze_X12_cut_132, if_pos mo.k, zm_words d mo hp, zbnd_some, zdk_o (b := 682) (k := 242 * p) (by omega), e0, if_pos (by omega), if_neg (by decide), if_pos mo.k, zm_wordAt d hp (by omega), zbnd_some, mo.f.1, if_pos (mo.r682 (by omega) (by omega)), if_pos (mo.r682 (by omega) (by omega)), zdk_o (b := 682) (k := 242 * p + 2 + 12 * y) (by omega), zsub_id (by omega) (by omega), zdk_up hy2, zw_id' (by omega) (by omega)]
    exact ih F (y + 1) (by omega) (by omega) (by omega)
theorem zm_cut_80 {al : Int} (h : MO c) (hp : isP p) (hi : 0 ≤ i ∧ i < n) (hn : n ≤ 20) (e0 : c 682 (242 * p) = n) : ∀ (t F : Nat) (x : Int), t ≤ F → x + t = 242 * p + 2 + 12 * (n - 1) → 242 * p + 2 + 12 * i ≤ x → zex zc_X12_cut zk_X12_cut (zrun zTab (d + 1)) (F + 1) 80 [(2, 681), (0, p), (0, i), (0, n), (3, 0), (0, al), (0, x)] [] (zsd c (242 * p + 2 + 12 * i) x) = zex zc_X12_cut zk_X12_cut (zrun zTab (d + 1)) (F - t) 132 [(2, 681), (0, p), (0, i), (0, n), (3, 0), (0, al), (0, i)] [] (zup (zsd c (242 * p + 2 + 12 * i) (242 * p + 2 + 12 * (n - 1))) 682 (242 * p) (n - 1)) := by
  have p0 := hp.1
  have p1 := hp.2
  intro t
  induction t with
  | zero =>
    intro F x hF hx hx2
    have mo := h.ms (zsd_ms (a := 242 * p + 2 + 12 * i) (x := x) (by omega))
    rw [ze_X12_cut_80, zsub_id (x := n) (by omega) (by omega), zm_wordAt d hp (by omega), zbnd_some, if_neg (by omega), if_pos mo.k, mo.f.1, zmul_id (by omega) (by omega), if_pos (mo.r682 (by omega) (by omega)), if_pos (mo.r682 (by omega) (by omega)), zsd_o (b := 682) (k := 242 * p) (by omega), e0, zsub_id (by omega) (by omega), show x = 242 * p + 2 + 12 * (n - 1) by omega]
    rfl
  | succ t ih =>
    intro F x hF hx hx2
    obtain ⟨F, rfl⟩ : ∃ G, F = G + 1 := ⟨F - 1, by omega⟩
    have mo := h.ms (zsd_ms (a := 242 * p + 2 + 12 * i) (x := x) (by omega))
    rw [ze_X12_cut_80, zsub_id (x := n) (by omega) (by omega), zm_wordAt d hp (by omega), zbnd_some, if_pos (by omega), if_pos mo.k, if_pos mo.k, mo.f.1, zadd_id (by omega) (by omega), if_pos (mo.r682 (by omega) (by omega)), if_pos (mo.r682 (by omega) (by omega)), zsd_o (b := 682) (k := x + 12) (by omega), zsd_up hx2, zw_id' (by omega) (by omega), ih F (x + 1) (by omega) (by omega) (by omega), show F + 1 - (t + 1) = F - t by omega]
/-- nobody else in the section: by the neighbours -/
theorem mAl_near {f0 : Int → Int} (h : MOK f0 0) (hp : isP p) (hi : 0 ≤ i ∧ i < f0 (242 * p)) : mAl (mview f0 0) p i ↔ (i = 0 ∨ f0 (242 * p + 2 + 12 * (i - 1)) ≠ f0 (242 * p + 2 + 12 * i)) ∧ (i = f0 (242 * p) - 1 ∨ f0 (242 * p + 2 + 12 * (i + 1)) ≠ f0 (242 * p + 2 + 12 * i)) := by
  have n20 := (h.pg hp).1
  have e : ∀ k, 0 ≤ k → k < f0 (242 * p) → mview f0 0 2 (20 * p + k) = f0 (242 * p + 2 + 12 * k) := fun k k0 k1 => mw_2 hp k0 (by omega) k1
  have ei := e i hi.1 hi.2
  constructor
  · intro q
    refine ⟨?_, ?_⟩
    · by_cases x : i = 0
      · exact Or.inl x
      · have := q (i - 1) (by omega) (by rw [mw_0 hp]; omega) (by omega)
        rw [e _ (by omega) (by omega), ei] at this
        exact Or.inr this
    · by_cases x : i = f0 (242 * p) - 1
      · exact Or.inl x
      · have := q (i + 1) (by omega) (by rw [mw_0 hp]; omega) (by omega)
        rw [e _ (by omega) (by omega), ei] at this
        exact Or.inr this
  · rintro ⟨q1, q2⟩ k k0 k1 ki
    rw [mw_0 hp] at k1
    by_cases x : k < i
    · have a1 := pgs h hp k0 (show k ≤ i - 1 by omega) (by omega)
      have a2 := pgs h hp (show 0 ≤ i - 1 by omega) (show i - 1 ≤ i by omega) hi.2
      rw [e (i - 1) (by omega) (by omega)] at a1 a2
      have := q1.resolve_left (by omega)
      rw [ei] at a2 ⊢
      omega
    · have a1 := pgs h hp (show 0 ≤ i + 1 by omega) (show i + 1 ≤ k by omega) k1
      have a2 := pgs h hp hi.1 (show i ≤ i + 1 by omega) (by omega)
      rw [e (i + 1) (by omega) (by omega)] at a1 a2
      have := q2.resolve_left (by omega)
      rw [ei] at a2 ⊢
      omega
theorem M_cutPut (h : RM c σ) (hp : isP p) (hi : 0 ≤ i ∧ i < σ.1 0 p) (hrow : ∀ k, 0 ≤ k → k < σ.1 0 p → c 696 k = mN (mTo σ.1 p k)) {al : Int} (h01 : al = 0 ∨ al = 1) (hal : al = 1 ↔ mAl σ.1 p i) (F : Nat) (hF : 400 ≤ F) : ∃ c', zex zc_X12_cut zk_X12_cut (zrun zTab (d + 8)) F 80 [(2, 681), (0, p), (0, i), (0, σ.1 0 p), (3, 0), (0, al), (0, 242 * p + 2 + 12 * i)] [] c = some (σ.1 0 p - 1, c') ∧ RM c' (uCut σ.1 p i, σ.2.1, σ.2.2.1, σ.2.2.2.1, aTell σ.1 (uCut σ.1 p i) p i 1 0) ∧ zlo c c' := by
  have p0 := hp.1
  have p1 := hp.2
  have a0 := h.a0 hp
  have n20 := (h.ok.1.pg hp).1
  obtain ⟨F, rfl⟩ : ∃ G, F = G + 1 := ⟨F - 1, by omega⟩
  have run := zm_cut_80 (d + 7) (al := al) h.1 hp hi (by omega) a0.symm (12 * (σ.1 0 p - 1 - i)).toNat F (242 * p + 2 + 12 * i) (by omega) (by omega) (by omega)
  rw [zsd_0] at run
  have run : zex zc_X12_cut zk_X12_cut (zrun zTab (d + 8)) (F + 1) 80 [(2, 681), (0, p), (0, i), (0, σ.1 0 p), (3, 0), (0, al), (0, 242 * p + 2 + 12 * i)] [] c = zex zc_X12_cut zk_X12_cut (zrun zTab (d + 8)) (F - (12 * (σ.1 0 p - 1 - i)).toNat) 132 [(2, 681), (0, p), (0, i), (0, σ.1 0 p), (3, 0), (0, al), (0, i)] [] (zup (zsd c (242 * p + 2 + 12 * i) (242 * p + 2 + 12 * (σ.1 0 p - 1))) 682 (242 * p) (σ.1 0 p - 1)) := run
  rw [run]
  obtain ⟨G, hG⟩ : ∃ G, F - (12 * (σ.1 0 p - 1 - i)).toNat = G + 1 := ⟨F - (12 * (σ.1 0 p - 1 - i)).toNat - 1, by omega⟩
  rw [hG]
  -- the heap behind the shift
  obtain ⟨cs, hcs⟩ : ∃ x, zup (zsd c (242 * p + 2 + 12 * i) (242 * p + 2 + 12 * (σ.1 0 p - 1))) 682 (242 * p) (σ.1 0 p - 1) = x := ⟨_, rfl⟩
  rw [hcs]
  have ms3 : MS c cs := by rw [← hcs]; exact (zsd_ms (by omega)).up (by omega) (Or.inl (by decide))
  have m3 := h.1.ms ms3
  have o : ∀ b k, (b ≠ 682 ∨ k < 242 * p ∨ 242 * p < k ∧ k < 242 * p + 2 + 12 * i ∨ 242 * p + 242 ≤ k) → cs b k = c b k := fun b k hk => by
    rw [← hcs, zup_ne (by omega), zsd_o (by omega)]
  have e0 : cs 682 (242 * p) = σ.1 0 p - 1 := by rw [← hcs, zup_eq ⟨rfl, rfl⟩]
  have sh : ∀ j x, i ≤ j → j < σ.1 0 p - 1 → 0 ≤ x → x < 12 → cs 682 (242 * p + 2 + 12 * j + x) = c 682 (242 * p + 2 + 12 * (j + 1) + x) := fun j x j0 j1 x0 x1 => by
    rw [← hcs, zup_ne (by omega), zsd_i (by omega) (by omega), show 242 * p + 2 + 12 * j + x + 12 = 242 * p + 2 + 12 * (j + 1) + x by omega]
  -- from the last heap on
  have fin : ∀ c5 : zC, MS c c5 → (∀ b k, (b ≠ 682 ∨ k < 242 * p ∨ 242 * p < k ∧ k < 242 * p + 2 + 12 * i ∨ 242 * p + 242 ≤ k) → c5 b k = c b k) → c5 682 (242 * p) = σ.1 0 p - 1 → (∀ j x, i ≤ j → j < σ.1 0 p - 1 → 0 ≤ x → x < 12 → c5 682 (242 * p + 2 + 12 * j + x) = c 682 (242 * p + 2 + 12 * (j + 1) + x) - (if x = 0 ∧ al = 1 then 1 else 0)) → ∃ c', zcutT (d + 8) p (σ.1 0 p) i c5 = some (σ.1 0 p - 1, c') ∧ RM c' (uCut σ.1 p i, σ.2.1, σ.2.2.1, σ.2.2.2.1, aTell σ.1 (uCut σ.1 p i) p i 1 0) ∧ zlo c c' := fun c5 ms5 o5 e5 sh5 => by
    have pg := mset_cut (g := c5 682) (i := i) h.ok.1 hp (by rw [← a0]; exact hi) (al = 1) (by rw [h.ok.2]; exact hal) (fun k hk => o5 682 k (Or.inr hk)) (by rw [e5, a0]) (fun j x j0 j1 x0 x1 => sh5 j x j0 (by rw [a0]; exact j1) x0 x1)
    rw [h.ok.2] at pg
    have h5 : RM c5 (uCut σ.1 p i, σ.2) := RM.st h ms5 (fun k hk => o5 _ _ (Or.inl (by decide))) (fun k hk => o5 _ _ (by omega)) (fun k => o5 _ _ (Or.inl (by decide))) pg.1 pg.2
    have nn : uCut σ.1 p i 0 p = σ.1 0 p - 1 := by
      have x := h5.a0 hp
      rw [e5] at x
      exact x
    obtain ⟨c6, u1, u2, u3⟩ := h5.tells d (f := mTo σ.1 p) (nold := σ.1 0 p) (a := i) (m := 1) (n := 0) hp (by rw [a0]; exact n20) (by show uCut σ.1 p i 0 p = _; rw [nn]; omega) (by omega) (Or.inr (Or.inr ⟨rfl, rfl⟩)) (fun k k0 k1 => by rw [o5 _ _ (Or.inl (by decide))]; exact hrow k k0 k1) (mTo_all σ.1 p) (fun k hk => mTo_hi hk)
    refine ⟨c6, ?_, u2, fun b hb k => (u3 b hb k).trans (o5 _ _ (Or.inl (by omega)))⟩
    have e6 : c6 682 (242 * p) = σ.1 0 p - 1 := by
      have x := u2.a0 hp
      rw [← nn]
      exact x.symm
    unfold zcutT
    rw [u1, zbnd_some, if_pos u2.1.k, zm_words (d + 7) u2.1 hp, zbnd_some, e6]
  rcases h01 with rfl | rfl
  · have st : zex zc_X12_cut zk_X12_cut (zrun zTab (d + 8)) (G + 1) 132 [(2, 681), (0, p), (0, i), (0, σ.1 0 p), (3, 0), (0, 0), (0, i)] [] cs = zcutT (d + 8) p (σ.1 0 p) i cs := by
      rw [ze_X12_cut_132, if_pos m3.k, zm_words (d + 7) m3 hp, zbnd_some, if_pos rfl, if_pos m3.k]
      unfold zcutT
      split <;> rfl
    rw [st]
    refine fin cs ms3 o e0 (fun j x j0 j1 x0 x1 => ?_)
    rw [if_neg (by omega), Int.sub_zero]
    exact sh j x j0 j1 x0 x1
  · have hS : ∀ j, i ≤ j → j < σ.1 0 p - 1 → 0 ≤ c 682 (242 * p + 2 + 12 * (j + 1)) ∧ c 682 (242 * p + 2 + 12 * (j + 1)) ≤ 3 := fun j j0 j1 => ((h.ok.1.pg hp).2.2.1 (j + 1) (by omega) (by omega)).1
    have st := zm_cut_132 (d + 7) (c := cs) m3 hp hi (by omega) e0 (fun k => by
      by_cases x : i ≤ k ∧ k < σ.1 0 p - 1
      · have y := sh k 0 x.1 x.2 (by decide) (by decide)
        have z := hS k x.1 x.2
        rw [Int.add_zero, Int.add_zero] at y
        rw [y]; omega
      · omega) (σ.1 0 p - 1 - i).toNat G i (by omega) (by omega) (Int.le_refl i)
    rw [zdk_0] at st
    have st : zex zc_X12_cut zk_X12_cut (zrun zTab (d + 8)) (G + 1) 132 [(2, 681), (0, p), (0, i), (0, σ.1 0 p), (3, 0), (0, 1), (0, i)] [] cs = zcutT (d + 8) p (σ.1 0 p) i (zdk cs p i (σ.1 0 p - 1)) := st
    rw [st]
    refine fin _ (ms3.tr (zdk_ms hp hi.1)) (fun b k hk => by rw [zdk_o (by omega)]; exact o b k hk) (by rw [zdk_o (by omega)]; exact e0) (fun j x j0 j1 x0 x1 => ?_)
    by_cases x2 : x = 0
    · subst x2
      have y := sh j 0 j0 j1 (by decide) (by decide)
      rw [Int.add_zero, Int.add_zero] at y
      rw [Int.add_zero, Int.add_zero, zdk_i j0 j1, y, if_pos ⟨rfl, rfl⟩]
    · rw [zdk_o (by omega), if_neg (fun q => x2 q.1), Int.sub_zero]
      exact sh j x j0 j1 x0 x1
theorem M_cut (h : RM c σ) : MC c (zrun zTab (d + 40) 191 [681, p, i] c) (aCut σ p i) := by
  have n20 : ∀ q, isP q → 0 ≤ c 682 (242 * q) ∧ c 682 (242 * q) ≤ 20 := fun q hq => (h.ok.1.pg hq).1
  rw [ze_X12_cut, if_pos h.1.k, zm_isWord (d + 36) h.1 n20, zbnd_some]
  unfold aCut
  by_cases hw : isP p ∧ 0 ≤ i ∧ i < c 682 (242 * p)
  · obtain ⟨hp, hi0, hi1⟩ := id hw
    have p0 := hp.1
    have p1 := hp.2
    have a0 := h.a0 hp
    have hn := n20 p hp
    have hW : isW σ.1 p i := ⟨hp, hi0, by rw [a0]; exact hi1⟩
    obtain ⟨c2, c3, q1, q2, q3, q4, q5, q6, q7⟩ := h.editBegins (d + 31) hp
    have m3 := q4.1
    have e30 : c3 682 (242 * p) = σ.1 0 p := (q4.a0 hp).symm
    have q3 : zrun zTab (d + 39) 185 [681, p] c2 = some (σ.1 0 p, c3) := q3
    have near := mAl_near (i := i) q4.ok.1 hp ⟨hi0, by rw [e30, a0]; exact hi1⟩
    rw [q4.ok.2, e30] at near
    have near : mAl σ.1 p i ↔ (i = 0 ∨ c3 682 (242 * p + 2 + 12 * (i - 1)) ≠ c3 682 (242 * p + 2 + 12 * i)) ∧ (i = σ.1 0 p - 1 ∨ c3 682 (242 * p + 2 + 12 * (i + 1)) ≠ c3 682 (242 * p + 2 + 12 * i)) := near
    rw [if_pos hw, if_neg (by decide), if_neg (show ¬ ¬ isW σ.1 p i from fun q => q hW), if_pos h.1.k, q1, zbnd_some, if_pos q2, q3, zbnd_some, if_pos m3.k, zm_sectionOf (d + 37) m3 hp ⟨hi0, by omega⟩, zbnd_some]
    have fin : ∀ (F : Nat) (al : Int), 400 ≤ F → (al = 0 ∨ al = 1) → (al = 1 ↔ mAl σ.1 p i) → MC c (zex zc_X12_cut zk_X12_cut (zrun zTab (d + 39)) F 80 [(2, 681), (0, p), (0, i), (0, σ.1 0 p), (3, 0), (0, al), (0, 242 * p + 2 + 12 * i)] [] c3) (σ.1 0 p - 1, aEd σ (uCut σ.1 p i) p i 1 0) := fun F al hF h01 hal => by
      obtain ⟨c6, u1, u2, u3⟩ := M_cutPut (d + 31) (i := i) q4 hp ⟨hi0, by show i < σ.1 0 p; rw [a0]; exact hi1⟩ q5 h01 hal F hF
      have u1 : zex zc_X12_cut zk_X12_cut (zrun zTab (d + 39)) F 80 [(2, 681), (0, p), (0, i), (0, σ.1 0 p), (3, 0), (0, al), (0, 242 * p + 2 + 12 * i)] [] c3 = some (σ.1 0 p - 1, c6) := u1
      rw [u1]
      exact MC.of rfl u2 (q7.tr u3)
    have hi1' : i < σ.1 0 p := by rw [a0]; exact hi1
    have at46 : (i = 0 ∨ c3 682 (242 * p + 2 + 12 * (i - 1)) ≠ c3 682 (242 * p + 2 + 12 * i)) → MC c (zex zc_X12_cut zk_X12_cut (zrun zTab (d + 39)) 19999 46 [(2, 681), (0, p), (0, i), (0, σ.1 0 p), (0, c3 682 (242 * p + 2 + 12 * i)), (3, 0), (3, 0)] [] c3) (σ.1 0 p - 1, aEd σ (uCut σ.1 p i) p i 1 0) := fun left => by
      rw [ze_X12_cut_46, zsub_id (by omega) (by omega)]
      by_cases x : i = σ.1 0 p - 1
      · rw [if_pos x, zm_wordAt (d + 38) hp (by omega), zbnd_some]
        exact fin _ 1 (by decide) (Or.inr rfl) ⟨fun _ => near.mpr ⟨left, Or.inl x⟩, fun _ => rfl⟩
      · rw [if_neg x, if_pos m3.k, zadd_id (by omega) (by omega), zm_sectionOf (d + 37) m3 hp (by omega), zbnd_some]
        by_cases y : c3 682 (242 * p + 2 + 12 * (i + 1)) = c3 682 (242 * p + 2 + 12 * i)
        · rw [if_pos y, zm_wordAt (d + 38) hp (by omega), zbnd_some]
          exact fin _ 0 (by decide) (Or.inl rfl) ⟨fun q => absurd q (by decide), fun q => by
            rcases (near.mp q).2 with u | u
            · exact absurd u x
            · exact absurd y u⟩
        · rw [if_neg y, zm_wordAt (d + 38) hp (by omega), zbnd_some]
          exact fin _ 1 (by decide) (Or.inr rfl) ⟨fun _ => near.mpr ⟨left, Or.inr y⟩, fun _ => rfl⟩
    by_cases z : i = 0
    · rw [if_pos z]
      exact at46 (Or.inl z)
    · rw [if_neg z, if_pos m3.k, zsub_id (by omega) (by omega), zm_sectionOf (d + 37) m3 hp (by omega), zbnd_some]
      by_cases y : c3 682 (242 * p + 2 + 12 * (i - 1)) = c3 682 (242 * p + 2 + 12 * i)
      · rw [if_pos y, zm_wordAt (d + 38) hp (by omega), zbnd_some]
        exact fin _ 0 (by decide) (Or.inl rfl) ⟨fun q => absurd q (by decide), fun q => by
          rcases (near.mp q).1 with u | u
          · exact absurd u z
          · exact absurd y u⟩
      · rw [if_neg y]
        exact at46 (Or.inr y)
  · rw [if_neg hw, if_pos rfl, if_pos (show ¬ isW σ.1 p i from fun q => hw ⟨q.1, q.2.1, by rw [← h.a0 q.1]; exact q.2.2⟩)]
    exact MC.of rfl h (zlo.rf c)
end
