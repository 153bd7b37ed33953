/-! The class's links: the pass through the words. -/
theorem zbits : ∀ b : Fin 256, ∀ s : Fin 8, (0 ≤ zior ((b : Nat) : Int) (zishl 1 ((s : Nat) : Int)) ∧ zior ((b : Nat) : Int) (zishl 1 ((s : Nat) : Int)) < 256) ∧ ∀ t : Fin 8, (ziand (zishr (zior ((b : Nat) : Int) (zishl 1 ((s : Nat) : Int))) ((t : Nat) : Int)) 1 = 0 ↔ ziand (zishr ((b : Nat) : Int) ((t : Nat) : Int)) 1 = 0 ∧ t ≠ s) := by decide +kernel
theorem zbits0 : ∀ t : Fin 8, ziand (zishr 0 ((t : Nat) : Int)) 1 = 0 := by decide +kernel
theorem zbit_or {b s : Int} (hb : 0 ≤ b ∧ b < 256) (hs : 0 ≤ s ∧ s < 8) : (0 ≤ zior b (zishl 1 s) ∧ zior b (zishl 1 s) < 256) ∧ ∀ t : Int, 0 ≤ t → t < 8 → (ziand (zishr (zior b (zishl 1 s)) t) 1 = 0 ↔ ziand (zishr b t) 1 = 0 ∧ t ≠ s) := by
  have h := zbits ⟨b.toNat, by omega⟩ ⟨s.toNat, by omega⟩
  simp only [Int.toNat_of_nonneg hb.1, Int.toNat_of_nonneg hs.1] at h
  refine ⟨h.1, fun t t0 t1 => ?_⟩
  have h2 := h.2 ⟨t.toNat, by omega⟩
  simp only [Int.toNat_of_nonneg t0] at h2
  rw [h2]
  have : ((⟨t.toNat, by omega⟩ : Fin 8) ≠ ⟨s.toNat, by omega⟩) ↔ t ≠ s := by
    rw [ne_eq, Fin.mk.injEq]; omega
  rw [this]
theorem zbit_0 {t : Int} (h0 : 0 ≤ t) (h1 : t < 8) : ziand (zishr 0 t) 1 = 0 := by
  have h := zbits0 ⟨t.toNat, by omega⟩
  simp only [Int.toNat_of_nonneg h0] at h
  exact h
theorem mMe_ok (A : zA2) (p i : Int) : (mMe A p i).1 = -5 ∨ 0 ≤ (mMe A p i).1 ∧ (mMe A p i).1 < A 9 0 := by
  have h := mCh_ok A p i (A 9 0).toNat
  unfold mMe
  split
  · exact Or.inl rfl
  · omega
theorem mLk_of {A : zA2} {p bud left : Int} {m n i : Nat} (h1 : i < m) (h2 : i < n) : mLk (mRs A p bud left m) left i = mLk (mRs A p bud left n) left i := by
  have a := mLk_iff (A := A) (p := p) (bud := bud) (left := left) (n := m) (i := i)
  have b := mLk_iff (A := A) (p := p) (bud := bud) (left := left) (n := n) (i := i)
  cases e : mLk (mRs A p bud left m) left i <;> cases e2 : mLk (mRs A p bud left n) left i <;> simp_all
theorem mLast_of {A : zA2} {p bud left : Int} {m n i : Nat} (h1 : i ≤ m) (h2 : i ≤ n) : mLast (mRs A p bud left m) left i = mLast (mRs A p bud left n) left i := by
  induction i with
  | zero => rfl
  | succ i ih =>
    show (if _ then _ else _) = (if _ then _ else _)
    rw [mLk_of (show i < m by omega) (show i < n by omega), ih (by omega) (by omega)]
theorem mCnt_of {A : zA2} {p bud left : Int} {m n i : Nat} (h1 : i ≤ m) (h2 : i ≤ n) : mCnt (mRs A p bud left m) left i = mCnt (mRs A p bud left n) left i := by
  induction i with
  | zero => rfl
  | succ i ih =>
    show _ + (if _ then _ else _) = _ + (if _ then _ else _)
    rw [mLk_of (show i < m by omega) (show i < n by omega), ih (by omega) (by omega)]
theorem mCnt_le (l : List Int) (left : Int) (n : Nat) : 0 ≤ mCnt l left n ∧ mCnt l left n ≤ n := by
  induction n with
  | zero => exact ⟨Int.le_refl _, Int.le_refl _⟩
  | succ n ih => show 0 ≤ mCnt l left n + _ ∧ mCnt l left n + _ ≤ _; split <;> constructor <;> omega
theorem mLast_le (l : List Int) (left : Int) (n : Nat) : mLast l left n = -5 ∨ 0 ≤ mLast l left n ∧ mLast l left n < n := by
  induction n with
  | zero => exact Or.inl rfl
  | succ n ih =>
    have e : mLast l left (n + 1) = if mLk l left n = true then (n : Int) else mLast l left n := rfl
    rw [e]
    split
    · exact Or.inr ⟨by omega, by omega⟩
    · omega
/-- the words of a Linking are told: sections, levels, meant senses, own pages, the gap -/
def KWd (c : zC) (K : Int) (A : zA2) (p n : Int) : Prop := LLk c K n ∧ c K 11 = A 15 0 ∧ ∀ i : Nat, (i : Int) < n → c (K + 2) i = A 2 (20 * p + i) ∧ c (K + 4) i = (mHd A p i).2 ∧ c (K + 5) i = (mMe A p i).1 ∧ c (K + 7) i = (if 0 ≤ (mMe A p i).1 ∧ A 13 (mMe A p i).1 = p then 1 else 0)
/-- only a row of reasons and the pass have changed -/
def KP (c c' : zC) (K R : Int) : Prop := (∀ b, b ≠ R → b ≠ K + 10 → ∀ k, c' b k = c b k) ∧ (∀ b k, k < 0 → c' b k = c b k)
theorem KP.rf (c : zC) (K R : Int) : KP c c K R := ⟨fun _ _ _ _ => rfl, fun _ _ _ => rfl⟩
theorem KP.tr {c c1 c2 : zC} {K R : Int} (h : KP c c1 K R) (g : KP c1 c2 K R) : KP c c2 K R :=
  ⟨fun b hb hb2 k => (g.1 b hb hb2 k).trans (h.1 b hb hb2 k), fun b k hk => (g.2 b k hk).trans (h.2 b k hk)⟩
theorem KP.up {c c' : zC} {K R b k v : Int} (h : KP c c' K R) (h1 : b = R ∨ b = K + 10) (h3 : 0 ≤ k) : KP c (zup c' b k v) K R :=
  ⟨fun x hx hx2 y => by rw [zup_ne (by omega)]; exact h.1 x hx hx2 y, fun x y hy => by rw [zup_ne (by omega)]; exact h.2 x y hy⟩
theorem KP.row {c c' : zC} {K R : Int} (h : KP c c' K R) (hR : R = K + 8 ∨ R = K + 9) : KRow c c' K :=
  ⟨fun b hb k => h.1 b (by omega) (by omega) k, h.2⟩
theorem KP.wd {c c' : zC} {K R p n : Int} {A : zA2} (h : KWd c K A p n) (g : KP c c' K R) (hR : R = K + 8 ∨ R = K + 9) : KWd c' K A p n := by
  obtain ⟨h1, h2, h3⟩ := h
  refine ⟨(g.row hR).lk h1, by rw [g.1 K (by omega) (by omega)]; exact h2, fun i hi => ?_⟩
  rw [g.1 _ (by omega) (by omega), g.1 _ (by omega) (by omega), g.1 _ (by omega) (by omega), g.1 _ (by omega) (by omega)]
  exact h3 i hi
theorem zs_Q_start (d : Nat) {X : Int} (c : zC) (h : c X (-1) = 6) : zrun zTab (d + 1) 54 [X] c = some (0, zup (zup (zup (zup c X 0 0) X 1 0) X 2 (-5)) X 3 0) := by
  rw [ze_X5_start, if_pos h, zup_ne (by omega), if_pos h, zup_ne (by omega), zup_ne (by omega), if_pos h, zup_ne (by omega), zup_ne (by omega), zup_ne (by omega), if_pos h]
theorem zs_Q_enter (d : Nat) {X s : Int} (c : zC) (h : c X (-1) = 6) : zrun zTab (d + 1) 55 [X, s] c = some (0, if s = c X 0 then c else zup (zup c X 0 s) X 1 0) := by
  rw [ze_X5_enter, if_pos h]
  by_cases e : s = c X 0
  · rw [if_pos e, if_pos e]
  · rw [if_neg e, if_neg e, if_pos h, zup_ne (by omega), if_pos h]
theorem zs_Q_reasonFor (d : Nat) {X i s g m : Int} (c : zC) (h : c X (-1) = 6) (hi : 0 ≤ i ∧ i < 1000) (hl : -5 ≤ c X 2 ∧ c X 2 < 1000) : zrun zTab (d + 1) 56 [X, i, s, g, m] c = some (if ¬ ziand (zishr (c X 1) s) 1 = 0 then 4 else if c X 2 ≠ -5 ∧ i - c X 2 - 1 < g then 5 else if m ≤ c X 3 then 6 else 0, c) := by
  rw [ze_X5_reasonFor, if_pos h]
  have e5 : zsub (zsub i (c X 2)) 1 = i - c X 2 - 1 := by rw [zsub_id (x := i) (y := c X 2) (by omega) (by omega), zsub_id (by omega) (by omega)]
  rw [e5]
  by_cases e : ziand (zishr (c X 1) s) 1 = 0
  · rw [if_pos e, if_neg (not_not_intro e), if_pos h]
    by_cases e2 : c X 2 = -5
    · rw [if_pos e2, if_pos h, if_neg (show ¬ (c X 2 ≠ -5 ∧ i - c X 2 - 1 < g) from fun q => q.1 e2)]
      by_cases e3 : c X 3 < m
      · rw [if_pos e3, if_neg (by omega)]
      · rw [if_neg e3, if_pos (by omega)]
    · rw [if_neg e2, if_pos h]
      by_cases e4 : i - c X 2 - 1 < g
      · rw [if_pos e4, if_pos ⟨e2, e4⟩]
      · rw [if_neg e4, if_pos h, if_neg (show ¬ (c X 2 ≠ -5 ∧ i - c X 2 - 1 < g) from fun q => e4 q.2)]
        by_cases e3 : c X 3 < m
        · rw [if_pos e3, if_neg (by omega)]
        · rw [if_neg e3, if_pos (by omega)]
  · rw [if_neg e, if_pos e]
theorem zs_Q_add (d : Nat) {X i s : Int} (c : zC) (h : c X (-1) = 6) (hl : 0 ≤ c X 3 ∧ c X 3 < 1000) : zrun zTab (d + 1) 57 [X, i, s] c = some (0, zup (zup (zup c X 1 (zior (c X 1) (zishl 1 s))) X 2 i) X 3 (c X 3 + 1)) := by
  rw [ze_X5_add, if_pos h, if_pos h, zup_ne (by omega), if_pos h, zup_ne (by omega), zup_ne (by omega), if_pos h, zup_ne (by omega), zup_ne (by omega), zadd_id (by omega) (by omega), if_pos h]
section
variable {c : zC} {K n p : Int} {A : zA2} (d : Nat)
theorem zs_K_reasonInPass (h : KWd c K A p n) {i : Nat} (hi : (i : Int) < n) {most : Int} (hl : -5 ≤ c (K + 10) 2 ∧ c (K + 10) 2 < 1000) : zrun zTab (d + 2) 20 [K, (i : Int), most] c = some (if mSta A p i ≠ 0 then mSta A p i else if ¬ ziand (zishr (c (K + 10) 1) (mMe A p i).1) 1 = 0 then 4 else if c (K + 10) 2 ≠ -5 ∧ (i : Int) - c (K + 10) 2 - 1 < A 15 0 then 5 else if most ≤ c (K + 10) 3 then 6 else 0, c) := by
  obtain ⟨hk, hg, hw⟩ := h
  have hn := hk.2.2.2.2.2
  obtain ⟨w1, w2, w3, w4⟩ := hw i hi
  have h1 := hk.2.1
  have h9 := hk.2.2.1.2.2.2.2.2.2.2.2.2
  have hX := hk.2.2.2.1.2.2.2.2.2.2.2.2.2
  have hi2 : 0 ≤ (i : Int) ∧ (i : Int) < n := ⟨by omega, hi⟩
  rw [ze_X3_reasonInPass, if_pos h1, zs_K_levelAt d hk, zbnd_some, if_pos hi2, w2]
  unfold mSta
  by_cases e1 : (mHd A p i).2 = -5
  · rw [if_pos e1, if_pos e1, if_pos (by decide)]
  · rw [if_neg e1, if_neg e1, if_pos h1, zs_K_meantAt d hk, zbnd_some, if_pos hi2, w3]
    by_cases e2 : (mMe A p i).1 = -5
    · rw [if_pos e2, if_pos e2, if_pos (by decide)]
    · rw [if_neg e2, if_neg e2, if_pos h1, zs_K_own d hk (fun j j0 j1 => by
        have := (hw j.toNat (by omega)).2.2.2
        rw [show ((j.toNat : Nat) : Int) = j by omega] at this
        rw [this]; split
        · exact Or.inr rfl
        · exact Or.inl rfl), zbnd_some, if_pos hi2, w4]
      have hm : 0 ≤ (mMe A p i).1 := by have := mMe_ok A p i; omega
      by_cases e3 : A 13 (mMe A p i).1 = p
      · rw [if_pos (show 0 ≤ (mMe A p i).1 ∧ A 13 (mMe A p i).1 = p from ⟨hm, e3⟩), if_neg (by decide), if_pos e3, if_pos (by decide)]
      · rw [if_neg (show ¬ (0 ≤ (mMe A p i).1 ∧ A 13 (mMe A p i).1 = p) from fun q => e3 q.2), if_pos rfl, if_neg e3, if_neg (show ¬ ((0 : Int) ≠ 0) by decide), if_pos h1, if_pos h1, zs_K_meantAt d hk, zbnd_some, if_pos hi2, if_pos h1, h9, if_pos hX, w3, hg, zs_Q_reasonFor d c hX ⟨by omega, by omega⟩ hl, zbnd_some]
end
