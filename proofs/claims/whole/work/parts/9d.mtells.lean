/-! The reference: what an edit tells. -/
def ztl (c : zC) (x y z : Int) : zC := fun b k => if b = 681 ∧ k = 25 then x else if b = 681 ∧ k = 26 then y else if b = 681 ∧ k = 27 then z else c b k
section
variable {c : zC} {A : zA2} {f : Int → Int} {p a m n nold x y z i : Int} (d : Nat)
theorem ztl_o {b k : Int} (h : b ≠ 681 ∨ k < 25 ∨ 27 < k) : ztl c x y z b k = c b k := by unfold ztl; rw [if_neg (by omega), if_neg (by omega), if_neg (by omega)]
theorem ztl_25 : ztl c x y z 681 25 = x := if_pos ⟨rfl, rfl⟩
theorem ztl_26 : ztl c x y z 681 26 = y := by unfold ztl; rw [if_neg (by omega), if_pos ⟨rfl, rfl⟩]
theorem ztl_27 : ztl c x y z 681 27 = z := by unfold ztl; rw [if_neg (by omega), if_neg (by omega), if_pos ⟨rfl, rfl⟩]
theorem ztl_u25 {v : Int} : zup (ztl c x y z) 681 25 v = ztl c v y z := by
  funext b k
  by_cases e : b = 681 ∧ k = 25
  · rw [zup_eq e]; unfold ztl; rw [if_pos e]
  · rw [zup_ne (by omega)]; unfold ztl; rw [if_neg e, if_neg e]
theorem ztl_u26 {v : Int} : zup (ztl c x y z) 681 26 v = ztl c x v z := by
  funext b k
  by_cases e : b = 681 ∧ k = 26
  · rw [zup_eq e]; unfold ztl; rw [if_neg (by omega), if_pos e]
  · rw [zup_ne (by omega)]; unfold ztl; rw [if_neg e, if_neg e]
theorem ztl_u27 {v : Int} : zup (ztl c x y z) 681 27 v = ztl c x y v := by
  funext b k
  by_cases e : b = 681 ∧ k = 27
  · rw [zup_eq e]; unfold ztl; rw [if_neg (by omega), if_neg (by omega), if_pos e]
  · rw [zup_ne (by omega)]; unfold ztl; rw [if_neg e, if_neg e]
theorem ztl_start {v : Int} : zup (zup (zup (zup c 681 24 v) 681 25 x) 681 26 y) 681 27 z = ztl (zup c 681 24 v) x y z := by
  funext b k
  unfold ztl
  by_cases e : b = 681 ∧ k = 27
  · rw [zup_eq e, if_neg (by omega), if_neg (by omega), if_pos e]
  · rw [zup_ne (by omega)]
    by_cases e2 : b = 681 ∧ k = 26
    · rw [zup_eq e2, if_neg (by omega), if_pos e2]
    · rw [zup_ne (by omega)]
      by_cases e3 : b = 681 ∧ k = 25
      · rw [zup_eq e3, if_pos e3]
      · rw [zup_ne (c := zup c 681 24 v) (by omega), if_neg e3, if_neg e2, if_neg e]
theorem ztl_ms : MS c (ztl c x y z) := ⟨fun b k hk => ztl_o (Or.inr (Or.inl (by omega))), fun k hk => ztl_o (by omega)⟩
theorem ML.tl {bud left : Int} (h : ML c A p bud left) : ML (ztl c x y z) A p bud left := h.same (fun b _ _ _ k hk => ztl_o (by omega))
theorem zcnt_ext (C : Int → Prop) [DecidablePred C] (k : Nat) : ∀ t : Nat, (∀ i : Int, (k : Int) ≤ i → ¬ C i) → zcnt C (k + t) = zcnt C k ∧ eFst C (k + t) = eFst C k := by
  intro t
  induction t with
  | zero => intro _; exact ⟨rfl, rfl⟩
  | succ t ih =>
    intro h
    obtain ⟨i1, i2⟩ := ih h
    have no : ¬ C ((k + t : Nat) : Int) := h _ (by omega)
    refine ⟨?_, ?_⟩
    · show zcnt C (k + t) + (if C ((k + t : Nat) : Int) then 1 else 0) = _
      rw [if_neg no, i1]; omega
    · show (if C ((k + t : Nat) : Int) then _ else eFst C (k + t)) = _
      rw [if_neg no, i2]
theorem zm_tells_128 {x2 x3 x4 x5 x6 : Int} (h : MO c) (hx : 0 ≤ x ∧ x < 1000) (hi : 0 ≤ i ∧ i < 100) (F : Nat) : zex zc_X12_tells zk_X12_tells (zrun zTab d) (F + 1) 128 [(2, 681), (0, p), (0, x2), (0, x3), (0, x4), (0, x5), (0, x6), (0, i), (3, 0)] [] (ztl c x y z) = zex zc_X12_tells zk_X12_tells (zrun zTab d) F 52 [(2, 681), (0, p), (0, x2), (0, x3), (0, x4), (0, x5), (0, x6), (0, i + 1), (3, 0)] [] (ztl c (x + 1) y (if z = -5 then i else z)) := by
  have m1 : MO (ztl c x y z) := h.ms ztl_ms
  have m2 : MO (ztl c (x + 1) y z) := h.ms ztl_ms
  rw [ze_X12_tells_128, if_pos m1.k, if_pos m1.k, ztl_25, zadd_id (by omega) (by omega), ztl_u25, if_pos m2.k, ztl_27, zw_id' (by omega) (by omega)]
  by_cases e : z = -5
  · rw [if_pos e, if_pos m2.k, ztl_u27, if_pos e]
  · rw [if_neg e, if_pos m2.k, if_pos m2.k, ztl_u27, if_neg e]
/-- what a link of the new side needs -/
abbrev EC (A : zA2) (p : Int) (f : Int → Int) (a m n : Int) (i : Int) : Prop := eOn (mTo A p) i f (ePl i a n m)
abbrev ED (A : zA2) (p : Int) (f : Int → Int) (a m n : Int) (i : Int) : Prop := eOn f i (mTo A p) (ePl i a m n)
theorem zm_tells_52 (h : MO c) (hp : isP p) (l : ML c A p (A 1 p) (-1)) (e0 : c 682 (242 * p) = A 0 p) (n20 : 0 ≤ A 0 p ∧ A 0 p ≤ 20) (ho : 0 ≤ nold ∧ nold ≤ 20) (hn : A 0 p = nold + n - m) (ha : 0 ≤ a ∧ a + m ≤ nold) (hmn : m = 0 ∧ n = 1 ∨ m = 1 ∧ n = 1 ∨ m = 1 ∧ n = 0) (hrow : ∀ k, 0 ≤ k → k < nold → c 696 k = mN (f k)) (hf : ∀ k, f k = -5 ∨ 0 ≤ f k) : ∀ (t F i : Nat), 3 * t ≤ F → (i : Int) + t = A 0 p → ∃ F', F ≤ F' + 3 * t ∧ zex zc_X12_tells zk_X12_tells (zrun zTab (d + 1)) (F + 1) 52 [(2, 681), (0, p), (0, nold), (0, a), (0, m), (0, n), (0, n - m), (0, (i : Int)), (3, 0)] [] (ztl c (zcnt (EC A p f a m n) i) 0 (eFst (EC A p f a m n) i)) = zex zc_X12_tells zk_X12_tells (zrun zTab (d + 1)) F' 169 [(2, 681), (3, 0), (0, nold), (0, a), (0, m), (3, 0), (0, n - m), (0, 0), (3, 0)] [] (ztl c (zcnt (EC A p f a m n) (A 0 p).toNat) 0 (eFst (EC A p f a m n) (A 0 p).toNat)) := by
  intro t
  induction t with
  | zero =>
    intro F i hF hi
    have m1 : MO (ztl c (zcnt (EC A p f a m n) i) 0 (eFst (EC A p f a m n) i)) := h.ms ztl_ms
    refine ⟨F, by omega, ?_⟩
    rw [ze_X12_tells_52, if_pos m1.k, zm_words d m1 hp, zbnd_some, ztl_o (Or.inl (by decide)), e0, if_neg (by omega), show (A 0 p).toNat = i by omega]
  | succ t ih =>
    intro F i hF hi
    obtain ⟨F, rfl⟩ : ∃ G, F = G + 3 := ⟨F - 3, by omega⟩
    have cl := zcnt_le (EC A p f a m n) i
    have m1 : MO (ztl c (zcnt (EC A p f a m n) i) 0 (eFst (EC A p f a m n) i)) := h.ms ztl_ms
    have lk := (l.tl (x := zcnt (EC A p f a m n) i) (y := 0) (z := eFst (EC A p f a m n) i)).to d m1 n20.2 (k := (i : Int)) (by omega) (by omega)
    have s1 : zcnt (EC A p f a m n) (i + 1) = zcnt (EC A p f a m n) i + (if EC A p f a m n (i : Int) then 1 else 0) := rfl
    have s2 : eFst (EC A p f a m n) (i + 1) = if EC A p f a m n (i : Int) then (if eFst (EC A p f a m n) i = -5 then (i : Int) else eFst (EC A p f a m n) i) else eFst (EC A p f a m n) i := rfl
    have nx : ¬ EC A p f a m n (i : Int) → ∀ F1, 3 * t ≤ F1 → ∃ F', F1 ≤ F' + 3 * t ∧ zex zc_X12_tells zk_X12_tells (zrun zTab (d + 1)) (F1 + 1) 52 [(2, 681), (0, p), (0, nold), (0, a), (0, m), (0, n), (0, n - m), (0, (i : Int) + 1), (3, 0)] [] (ztl c (zcnt (EC A p f a m n) i) 0 (eFst (EC A p f a m n) i)) = zex zc_X12_tells zk_X12_tells (zrun zTab (d + 1)) F' 169 [(2, 681), (3, 0), (0, nold), (0, a), (0, m), (3, 0), (0, n - m), (0, 0), (3, 0)] [] (ztl c (zcnt (EC A p f a m n) (A 0 p).toNat) 0 (eFst (EC A p f a m n) (A 0 p).toNat)) := fun no F1 hF1 => by
      obtain ⟨F', r1, r2⟩ := ih F1 (i + 1) hF1 (by omega)
      rw [if_neg no, Int.add_zero] at s1
      rw [if_neg no] at s2
      rw [s1, s2, show ((i + 1 : Nat) : Int) = (i : Int) + 1 by omega] at r2
      exact ⟨F', r1, r2⟩
    have ct : EC A p f a m n (i : Int) → ∀ F1, 3 * t ≤ F1 → ∃ F', F1 ≤ F' + 3 * t ∧ zex zc_X12_tells zk_X12_tells (zrun zTab (d + 1)) (F1 + 1 + 1) 128 [(2, 681), (0, p), (0, nold), (0, a), (0, m), (0, n), (0, n - m), (0, (i : Int)), (3, 0)] [] (ztl c (zcnt (EC A p f a m n) i) 0 (eFst (EC A p f a m n) i)) = zex zc_X12_tells zk_X12_tells (zrun zTab (d + 1)) F' 169 [(2, 681), (3, 0), (0, nold), (0, a), (0, m), (3, 0), (0, n - m), (0, 0), (3, 0)] [] (ztl c (zcnt (EC A p f a m n) (A 0 p).toNat) 0 (eFst (EC A p f a m n) (A 0 p).toNat)) := fun yes F1 hF1 => by
      obtain ⟨F', r1, r2⟩ := ih F1 (i + 1) hF1 (by omega)
      rw [if_pos yes] at s1 s2
      rw [s1, s2, show ((i + 1 : Nat) : Int) = (i : Int) + 1 by omega] at r2
      refine ⟨F', r1, ?_⟩
      rw [zm_tells_128 (d + 1) h (by omega) (by omega)]
      exact r2
    clear s1 s2
    have i0 : 0 ≤ (i : Int) := Int.natCast_nonneg i
    have i20 : (i : Int) < 20 := by omega
    have rg := mTo_rng A p (i : Int)
    -- the place of the old side
    have at88 : a + n ≤ (i : Int) → ∃ F', F + 3 ≤ F' + 3 * (t + 1) ∧ zex zc_X12_tells zk_X12_tells (zrun zTab (d + 1)) (F + 3) 88 [(2, 681), (0, p), (0, nold), (0, a), (0, m), (0, n), (0, n - m), (0, (i : Int)), (3, 0)] [] (ztl c (zcnt (EC A p f a m n) i) 0 (eFst (EC A p f a m n) i)) = zex zc_X12_tells zk_X12_tells (zrun zTab (d + 1)) F' 169 [(2, 681), (3, 0), (0, nold), (0, a), (0, m), (3, 0), (0, n - m), (0, 0), (3, 0)] [] (ztl c (zcnt (EC A p f a m n) (A 0 p).toNat) 0 (eFst (EC A p f a m n) (A 0 p).toNat)) := fun hb => by
      have ep : ePl (i : Int) a n m = (i : Int) - n + m := by unfold ePl; rw [if_neg (by omega), if_neg (by omega)]
      rw [show F + 3 = F + 2 + 1 from rfl, ze_X12_tells_88, if_pos m1.k, lk, zbnd_some]
      by_cases g5 : mTo A p (i : Int) = -5
      · obtain ⟨F', r1, r2⟩ := nx (fun q => q.1 g5) (F + 1) (by omega)
        rw [if_pos ((mN_neg rg).mpr g5), zw_id' (by omega) (by omega)]
        exact ⟨F', by omega, r2⟩
      · have fr := hf ((i : Int) - n + m)
        rw [if_neg (fun q => g5 ((mN_neg rg).mp q)), zsub_id (by omega) (by omega), show (i : Int) - (n - m) = (i : Int) - n + m by omega, if_neg (by omega), if_pos m1.k, m1.f.2.2.2.2.2.2.2.2.2.2.2.2.2.2.1, if_pos (m1.r696 (by omega) (by omega)), if_pos m1.k, lk, zbnd_some, ztl_o (Or.inl (by decide)), hrow _ (by omega) (by omega)]
        by_cases e : f ((i : Int) - n + m) = mTo A p (i : Int)
        · obtain ⟨F', r1, r2⟩ := nx (fun q => by
            have q2 := q.2
            rw [ep] at q2
            rcases q2 with u | u | u
            · omega
            · omega
            · exact u e) (F + 1) (by omega)
          rw [if_pos ((mN_inj fr rg).mpr e), zw_id' (by omega) (by omega)]
          exact ⟨F', by omega, r2⟩
        · obtain ⟨F', r1, r2⟩ := ct ⟨g5, Or.inr (Or.inr (by rw [ep]; exact e))⟩ F (by omega)
          rw [if_neg (fun q => e ((mN_inj fr rg).mp q))]
          exact ⟨F', by omega, r2⟩
    rw [show F + 3 + 1 = F + 2 + 1 + 1 from rfl, ze_X12_tells_52, if_pos m1.k, zm_words d m1 hp, zbnd_some, ztl_o (Or.inl (by decide)), e0, if_pos (show (i : Int) < A 0 p by omega)]
    by_cases e1 : (i : Int) < a
    · have ep : ePl (i : Int) a n m = (i : Int) := by unfold ePl; rw [if_pos e1]
      rw [if_pos e1, if_pos m1.k, lk, zbnd_some]
      have io : (i : Int) < nold := by omega
      have iz : ¬ (i : Int) < 0 := by omega
      by_cases g5 : mTo A p (i : Int) = -5
      · obtain ⟨F', r1, r2⟩ := nx (fun q => q.1 g5) (F + 2) (by omega)
        rw [if_pos ((mN_neg rg).mpr g5), zw_id' (by omega) (by omega)]
        exact ⟨F', by omega, r2⟩
      · have fr := hf (i : Int)
        rw [if_neg (fun q => g5 ((mN_neg rg).mp q)), if_neg iz, if_pos m1.k, m1.f.2.2.2.2.2.2.2.2.2.2.2.2.2.2.1, if_pos (m1.r696 i0 i20), if_pos m1.k, lk, zbnd_some, ztl_o (Or.inl (by decide)), hrow _ i0 io]
        by_cases e : f (i : Int) = mTo A p (i : Int)
        · obtain ⟨F', r1, r2⟩ := nx (fun q => by
            have q2 := q.2
            rw [ep] at q2
            rcases q2 with u | u | u
            · omega
            · omega
            · exact u e) (F + 2) (by omega)
          rw [if_pos ((mN_inj fr rg).mpr e), zw_id' (by omega) (by omega)]
          exact ⟨F', by omega, r2⟩
        · obtain ⟨F', r1, r2⟩ := ct ⟨g5, Or.inr (Or.inr (by rw [ep]; exact e))⟩ (F + 1) (by omega)
          rw [if_neg (fun q => e ((mN_inj fr rg).mp q))]
          exact ⟨F', by omega, r2⟩
    · rw [if_neg e1]
      by_cases e2 : (i : Int) = a
      · by_cases e3 : n = 0
        · rw [if_pos e2, if_pos e3]
          exact at88 (by omega)
        · have ep : ePl (i : Int) a n m = -5 := by unfold ePl; rw [if_neg e1, if_pos (by omega)]
          rw [if_pos e2, if_neg e3, if_pos m1.k, lk, zbnd_some]
          by_cases g5 : mTo A p (i : Int) = -5
          · obtain ⟨F', r1, r2⟩ := nx (fun q => q.1 g5) (F + 2) (by omega)
            rw [if_pos ((mN_neg rg).mpr g5), zw_id' (by omega) (by omega)]
            exact ⟨F', by omega, r2⟩
          · obtain ⟨F', r1, r2⟩ := ct ⟨g5, Or.inl (by rw [ep]; decide)⟩ (F + 1) (by omega)
            rw [if_neg (fun q => g5 ((mN_neg rg).mp q))]
            exact ⟨F', by omega, r2⟩
      · rw [if_neg e2]
        exact at88 (by omega)
theorem zm_tells_206 {x2 x3 x4 x6 s0 : Int} (h : MO c) (l : ML c A p (A 1 p) (-1)) (n20 : 0 ≤ A 0 p ∧ A 0 p ≤ 20) (hi : 0 ≤ i ∧ i < 20) (hrow : c 696 i = mN (f i)) (hf : ∀ k, f k = -5 ∨ 0 ≤ f k) (hs : s0 = -1 ∨ 0 ≤ s0 ∧ s0 < A 0 p) (hy : 0 ≤ y ∧ y < 1000) (P : Prop) [Decidable P] (hP : P ↔ f i ≠ -5 ∧ (s0 < 0 ∨ mTo A p s0 ≠ f i)) (F : Nat) : zex zc_X12_tells zk_X12_tells (zrun zTab (d + 1)) (F + 1) 206 [(2, 681), (3, 0), (0, x2), (0, x3), (0, x4), (3, 0), (0, x6), (0, i), (3, 0)] [(0, s0)] (ztl c x y z) = zex zc_X12_tells zk_X12_tells (zrun zTab (d + 1)) F 169 [(2, 681), (3, 0), (0, x2), (0, x3), (0, x4), (3, 0), (0, x6), (0, i + 1), (3, 0)] [] (ztl c x (y + (if P then 1 else 0)) z) := by
  have m1 : MO (ztl c x y z) := h.ms ztl_ms
  have fr := hf i
  have e696 : ztl c x y z 696 i = mN (f i) := by rw [ztl_o (Or.inl (by decide))]; exact hrow
  rw [ze_X12_tells_206, if_pos m1.k, if_pos m1.k, m1.f.2.2.2.2.2.2.2.2.2.2.2.2.2.2.1, if_pos (m1.r696 hi.1 hi.2), e696, ztl_26, zw_id' (by omega) (by omega)]
  by_cases e1 : f i = -5
  · rw [if_pos ((mN_neg fr).mpr e1), if_pos m1.k, zadd_id (by omega) (by omega), ztl_u26, if_neg (fun q => (hP.mp q).1 e1)]
  · rw [if_neg (fun q => e1 ((mN_neg fr).mp q))]
    rcases hs with hs | hs
    · rw [if_pos (by omega), if_pos m1.k, zadd_id (by omega) (by omega), ztl_u26, if_pos (hP.mpr ⟨e1, Or.inl (by omega)⟩)]
    · have rg := mTo_rng A p s0
      rw [if_neg (by omega), if_pos m1.k, l.tl.to d m1 n20.2 hs.1 hs.2, zbnd_some, if_pos m1.k, m1.f.2.2.2.2.2.2.2.2.2.2.2.2.2.2.1, if_pos (m1.r696 hi.1 hi.2), e696]
      by_cases e2 : mTo A p s0 = f i
      · rw [if_pos ((mN_inj rg fr).mpr e2), if_pos m1.k, zadd_id (by omega) (by omega), ztl_u26, if_neg (fun q => by
          rcases (hP.mp q).2 with u | u
          · omega
          · exact u e2)]
      · rw [if_neg (fun q => e2 ((mN_inj rg fr).mp q)), if_pos m1.k, zadd_id (by omega) (by omega), ztl_u26, if_pos (hP.mpr ⟨e1, Or.inr e2⟩)]
theorem zm_tells_169 (h : MO c) (l : ML c A p (A 1 p) (-1)) (n20 : 0 ≤ A 0 p ∧ A 0 p ≤ 20) (ho : 0 ≤ nold ∧ nold ≤ 20) (hn : A 0 p = nold + n - m) (ha : 0 ≤ a ∧ a + m ≤ nold) (hmn : m = 0 ∧ n = 1 ∨ m = 1 ∧ n = 1 ∨ m = 1 ∧ n = 0) (hrow : ∀ k, 0 ≤ k → k < nold → c 696 k = mN (f k)) (hf : ∀ k, f k = -5 ∨ 0 ≤ f k) : ∀ (t F i : Nat), 2 * t ≤ F → (i : Int) + t = nold → zex zc_X12_tells zk_X12_tells (zrun zTab (d + 1)) (F + 1) 169 [(2, 681), (3, 0), (0, nold), (0, a), (0, m), (3, 0), (0, n - m), (0, (i : Int)), (3, 0)] [] (ztl c x (zcnt (ED A p f a m n) i) z) = some (0, ztl c x (zcnt (ED A p f a m n) nold.toNat) z) := by
  intro t
  induction t with
  | zero =>
    intro F i hF hi
    rw [ze_X12_tells_169, if_neg (by omega), show nold.toNat = i by omega]
  | succ t ih =>
    intro F i hF hi
    obtain ⟨F, rfl⟩ : ∃ G, F = G + 2 := ⟨F - 2, by omega⟩
    have cl := zcnt_le (ED A p f a m n) i
    have st : zcnt (ED A p f a m n) (i + 1) = zcnt (ED A p f a m n) i + (if ED A p f a m n (i : Int) then 1 else 0) := rfl
    have nxt := ih F (i + 1) (by omega) (by omega)
    rw [st, show ((i + 1 : Nat) : Int) = (i : Int) + 1 by omega] at nxt
    have go : ∀ s0 : Int, (s0 = -1 ∨ 0 ≤ s0 ∧ s0 < A 0 p) → (ED A p f a m n (i : Int) ↔ f (i : Int) ≠ -5 ∧ (s0 < 0 ∨ mTo A p s0 ≠ f (i : Int))) → zex zc_X12_tells zk_X12_tells (zrun zTab (d + 1)) (F + 2) 206 [(2, 681), (3, 0), (0, nold), (0, a), (0, m), (3, 0), (0, n - m), (0, (i : Int)), (3, 0)] [(0, s0)] (ztl c x (zcnt (ED A p f a m n) i) z) = some (0, ztl c x (zcnt (ED A p f a m n) nold.toNat) z) := fun s0 hs hP => by
      rw [show F + 2 = F + 1 + 1 from rfl, zm_tells_206 d h l n20 (by omega) (hrow _ (by omega) (by omega)) hf hs (by omega) (ED A p f a m n (i : Int)) hP]
      exact nxt
    rw [show F + 2 + 1 = F + 1 + 1 + 1 from rfl, ze_X12_tells_169, if_pos (by omega)]
    by_cases e1 : (i : Int) < a
    · have ep : ePl (i : Int) a m n = (i : Int) := by unfold ePl; rw [if_pos e1]
      rw [if_pos e1]
      refine go _ (Or.inr (by omega)) ?_
      show (f (i : Int) ≠ -5 ∧ (ePl (i : Int) a m n < 0 ∨ 20 ≤ ePl (i : Int) a m n ∨ mTo A p (ePl (i : Int) a m n) ≠ f (i : Int))) ↔ _
      rw [ep]
      exact ⟨fun q => ⟨q.1, q.2.imp id (fun u => u.resolve_left (by omega))⟩, fun q => ⟨q.1, q.2.imp id Or.inr⟩⟩
    · by_cases e2 : (i : Int) < a + m
      · have ep : ePl (i : Int) a m n = -5 := by unfold ePl; rw [if_neg e1, if_pos e2]
        rw [if_neg e1, if_pos (show (i : Int) = a by omega), if_neg (show ¬ m = 0 by omega)]
        refine go _ (Or.inl rfl) ?_
        show (f (i : Int) ≠ -5 ∧ (ePl (i : Int) a m n < 0 ∨ 20 ≤ ePl (i : Int) a m n ∨ mTo A p (ePl (i : Int) a m n) ≠ f (i : Int))) ↔ _
        rw [ep]
        exact ⟨fun q => ⟨q.1, Or.inl (by decide)⟩, fun q => ⟨q.1, Or.inl (by decide)⟩⟩
      · have ep : ePl (i : Int) a m n = (i : Int) + (n - m) := by unfold ePl; rw [if_neg e1, if_neg e2]; omega
        have last := go ((i : Int) + (n - m)) (Or.inr (by omega)) (by
          show (f (i : Int) ≠ -5 ∧ (ePl (i : Int) a m n < 0 ∨ 20 ≤ ePl (i : Int) a m n ∨ mTo A p (ePl (i : Int) a m n) ≠ f (i : Int))) ↔ _
          rw [ep]
          exact ⟨fun q => ⟨q.1, q.2.imp id (fun u => u.resolve_left (by omega))⟩, fun q => ⟨q.1, q.2.imp id Or.inr⟩⟩)
        rw [if_neg e1, zadd_id (by omega) (by omega)]
        by_cases e3 : (i : Int) = a
        · rw [if_pos e3, if_pos (show m = 0 by omega)]
          exact last
        · rw [if_neg e3]
          exact last
end
