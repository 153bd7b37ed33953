/-! The class's links of a page: where they lie, the reading methods. -/
/-- the cells of a Linking: 71 from K on; n words -/
def LLk (c : zC) (K n : Int) : Prop := 0 < K ∧ c K (-1) = 4 ∧ (c K 0 = K + 1 ∧ c K 1 = K + 2 ∧ c K 2 = K + 3 ∧ c K 3 = K + 4 ∧ c K 4 = K + 5 ∧ c K 5 = K + 6 ∧ c K 6 = K + 7 ∧ c K 7 = K + 8 ∧ c K 8 = K + 9 ∧ c K 9 = K + 10) ∧
  (LArr c (K + 1) 110 20 ∧ LArr c (K + 2) 100 20 ∧ LArr c (K + 3) 101 20 ∧ LArr c (K + 4) 100 20 ∧ LArr c (K + 5) 100 20 ∧ LArr c (K + 6) 100 20 ∧ LArr c (K + 7) 102 20 ∧ LArr c (K + 8) 100 20 ∧ LArr c (K + 9) 100 20 ∧ c (K + 10) (-1) = 6) ∧ c K 10 = n ∧ 0 ≤ n ∧ n ≤ 20
def LLb (c : zC) (K : Int) : Prop := ∀ i, 0 ≤ i → i < 20 → c (K + 1) i = K + 11 + 3 * i ∧ BShape c (K + 11 + 3 * i)
section
variable {c : zC} {K n i : Int} (d : Nat)
theorem zs_K_basesAt (h : LLk c K n) (hb : LLb c K) : zrun zTab (d + 1) 22 [K, i] c = some (if 0 ≤ i ∧ i < n then K + 11 + 3 * i else 0, c) := by
  obtain ⟨h0, h1, ⟨f0, -⟩, ⟨⟨a1, a2⟩, -⟩, hn, n0, n20⟩ := h
  rw [ze_X3_basesAt]
  by_cases e : 0 ≤ i ∧ i < n
  · rw [if_pos e, if_neg (by omega), if_pos h1, hn, if_pos e.2, if_pos h1, f0, if_pos a1, a2, if_pos (by omega), if_pos h1, if_pos ⟨a1, e.1, by omega⟩, (hb i e.1 (by omega)).1]
  · rw [if_neg e]
    by_cases e2 : i < 0
    · rw [if_pos e2]
    · rw [if_neg e2, if_pos h1, hn, if_neg (by omega)]
theorem zs_K_sectionAt (h : LLk c K n) : zrun zTab (d + 1) 24 [K, i] c = some (if 0 ≤ i ∧ i < n then c (K + 2) i else -5, c) := by
  obtain ⟨h0, h1, ⟨f0, f1, f2, f3, f4, f5, f6, f7, f8, f9⟩, ⟨-, ⟨a1, a2⟩, -⟩, hn, n0, n20⟩ := h
  rw [ze_X3_sectionAt]
  grind
theorem zs_K_levelAt (h : LLk c K n) : zrun zTab (d + 1) 25 [K, i] c = some (if 0 ≤ i ∧ i < n then c (K + 4) i else -5, c) := by
  obtain ⟨h0, h1, ⟨f0, f1, f2, f3, f4, f5, f6, f7, f8, f9⟩, ⟨-, -, -, ⟨a1, a2⟩, -⟩, hn, n0, n20⟩ := h
  rw [ze_X3_levelAt]
  grind
theorem zs_K_meantAt (h : LLk c K n) : zrun zTab (d + 1) 26 [K, i] c = some (if 0 ≤ i ∧ i < n then c (K + 5) i else -5, c) := by
  obtain ⟨h0, h1, ⟨f0, f1, f2, f3, f4, f5, f6, f7, f8, f9⟩, ⟨-, -, -, -, ⟨a1, a2⟩, -⟩, hn, n0, n20⟩ := h
  rw [ze_X3_meantAt]
  grind
theorem zs_K_scoreAt (h : LLk c K n) : zrun zTab (d + 1) 27 [K, i] c = some (if 0 ≤ i ∧ i < n then c (K + 6) i else -5, c) := by
  obtain ⟨h0, h1, ⟨f0, f1, f2, f3, f4, f5, f6, f7, f8, f9⟩, ⟨-, -, -, -, -, ⟨a1, a2⟩, -⟩, hn, n0, n20⟩ := h
  rw [ze_X3_scoreAt]
  grind
theorem zs_K_reasonAt (h : LLk c K n) : zrun zTab (d + 1) 28 [K, i] c = some (if 0 ≤ i ∧ i < n then c (K + 8) i else -5, c) := by
  obtain ⟨h0, h1, ⟨f0, f1, f2, f3, f4, f5, f6, f7, f8, f9⟩, ⟨-, -, -, -, -, -, -, ⟨a1, a2⟩, -⟩, hn, n0, n20⟩ := h
  rw [ze_X3_reasonAt]
  grind
theorem zs_K_own (h : LLk c K n) (hz : ∀ i, 0 ≤ i → i < n → c (K + 7) i = 0 ∨ c (K + 7) i = 1) : zrun zTab (d + 1) 21 [K, i] c = some (if 0 ≤ i ∧ i < n then c (K + 7) i else 0, c) := by
  obtain ⟨h0, h1, ⟨f0, f1, f2, f3, f4, f5, f6, f7, f8, f9⟩, ⟨-, -, -, -, -, -, ⟨a1, a2⟩, -⟩, hn, n0, n20⟩ := h
  have hz := hz i
  rw [ze_X3_isOnOwnPage]
  by_cases e : 0 ≤ i ∧ i < n
  · have hz := hz e.1 e.2
    grind
  · clear hz
    grind
theorem zs_K_linkedSenseAt (h : LLk c K n) : zrun zTab (d + 2) 29 [K, i] c = some (if 0 ≤ i ∧ i < n ∧ c (K + 8) i = 0 then c (K + 5) i else -5, c) := by
  have h1 := h.2.1
  rw [ze_X3_linkedSenseAt, if_pos h1, zs_K_reasonAt d h, zbnd_some]
  by_cases e : 0 ≤ i ∧ i < n
  · rw [if_pos e]
    by_cases e2 : c (K + 8) i = 0
    · rw [if_pos e2, if_pos (show 0 ≤ i ∧ i < n ∧ c (K + 8) i = 0 from ⟨e.1, e.2, e2⟩), if_pos h1, zs_K_meantAt d h, zbnd_some, if_pos e]
    · rw [if_neg e2, if_neg (fun q => e2 q.2.2)]
  · rw [if_neg e, if_neg (by decide), if_neg (fun q => e ⟨q.1, q.2.1⟩)]
theorem zs_K_baseCountAt (h : LLk c K n) (hb : LLb c K) : zrun zTab (d + 2) 23 [K, i] c = some (if 0 ≤ i ∧ i < n then c (K + 11 + 3 * i) 2 else 0, c) := by
  have h1 := h.2.1
  have h0 := h.1
  have hn := h.2.2.2.2.2
  rw [ze_X3_baseCountAt, if_pos h1, zs_K_basesAt d h hb, zbnd_some]
  by_cases e : 0 ≤ i ∧ i < n
  · rw [if_pos e, if_pos e, if_neg (by omega), if_pos (hb i e.1 (by omega)).2.1]
  · rw [if_neg e, if_neg e, if_pos rfl]
end
/-- counts over the words of a page, as the class counts -/
def zcnt (f : Int → Prop) [DecidablePred f] : Nat → Int
  | 0 => 0
  | n + 1 => zcnt f n + (if f (n : Int) then 1 else 0)
theorem zcnt_le (f : Int → Prop) [DecidablePred f] (n : Nat) : 0 ≤ zcnt f n ∧ zcnt f n ≤ n := by
  induction n with
  | zero => exact ⟨Int.le_refl _, Int.le_refl _⟩
  | succ n ih => show 0 ≤ zcnt f n + _ ∧ zcnt f n + _ ≤ _; split <;> constructor <;> omega
theorem zcnt_congr {f g : Int → Prop} [DecidablePred f] [DecidablePred g] {n : Nat} (h : ∀ i : Nat, i < n → (f i ↔ g i)) : zcnt f n = zcnt g n := by
  induction n with
  | zero => rfl
  | succ n ih =>
    show zcnt f n + (if f n then 1 else 0) = zcnt g n + (if g n then 1 else 0)
    rw [ih (fun i hi => h i (by omega))]
    have := h n (by omega)
    by_cases e : f n
    · rw [if_pos e, if_pos (this.mp e)]
    · rw [if_neg e, if_neg (fun q => e (this.mpr q))]
section
variable {c : zC} {K n : Int} (d : Nat)
theorem zs_K_wwr_l (h : LLk c K n) (r : Int) : ∀ (t F i : Nat) (s : Int), t ≤ F → (i : Int) + t = n → s = zcnt (fun j => c (K + 8) j = r) i → zex zc_X3_wordsWithReason zk_X3_wordsWithReason (zrun zTab (d + 1)) (F + 1) 4 [(2, K), (0, r), (0, s), (0, (i : Int))] [] c = some (zcnt (fun j => c (K + 8) j = r) n.toNat, c) := by
  have h1 := h.2.1
  have hn := h.2.2.2.2
  intro t
  induction t with
  | zero =>
    intro F i s hF hi hs
    rw [ze_X3_wordsWithReason_4, if_pos h1, hn.1, if_neg (by omega), hs, show n.toNat = i by omega]
  | succ t ih =>
    intro F i s hF hi hs
    obtain ⟨F, rfl⟩ : ∃ G, F = G + 1 := ⟨F - 1, by omega⟩
    have hc := zcnt_le (fun j => c (K + 8) j = r) i
    have hs2 : zcnt (fun j => c (K + 8) j = r) (i + 1) = s + (if c (K + 8) i = r then 1 else 0) := by rw [hs]; rfl
    rw [ze_X3_wordsWithReason_4, if_pos h1, hn.1, if_pos (by omega), if_pos h1, zs_K_reasonAt d h, zbnd_some, if_pos (show 0 ≤ (i : Int) ∧ (i : Int) < n from ⟨by omega, by omega⟩), zw_id' (by omega) (by omega), show (i : Int) + 1 = ((i + 1 : Nat) : Int) by omega]
    by_cases e : c (K + 8) i = r
    · rw [if_pos e] at hs2
      rw [if_pos e, zadd_id (by omega) (by omega)]
      exact ih F (i + 1) _ (by omega) (by omega) (by omega)
    · rw [if_neg e] at hs2
      rw [if_neg e, zadd_id (by omega) (by omega)]
      exact ih F (i + 1) _ (by omega) (by omega) (by omega)
theorem zs_K_wordsWithReason (h : LLk c K n) (r : Int) : zrun zTab (d + 2) 31 [K, r] c = some (zcnt (fun j => c (K + 8) j = r) n.toNat, c) := by
  have hn := h.2.2.2.2
  rw [ze_X3_wordsWithReason]
  exact zs_K_wwr_l d h r n.toNat 19998 0 0 (by omega) (by omega) rfl
theorem zs_K_wlt_l (h : LLk c K n) (r : Int) : ∀ (t F i : Nat) (s : Int), t ≤ F → (i : Int) + t = n → s = zcnt (fun j => (if c (K + 8) j = 0 then c (K + 5) j else -5) = r) i → zex zc_X3_wordsLinkedTo zk_X3_wordsLinkedTo (zrun zTab (d + 2)) (F + 1) 4 [(2, K), (0, r), (0, s), (0, (i : Int))] [] c = some (zcnt (fun j => (if c (K + 8) j = 0 then c (K + 5) j else -5) = r) n.toNat, c) := by
  have h1 := h.2.1
  have hn := h.2.2.2.2
  intro t
  induction t with
  | zero =>
    intro F i s hF hi hs
    rw [ze_X3_wordsLinkedTo_4, if_pos h1, hn.1, if_neg (by omega), hs, show n.toNat = i by omega]
  | succ t ih =>
    intro F i s hF hi hs
    obtain ⟨F, rfl⟩ : ∃ G, F = G + 1 := ⟨F - 1, by omega⟩
    have hc := zcnt_le (fun j => (if c (K + 8) j = 0 then c (K + 5) j else -5) = r) i
    have hs2 : zcnt (fun j => (if c (K + 8) j = 0 then c (K + 5) j else -5) = r) (i + 1) = s + (if (if c (K + 8) i = 0 then c (K + 5) i else -5) = r then 1 else 0) := by rw [hs]; rfl
    have hl : (if 0 ≤ (i : Int) ∧ (i : Int) < n ∧ c (K + 8) i = 0 then c (K + 5) i else -5) = (if c (K + 8) i = 0 then c (K + 5) i else -5) := by
      by_cases e : c (K + 8) i = 0
      · rw [if_pos e, if_pos ⟨by omega, by omega, e⟩]
      · rw [if_neg e, if_neg (fun q => e q.2.2)]
    rw [ze_X3_wordsLinkedTo_4, if_pos h1, hn.1, if_pos (by omega), if_pos h1, zs_K_linkedSenseAt d h, zbnd_some, hl, zw_id' (by omega) (by omega), show (i : Int) + 1 = ((i + 1 : Nat) : Int) by omega]
    by_cases e : (if c (K + 8) i = 0 then c (K + 5) i else -5) = r
    · rw [if_pos e] at hs2
      rw [if_pos e, zadd_id (by omega) (by omega)]
      exact ih F (i + 1) _ (by omega) (by omega) (by omega)
    · rw [if_neg e] at hs2
      rw [if_neg e, zadd_id (by omega) (by omega)]
      exact ih F (i + 1) _ (by omega) (by omega) (by omega)
theorem zs_K_wordsLinkedTo (h : LLk c K n) (r : Int) : zrun zTab (d + 3) 32 [K, r] c = some (zcnt (fun j => (if c (K + 8) j = 0 then c (K + 5) j else -5) = r) n.toNat, c) := by
  have hn := h.2.2.2.2
  rw [ze_X3_wordsLinkedTo]
  exact zs_K_wlt_l d h r n.toNat 19998 0 0 (by omega) (by omega) rfl
theorem zs_K_wtm_l (h : LLk c K n) (r : Int) : ∀ (t F i : Nat) (s : Int), t ≤ F → (i : Int) + t = n → s = zcnt (fun j => c (K + 5) j = r) i → zex zc_X3_wordsThatMean zk_X3_wordsThatMean (zrun zTab (d + 1)) (F + 1) 4 [(2, K), (0, r), (0, s), (0, (i : Int))] [] c = some (zcnt (fun j => c (K + 5) j = r) n.toNat, c) := by
  have h1 := h.2.1
  have hn := h.2.2.2.2
  intro t
  induction t with
  | zero =>
    intro F i s hF hi hs
    rw [ze_X3_wordsThatMean_4, if_pos h1, hn.1, if_neg (by omega), hs, show n.toNat = i by omega]
  | succ t ih =>
    intro F i s hF hi hs
    obtain ⟨F, rfl⟩ : ∃ G, F = G + 1 := ⟨F - 1, by omega⟩
    have hc := zcnt_le (fun j => c (K + 5) j = r) i
    have hs2 : zcnt (fun j => c (K + 5) j = r) (i + 1) = s + (if c (K + 5) i = r then 1 else 0) := by rw [hs]; rfl
    rw [ze_X3_wordsThatMean_4, if_pos h1, hn.1, if_pos (by omega), if_pos h1, zs_K_meantAt d h, zbnd_some, if_pos (show 0 ≤ (i : Int) ∧ (i : Int) < n from ⟨by omega, by omega⟩), zw_id' (by omega) (by omega), show (i : Int) + 1 = ((i + 1 : Nat) : Int) by omega]
    by_cases e : c (K + 5) i = r
    · rw [if_pos e] at hs2
      rw [if_pos e, zadd_id (by omega) (by omega)]
      exact ih F (i + 1) _ (by omega) (by omega) (by omega)
    · rw [if_neg e] at hs2
      rw [if_neg e, zadd_id (by omega) (by omega)]
      exact ih F (i + 1) _ (by omega) (by omega) (by omega)
theorem zs_K_wordsThatMean (h : LLk c K n) (r : Int) : zrun zTab (d + 2) 34 [K, r] c = some (zcnt (fun j => c (K + 5) j = r) n.toNat, c) := by
  have hn := h.2.2.2.2
  rw [ze_X3_wordsThatMean]
  exact zs_K_wtm_l d h r n.toNat 19998 0 0 (by omega) (by omega) rfl
theorem zs_K_la_l (h : LLk c K n) (m : Int) (hm : 0 ≤ m) (hmn : m ≤ n) : ∀ (t F i : Nat) (s : Int), t ≤ F → (i : Int) + t = m → s = zcnt (fun j => c (K + 8) j = 0) i → zex zc_X3_linksAheadOf zk_X3_linksAheadOf (zrun zTab (d + 1)) (F + 1) 4 [(2, K), (0, m), (0, s), (0, (i : Int))] [] c = some (zcnt (fun j => c (K + 8) j = 0) m.toNat, c) := by
  have h1 := h.2.1
  have hn := h.2.2.2.2
  intro t
  induction t with
  | zero =>
    intro F i s hF hi hs
    have hi : (i : Int) = m := by omega
    rw [ze_X3_linksAheadOf_4, if_pos h1, hn.1]
    by_cases e : (i : Int) < n
    · rw [if_pos e, if_neg (by omega), hs, show m.toNat = i by omega]
    · rw [if_neg e, hs, show m.toNat = i by omega]
  | succ t ih =>
    intro F i s hF hi hs
    obtain ⟨F, rfl⟩ : ∃ G, F = G + 1 := ⟨F - 1, by omega⟩
    have hc := zcnt_le (fun j => c (K + 8) j = 0) i
    have hs2 : zcnt (fun j => c (K + 8) j = 0) (i + 1) = s + (if c (K + 8) i = 0 then 1 else 0) := by rw [hs]; rfl
    rw [ze_X3_linksAheadOf_4, if_pos h1, hn.1, if_pos (by omega), if_pos (by omega), if_pos h1, zs_K_reasonAt d h, zbnd_some, if_pos (show 0 ≤ (i : Int) ∧ (i : Int) < n from ⟨by omega, by omega⟩), zw_id' (by omega) (by omega), show (i : Int) + 1 = ((i + 1 : Nat) : Int) by omega]
    by_cases e : c (K + 8) i = 0
    · rw [if_pos e] at hs2
      rw [if_pos e, zadd_id (by omega) (by omega)]
      exact ih F (i + 1) _ (by omega) (by omega) (by omega)
    · rw [if_neg e] at hs2
      rw [if_neg e, zadd_id (by omega) (by omega)]
      exact ih F (i + 1) _ (by omega) (by omega) (by omega)
theorem zs_K_linksAheadOf (h : LLk c K n) (m : Int) (hm : 0 ≤ m) (hmn : m ≤ n) : zrun zTab (d + 2) 30 [K, m] c = some (zcnt (fun j => c (K + 8) j = 0) m.toNat, c) := by
  have hn := h.2.2.2.2
  rw [ze_X3_linksAheadOf]
  exact zs_K_la_l d h m hm hmn m.toNat 19998 0 0 (by omega) (by omega) rfl
end
