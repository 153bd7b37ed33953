/-! The reference: a rule is applied, the bases of a word. -/
theorem zdivm {x y m : Int} (hm : 0 < m) (h0 : 0 ≤ y) (h1 : y < m) : (x * m + y) / m = x := by
  rw [Int.add_comm, Int.add_mul_ediv_right _ _ (by omega), Int.ediv_eq_zero_of_lt h0 h1, Int.zero_add]
theorem z32p (n : Nat) : (0 : Int) < 32 ^ n := Int.pow_pos (by decide)
section
variable {f g h : Int → Int} {a b a1 a2 : Int} {el rl n m : Nat}
theorem zenc_split (hn : el ≤ n) : zenc h a n = zenc h a (n - el) * 32 ^ el + zenc h (a + ((n - el : Nat) : Int)) el := by
  have := zenc_add (f := h) (a := a) (n - el) el
  rw [show n - el + el = n by omega] at this
  exact this
theorem zlet_tail (hw : zlet h a n) (hn : el ≤ n) : zlet h (a + ((n - el : Nat) : Int)) el := fun k hk => by
  have := hw (n - el + k) (by omega)
  rw [show a + ((n - el : Nat) : Int) + (k : Int) = a + ((n - el + k : Nat) : Int) by omega]
  exact this
theorem zenc_div (hw : zlet h a n) (hn : el ≤ n) : zenc h a n / 32 ^ el = zenc h a (n - el) := by
  have t := zenc_wf (zlet_tail hw hn)
  rw [zenc_split hn, zdivm (z32p el) (mwf_nn t) (mwf_lt t)]
theorem mapp_short {e r : Int} (hw : zlet h a n) (hs : (n : Int) - el < 2) : mapp e r el rl (zenc h a n) = 0 := by
  unfold mapp
  refine if_neg (fun q => q.2.1 ?_)
  have w := zenc_wf hw
  by_cases x : n ≤ el
  · rw [Int.ediv_eq_zero_of_lt (mwf_nn w) (Int.lt_of_lt_of_le (mwf_lt w) (z32_le_pow x))]
    rfl
  · rw [zenc_div hw (by omega), show n - el = 1 by omega]
    have w1 := zenc_wf (zlet_le hw (show 1 ≤ n by omega))
    exact Int.ediv_eq_zero_of_lt (mwf_nn w1) (by simpa using mwf_lt w1)
theorem mapp_other {r : Int} (hw : zlet h a n) (hn : el ≤ n) (he : zlet f a1 el) {k : Nat} (hk : k < el) (hne : h (a + ((n - el : Nat) : Int) + k) ≠ f (a1 + k)) : mapp (zenc f a1 el) r el rl (zenc h a n) = 0 := by
  unfold mapp
  refine if_neg (fun q => hne ?_)
  have q1 := q.1
  rw [zenc_div hw hn] at q1
  have e2 : zenc h (a + ((n - el : Nat) : Int)) el = zenc f a1 el := by
    have := zenc_split (h := h) (a := a) hn
    omega
  exact zenc_inj (zlet_tail hw hn) he e2 k hk
theorem zenc_join (h1 : ∀ k : Nat, k < m → g (b + k) = h (a + k)) (h2 : ∀ k : Nat, k < rl → g (b + m + k) = f (a2 + k)) (hw : zlet h a m) (hr : zlet f a2 rl) : zlet g b (m + rl) ∧ zenc g b (m + rl) = zenc h a m * 32 ^ rl + zenc f a2 rl := by
  refine ⟨fun k hk => ?_, ?_⟩
  · by_cases x : k < m
    · rw [h1 k x]; exact hw k x
    · have := h2 (k - m) (by omega)
      rw [show b + (m : Int) + ((k - m : Nat) : Int) = b + k by omega] at this
      rw [this]; exact hr (k - m) (by omega)
  · rw [zenc_add, zenc_congr h1, zenc_congr h2]
theorem mapp_long {e : Int} (hw : zlet h a n) (hn : el ≤ n) (hr : zlet f a2 rl) (hl : 10 < n - el + rl) : mapp e (zenc f a2 rl) el rl (zenc h a n) = 0 := by
  unfold mapp
  refine if_neg (fun q => ?_)
  have q3 := q.2.2
  rw [zenc_div hw hn] at q3
  have j := zenc_join (g := fun k => if k < ((n - el : Nat) : Int) then h (a + k) else f (a2 + (k - ((n - el : Nat) : Int)))) (b := 0) (h := h) (a := a) (m := n - el) (f := f) (a2 := a2) (rl := rl) (fun k hk => by
    show (if (0 : Int) + k < ((n - el : Nat) : Int) then _ else _) = _
    rw [if_pos (by omega), Int.zero_add]) (fun k hk => by
    show (if (0 : Int) + ((n - el : Nat) : Int) + k < ((n - el : Nat) : Int) then _ else _) = _
    rw [if_neg (by omega), show (0 : Int) + ((n - el : Nat) : Int) + k - ((n - el : Nat) : Int) = k by omega]) (zlet_le hw (by omega)) hr
  rw [← j.2] at q3
  obtain ⟨x, hx⟩ : ∃ x, n - el + rl = 10 + x + 1 := ⟨n - el + rl - 11, by omega⟩
  have w := zenc_wf j.1
  rw [hx] at w q3
  have ge := mwf_ge w
  have le : (32 : Int) ^ 10 ≤ 32 ^ (10 + x) := z32_le_pow (by omega)
  have le2 : (1125899906842624 : Int) ≤ 32 ^ (10 + x) := le
  have := Int.le_ediv_of_mul_le (a := 1) (c := 1125899906842624) (by decide) (show 1 * 1125899906842624 ≤ _ from by rw [Int.one_mul]; exact Int.le_trans le2 ge)
  omega
theorem mapp_yes (hw : zlet h a n) (hn : el + 2 ≤ n) (he : ∀ k : Nat, k < el → h (a + ((n - el : Nat) : Int) + k) = f (a1 + k)) (hr : zlet f a2 rl) (hl : n - el + rl ≤ 10) : mapp (zenc f a1 el) (zenc f a2 rl) el rl (zenc h a n) = zenc h a (n - el) * 32 ^ rl + zenc f a2 rl ∧ 0 < zenc h a (n - el) * 32 ^ rl + zenc f a2 rl := by
  unfold mapp
  have j := zenc_join (g := fun k => if k < ((n - el : Nat) : Int) then h (a + k) else f (a2 + (k - ((n - el : Nat) : Int)))) (b := 0) (h := h) (a := a) (m := n - el) (f := f) (a2 := a2) (rl := rl) (fun k hk => by
    show (if (0 : Int) + k < ((n - el : Nat) : Int) then _ else _) = _
    rw [if_pos (by omega), Int.zero_add]) (fun k hk => by
    show (if (0 : Int) + ((n - el : Nat) : Int) + k < ((n - el : Nat) : Int) then _ else _) = _
    rw [if_neg (by omega), show (0 : Int) + ((n - el : Nat) : Int) + k - ((n - el : Nat) : Int) = k by omega]) (zlet_le hw (by omega)) hr
  have wj := zenc_wf j.1
  rw [j.2] at wj
  have pos : 0 < zenc h a (n - el) * 32 ^ rl + zenc f a2 rl := by
    obtain ⟨x, hx⟩ : ∃ x, n - el + rl = x + 1 := ⟨n - el + rl - 1, by omega⟩
    rw [hx] at wj
    have := mwf_pos wj; omega
  have c2 : ¬ zenc h a (n - el) / 32 = 0 := by
    intro q
    obtain ⟨x, hx⟩ : ∃ x, n - el = x + 1 + 1 := ⟨n - el - 2, by omega⟩
    have w := zenc_wf (zlet_le hw (show n - el ≤ n by omega))
    rw [hx] at w q
    have := mwf_pos w.1
    omega
  have c3 : (zenc h a (n - el) * 32 ^ rl + zenc f a2 rl) / 1125899906842624 = 0 := Int.ediv_eq_zero_of_lt (mwf_nn wj) (mwf_63 wj hl)
  have c1 : zenc h a (n - el) * 32 ^ el + zenc f a1 el = zenc h a n := by rw [zenc_split (n := n) (el := el) (by omega), zenc_congr he]
  rw [zenc_div hw (by omega), if_pos ⟨c1, c2, c3⟩]
  exact ⟨rfl, pos⟩
end
/-- letters copied -/
def zcpg (c : zC) (T P R a n : Int) : zC := fun x k => if x = T ∧ P ≤ k ∧ k < P + n then c R (a + (k - P)) else c x k
section
variable {c : zC} {T P R a : Int} {n : Nat} (d : Nat)
theorem zcpg_o {m x k : Int} (h : x ≠ T ∨ k < P ∨ P + m ≤ k) : zcpg c T P R a m x k = c x k := by unfold zcpg; rw [if_neg (by omega)]
theorem zcpg_i {m k : Int} (h : 0 ≤ k) (h1 : k < m) : zcpg c T P R a m T (P + k) = c R (a + k) := by unfold zcpg; rw [if_pos ⟨rfl, by omega, by omega⟩, show P + k - P = k by omega]
theorem zcpg_up {m : Int} (h : 0 ≤ m) : zup (zcpg c T P R a m) T (P + m) (c R (a + m)) = zcpg c T P R a (m + 1) := by
  funext x k
  unfold zcpg
  by_cases e : x = T ∧ k = P + m
  · rw [zup_eq e, if_pos (by omega), e.2, show P + m - P = m by omega]
  · rw [zup_ne (by omega)]
    by_cases e2 : x = T ∧ P ≤ k ∧ k < P + m
    · rw [if_pos e2, if_pos (by omega)]
    · rw [if_neg e2, if_neg (by omega)]
theorem zcpg_0 : zcpg c T P R a 0 = c := by funext x k; unfold zcpg; rw [if_neg (by omega)]
theorem zcpg_ms {m : Int} (h : 0 ≤ P) (hT : T ≠ 681) : MS c (zcpg c T P R a m) := ⟨fun x k hk => zcpg_o (by omega), fun k hk => zcpg_o (by omega)⟩
theorem MO.rT (h : MO c) (hT : T = 690 ∨ T = 691) {x : Int} (h0 : 0 ≤ x) (h1 : x < 10) : c T (-1) = 100 ∧ (0 : Int) ≤ x ∧ x < c T (-2) := by
  rcases hT with rfl | rfl
  · exact h.r690 h0 h1
  · exact h.r691 h0 h1
theorem zm_applies_53 (h : MO c) {r : Int} (hr : 0 ≤ r ∧ r < 6) {el : Nat} (hel : el ≤ 4) (hn : n ≤ 10) (hen : el ≤ n) (hR : RowOK c R a n) (rl : Int) : ∀ (t F k : Nat), t ≤ F → k + t = el → ((∀ j : Nat, k ≤ j → j < el → c R (a + ((n - el : Nat) : Int) + j) = c 682 (969 + 9 * r + 1 + j)) ∧ zex zc_X12_applies zk_X12_applies (zrun zTab d) (F + 1) 53 [(2, 681), (3, 0), (2, R), (0, a), (0, (n : Int)), (2, T), (0, 969 + 9 * r), (0, (el : Int)), (0, rl), (0, (k : Int))] [] c = zex zc_X12_applies zk_X12_applies (zrun zTab d) (F - t) 98 [(2, 681), (3, 0), (2, R), (0, a), (0, (n : Int)), (2, T), (0, 969 + 9 * r), (0, (el : Int)), (0, rl), (0, 0)] [] c) ∨
    ((∃ j : Nat, k ≤ j ∧ j < el ∧ c R (a + ((n - el : Nat) : Int) + j) ≠ c 682 (969 + 9 * r + 1 + j)) ∧ zex zc_X12_applies zk_X12_applies (zrun zTab d) (F + 1) 53 [(2, 681), (3, 0), (2, R), (0, a), (0, (n : Int)), (2, T), (0, 969 + 9 * r), (0, (el : Int)), (0, rl), (0, (k : Int))] [] c = some (-1, c)) := by
  intro t
  induction t with
  | zero =>
    intro F k hF hk
    refine Or.inl ⟨fun j j0 j1 => by omega, ?_⟩
    rw [ze_X12_applies_53, if_neg (by omega)]
    rfl
  | succ t ih =>
    intro F k hF hk
    obtain ⟨F, rfl⟩ : ∃ G, F = G + 1 := ⟨F - 1, by omega⟩
    have ha := hR.1
    have q := hR.2 ((n - el : Nat) + k : Nat) (by omega) (by omega)
    rw [ze_X12_applies_53, if_pos (by omega), zadd_id (x := a) (by omega) (by omega), zsub_id (by omega) (by omega), zadd_id (x := a + n - el) (by omega) (by omega), show a + (n : Int) - (el : Int) + (k : Int) = a + ((n - el : Nat) + k : Nat) by omega, if_pos q, if_pos h.k, h.f.1, zadd_id (x := 969 + 9 * r) (by omega) (by omega), zadd_id (by omega) (by omega), if_pos (h.r682 (by omega) (by omega)), zw_id' (by omega) (by omega), show (k : Int) + 1 = ((k + 1 : Nat) : Int) by omega]
    have ee : a + (((n - el : Nat) + k : Nat) : Int) = a + ((n - el : Nat) : Int) + k := by omega
    rw [ee]
    by_cases e : c R (a + ((n - el : Nat) : Int) + k) = c 682 (969 + 9 * r + 1 + k)
    · rw [if_pos e]
      rcases ih F (k + 1) (by omega) (by omega) with ⟨x1, x2⟩ | ⟨⟨j, x1, x2, x3⟩, x4⟩
      · refine Or.inl ⟨fun j j0 j1 => ?_, by rw [x2, show F - t = F + 1 - (t + 1) by omega]⟩
        by_cases y : j = k
        · subst y; exact e
        · exact x1 j (by omega) j1
      · exact Or.inr ⟨⟨j, by omega, x2, x3⟩, x4⟩
    · rw [if_neg e]
      exact Or.inr ⟨⟨k, Nat.le_refl k, by omega, e⟩, rfl⟩
theorem zm_applies_98 (h : MO c) {el m : Nat} {a0 rl : Int} (hn : n ≤ 10) (hm : m = n - el) (hen : el ≤ n) (hR : RowOK c R a n) (hT : T = 690 ∨ T = 691) (hRT : R ≠ T) : ∀ (t F k : Nat), t ≤ F → k + t = m → zex zc_X12_applies zk_X12_applies (zrun zTab d) (F + 1) 98 [(2, 681), (3, 0), (2, R), (0, a), (0, (n : Int)), (2, T), (0, a0), (0, (el : Int)), (0, rl), (0, (k : Int))] [] (zcpg c T 0 R a k) = zex zc_X12_applies zk_X12_applies (zrun zTab d) (F - t) 128 [(2, 681), (3, 0), (3, 0), (3, 0), (0, (n : Int)), (2, T), (0, a0), (0, (el : Int)), (0, rl), (0, 0)] [] (zcpg c T 0 R a m) := by
  intro t
  induction t with
  | zero =>
    intro F k hF hk
    rw [ze_X12_applies_98, zsub_id (by omega) (by omega), if_neg (by omega), show k = m by omega]
    rfl
  | succ t ih =>
    intro F k hF hk
    obtain ⟨F, rfl⟩ : ∃ G, F = G + 1 := ⟨F - 1, by omega⟩
    have ha := hR.1
    have q := hR.2 k (by omega) (by omega)
    have mo := h.ms (zcpg_ms (R := R) (a := a) (m := (k : Int)) (Int.le_refl 0) (show T ≠ 681 by omega))
    have up := zcpg_up (c := c) (T := T) (P := 0) (R := R) (a := a) (m := (k : Int)) (by omega)
    rw [Int.zero_add] at up
    rw [ze_X12_applies_98, zsub_id (by omega) (by omega), if_pos (by omega), zadd_id (by omega) (by omega), zcpg_o (x := R) (k := -1) (Or.inl hRT), zcpg_o (x := R) (k := -2) (Or.inl hRT), if_pos q, if_pos (mo.rT hT (by omega) (by omega)), zcpg_o (x := R) (Or.inl hRT), up, zw_id' (by omega) (by omega), show (k : Int) + 1 = ((k + 1 : Nat) : Int) by omega, ih F (k + 1) (by omega) (by omega), show F - t = F + 1 - (t + 1) by omega]
theorem zm_applies_128 (h : MO c) {el rl m : Nat} {r : Int} (hr : 0 ≤ r ∧ r < 6) (hn : n ≤ 10) (hm : m = n - el) (hen : el ≤ n) (hml : m + rl ≤ 10) (hrl : rl ≤ 3) (hT : T = 690 ∨ T = 691) : ∀ (t F k : Nat), t ≤ F → k + t = rl → zex zc_X12_applies zk_X12_applies (zrun zTab d) (F + 1) 128 [(2, 681), (3, 0), (3, 0), (3, 0), (0, (n : Int)), (2, T), (0, 969 + 9 * r), (0, (el : Int)), (0, (rl : Int)), (0, (k : Int))] [] (zcpg c T m 682 (969 + 9 * r + 6) k) = some (((m + rl : Nat) : Int), zcpg c T m 682 (969 + 9 * r + 6) rl) := by
  intro t
  induction t with
  | zero =>
    intro F k hF hk
    rw [ze_X12_applies_128, if_neg (by omega), zsub_id (by omega) (by omega), zadd_id (by omega) (by omega), show k = rl by omega, show (n : Int) - (el : Int) + (rl : Int) = ((m + rl : Nat) : Int) by omega]
  | succ t ih =>
    intro F k hF hk
    obtain ⟨F, rfl⟩ : ∃ G, F = G + 1 := ⟨F - 1, by omega⟩
    have mo := h.ms (zcpg_ms (T := T) (P := (m : Int)) (R := 682) (a := 969 + 9 * r + 6) (m := (k : Int)) (by omega) (by omega))
    have up := zcpg_up (c := c) (T := T) (P := (m : Int)) (R := 682) (a := 969 + 9 * r + 6) (m := (k : Int)) (by omega)
    rw [ze_X12_applies_128, if_pos (by omega), if_pos mo.k, mo.f.1, zadd_id (x := 969 + 9 * r) (by omega) (by omega), zadd_id (x := 969 + 9 * r + 6) (by omega) (by omega), if_pos (mo.r682 (by omega) (by omega)), zsub_id (by omega) (by omega), zadd_id (by omega) (by omega), if_pos (mo.rT hT (by omega) (by omega)), zcpg_o (x := 682) (by omega), show (n : Int) - (el : Int) + (k : Int) = (m : Int) + k by omega, up, zw_id' (by omega) (by omega), show (k : Int) + 1 = ((k + 1 : Nat) : Int) by omega]
    exact ih F (k + 1) (by omega) (by omega)
theorem zm_applies (h : MO c) {r : Int} (hr : 0 ≤ r ∧ r < 6) (ru : mRuOK (c 682) (969 + 9 * r)) (hn : n ≤ 10) (hR : RowOK c R a n) (hw : zlet (c R) a n) (hT : T = 690 ∨ T = 691) (hRT : R ≠ T) : ∃ c' v, zrun zTab (d + 2) 174 [681, r, R, a, (n : Int), T] c = some (v, c') ∧
    (v = -1 ∧ mapp (mV (c 682) (969 + 9 * r)) (mV (c 682) (974 + 9 * r)) (c 682 (969 + 9 * r)).toNat (c 682 (974 + 9 * r)).toNat (zenc (c R) a n) = 0 ∨ ∃ m : Nat, (1 ≤ m ∧ m ≤ 10) ∧ v = m ∧ zlet (c' T) 0 m ∧ zenc (c' T) 0 m = mapp (mV (c 682) (969 + 9 * r)) (mV (c 682) (974 + 9 * r)) (c 682 (969 + 9 * r)).toNat (c 682 (974 + 9 * r)).toNat (zenc (c R) a n) ∧ zenc (c' T) 0 m ≠ 0) ∧ (∀ b, b ≠ T → ∀ k, c' b k = c b k) ∧ MS c c' := by
  obtain ⟨⟨e1, e2, e3⟩, r1, r2, r3⟩ := ru
  rw [show 969 + 9 * r + 5 = 974 + 9 * r by omega] at r1 r2 r3
  obtain ⟨el, hel⟩ : ∃ el : Nat, c 682 (969 + 9 * r) = (el : Int) := ⟨(c 682 (969 + 9 * r)).toNat, by omega⟩
  obtain ⟨rl, hrl⟩ : ∃ rl : Nat, c 682 (974 + 9 * r) = (rl : Int) := ⟨(c 682 (974 + 9 * r)).toNat, by omega⟩
  unfold mV
  rw [hel, Int.toNat_natCast] at e3
  rw [hrl, Int.toNat_natCast] at r3
  rw [hel, hrl, Int.toNat_natCast, Int.toNat_natCast, show 974 + 9 * r + 1 = 969 + 9 * r + 6 by omega]
  have no : ∀ w : zR, w = some (-1, c) → mapp (zenc (c 682) (969 + 9 * r + 1) el) (zenc (c 682) (969 + 9 * r + 6) rl) el rl (zenc (c R) a n) = 0 → ∃ c' v, w = some (v, c') ∧ (v = -1 ∧ mapp (zenc (c 682) (969 + 9 * r + 1) el) (zenc (c 682) (969 + 9 * r + 6) rl) el rl (zenc (c R) a n) = 0 ∨ ∃ m : Nat, (1 ≤ m ∧ m ≤ 10) ∧ v = m ∧ zlet (c' T) 0 m ∧ zenc (c' T) 0 m = mapp (zenc (c 682) (969 + 9 * r + 1) el) (zenc (c 682) (969 + 9 * r + 6) rl) el rl (zenc (c R) a n) ∧ zenc (c' T) 0 m ≠ 0) ∧ (∀ b, b ≠ T → ∀ k, c' b k = c b k) ∧ MS c c' := fun w hw hm => ⟨c, -1, hw, Or.inl ⟨rfl, hm⟩, fun _ _ _ => rfl, MS.rf c⟩
  rw [ze_X12_applies, zm_ruleAt d (by omega), zbnd_some, if_pos h.k, h.f.1, if_pos (h.r682 (by omega) (by omega)), if_pos h.k, zadd_id (by omega) (by omega), if_pos (h.r682 (by omega) (by omega)), show 969 + 9 * r + 5 = 974 + 9 * r by omega, hel, hrl, zsub_id (by omega) (by omega)]
  by_cases x1 : (n : Int) - el < 2
  · rw [if_pos x1]; exact no _ rfl (mapp_short hw x1)
  rw [if_neg x1, zadd_id (by omega) (by omega)]
  by_cases x2 : (n : Int) - el + rl ≤ 10
  · rw [if_pos x2]
    rcases zm_applies_53 (T := T) (d + 1) h hr (el := el) (by omega) hn (by omega) hR rl el 19998 0 (by omega) (by omega) with ⟨y1, y2⟩ | ⟨⟨j, y0, y1, y2⟩, y3⟩
    · have z := zm_applies_98 (T := T) (d + 1) h (el := el) (m := n - el) (a0 := 969 + 9 * r) (rl := (rl : Int)) hn rfl (by omega) hR hT hRT (n - el) (19998 - el - 1) 0 (by omega) (by omega)
      have ms1 : MS c (zcpg c T 0 R a ((n - el : Nat) : Int)) := zcpg_ms (Int.le_refl 0) (by omega)
      have z2 := zm_applies_128 (T := T) (d + 1) (h.ms ms1) (el := el) (rl := rl) (m := n - el) hr hn rfl (by omega) (by omega) (by omega) hT rl (19998 - el - 1 - (n - el) - 1) 0 (by omega) (by omega)
      rw [show ((0 : Nat) : Int) = 0 from rfl, zcpg_0] at z z2
      have y2 : zex zc_X12_applies zk_X12_applies (zrun zTab (d + 1)) 19999 53 [(2, 681), (3, 0), (2, R), (0, a), (0, (n : Int)), (2, T), (0, 969 + 9 * r), (0, (el : Int)), (0, (rl : Int)), (0, 0)] [] c = _ := y2
      have f1 : 19998 - el = 19998 - el - 1 + 1 := by omega
      have f2 : 19998 - el - 1 - (n - el) = 19998 - el - 1 - (n - el) - 1 + 1 := by omega
      rw [f1, z, f2, z2] at y2
      have le : ∀ k : Nat, k < n - el → zcpg (zcpg c T 0 R a ((n - el : Nat) : Int)) T ((n - el : Nat) : Int) 682 (969 + 9 * r + 6) (rl : Int) T (0 + k) = c R (a + k) := fun k hk => by rw [zcpg_o (by omega), zcpg_i (P := 0) (by omega) (by omega)]
      have le2 : ∀ k : Nat, k < rl → zcpg (zcpg c T 0 R a ((n - el : Nat) : Int)) T ((n - el : Nat) : Int) 682 (969 + 9 * r + 6) (rl : Int) T (0 + ((n - el : Nat) : Int) + k) = c 682 (969 + 9 * r + 6 + k) := fun k hk => by rw [Int.zero_add, zcpg_i (by omega) (by omega), zcpg_o (by omega)]
      have j := zenc_join le le2 (zlet_le hw (by omega)) r3
      have ys := mapp_yes (f := c 682) (a1 := 969 + 9 * r + 1) (a2 := 969 + 9 * r + 6) (rl := rl) hw (el := el) (by omega) (fun k hk => y1 k (Nat.zero_le k) hk) r3 (by omega)
      refine ⟨_, _, y2, Or.inr ⟨n - el + rl, ⟨by omega, by omega⟩, rfl, j.1, by rw [j.2, ys.1], by rw [j.2]; omega⟩, fun b hb k => ?_, ms1.tr (zcpg_ms (by omega) (by omega))⟩
      rw [zcpg_o (Or.inl hb), zcpg_o (Or.inl hb)]
    · exact no _ y3 (mapp_other hw (by omega) e3 y1 y2)
  · rw [if_neg x2]; exact no _ rfl (mapp_long hw (by omega) r3 (by omega))
end
