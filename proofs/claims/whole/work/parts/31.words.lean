/-! Words as numbers: digits 1 to 26 in base 32, the last letter lowest. -/
def mlenF : Nat → Int → Int
  | 0, _ => 0
  | n + 1, w => if w = 0 then 0 else mlenF n (w / 32) + 1
def mlen (w : Int) : Int := mlenF 10 w
/-- w has n letters -/
def mwf : Nat → Int → Prop
  | 0, w => w = 0
  | n + 1, w => mwf n (w / 32) ∧ 1 ≤ w % 32 ∧ w % 32 ≤ 26
/-- the number of the n letters that stand in f from a on -/
def zenc (f : Int → Int) (a : Int) : Nat → Int
  | 0 => 0
  | n + 1 => zenc f a n * 32 + (f (a + n) - 96)
def zlet (f : Int → Int) (a : Int) (n : Nat) : Prop := ∀ k : Nat, k < n → 97 ≤ f (a + k) ∧ f (a + k) ≤ 122
theorem zlet_le {f : Int → Int} {a : Int} {n m : Nat} (h : zlet f a n) (hm : m ≤ n) : zlet f a m := fun k hk => h k (by omega)
theorem zenc_wf {f : Int → Int} {a : Int} {n : Nat} (h : zlet f a n) : mwf n (zenc f a n) := by
  induction n with
  | zero => rfl
  | succ n ih =>
    have h1 := h n (by omega)
    have e1 : (zenc f a n * 32 + (f (a + n) - 96)) / 32 = zenc f a n := by omega
    have e2 : (zenc f a n * 32 + (f (a + n) - 96)) % 32 = f (a + n) - 96 := by omega
    refine ⟨?_, ?_, ?_⟩
    · show mwf n ((zenc f a n * 32 + (f (a + n) - 96)) / 32)
      rw [e1]; exact ih (zlet_le h (by omega))
    · show 1 ≤ (zenc f a n * 32 + (f (a + n) - 96)) % 32
      omega
    · show (zenc f a n * 32 + (f (a + n) - 96)) % 32 ≤ 26
      omega
theorem mwf_nn {n : Nat} {w : Int} (h : mwf n w) : 0 ≤ w := by
  induction n generalizing w with
  | zero => rw [show w = 0 from h]; decide
  | succ n ih => have := ih h.1; omega
theorem mwf_lt {n : Nat} {w : Int} (h : mwf n w) : w < 32 ^ n := by
  induction n generalizing w with
  | zero => rw [show w = 0 from h]; decide
  | succ n ih => have := ih h.1; rw [Int.pow_succ]; omega
theorem mwf_pos {n : Nat} {w : Int} (h : mwf (n + 1) w) : 1 ≤ w := by
  have := mwf_nn h.1
  have := h.2.1
  omega
theorem mwf_inj {n m : Nat} {w : Int} (h1 : mwf n w) (h2 : mwf m w) : n = m := by
  induction n generalizing m w with
  | zero =>
    cases m with
    | zero => rfl
    | succ m => have := mwf_pos h2; have : w = 0 := h1; omega
  | succ n ih =>
    cases m with
    | zero => have := mwf_pos h1; have : w = 0 := h2; omega
    | succ m => rw [ih h1.1 h2.1]
theorem mlenF_wf {k n : Nat} {w : Int} (h : mwf n w) (hn : n ≤ k) : mlenF k w = n := by
  induction k generalizing n w with
  | zero => have : n = 0 := by omega
            subst this; rfl
  | succ k ih =>
    cases n with
    | zero => show (if w = 0 then 0 else _) = _; rw [if_pos (show w = 0 from h)]; rfl
    | succ n =>
      have := mwf_pos h
      show (if w = 0 then 0 else mlenF k (w / 32) + 1) = _
      rw [if_neg (by omega), ih h.1 (by omega)]; simp
theorem mlen_wf {n : Nat} {w : Int} (h : mwf n w) (hn : n ≤ 10) : mlen w = n := mlenF_wf h hn
theorem z32_le_pow {n m : Nat} (h : n ≤ m) : (32 : Int) ^ n ≤ 32 ^ m := by
  have h1 : 32 ^ n ≤ 32 ^ m := Nat.pow_le_pow_right (by decide) h
  have h2 : ((32 ^ n : Nat) : Int) ≤ ((32 ^ m : Nat) : Int) := Int.ofNat_le.mpr h1
  simpa using h2
theorem mwf_63 {n : Nat} {w : Int} (h : mwf n w) (hn : n ≤ 10) : w < 1125899906842624 := by
  have h1 := mwf_lt h
  have h2 : (32 : Int) ^ n ≤ 32 ^ 10 := z32_le_pow hn
  have h3 : (32 : Int) ^ 10 = 1125899906842624 := by decide
  omega
theorem mlenF_le (k : Nat) (w : Int) : 0 ≤ mlenF k w ∧ mlenF k w ≤ k := by
  induction k generalizing w with
  | zero => exact ⟨Int.le_refl _, Int.le_refl _⟩
  | succ k ih =>
    show 0 ≤ (if w = 0 then 0 else mlenF k (w / 32) + 1) ∧ (if w = 0 then 0 else mlenF k (w / 32) + 1) ≤ _
    have := ih (w / 32)
    have e : ((k + 1 : Nat) : Int) = k + 1 := by omega
    rw [e]
    split <;> constructor <;> omega
/-- the letters that w has, read from the left -/
theorem zenc_digit {f : Int → Int} {a : Int} {n : Nat} (h : zlet f a n) {k : Nat} (hk : k < n) : zenc f a n / 32 ^ (n - 1 - k) % 32 = f (a + k) - 96 := by
  induction n with
  | zero => omega
  | succ n ih =>
    have h1 := h n (by omega)
    by_cases e : k = n
    · subst e
      rw [show k + 1 - 1 - k = 0 by omega]
      show (zenc f a k * 32 + (f (a + k) - 96)) / 32 ^ 0 % 32 = _
      simp only [Int.pow_zero, Int.ediv_one]
      omega
    · rw [show n + 1 - 1 - k = (n - 1 - k) + 1 by omega, Int.pow_succ, Int.mul_comm, ← Int.ediv_ediv_of_nonneg (by decide)]
      have e1 : zenc f a (n + 1) / 32 = zenc f a n := by
        show (zenc f a n * 32 + (f (a + n) - 96)) / 32 = _
        omega
      rw [e1]
      exact ih (zlet_le h (by omega)) (by omega)
theorem zenc_congr {f g : Int → Int} {a b : Int} {n : Nat} (h : ∀ k : Nat, k < n → f (a + k) = g (b + k)) : zenc f a n = zenc g b n := by
  induction n with
  | zero => rfl
  | succ n ih =>
    show zenc f a n * 32 + _ = zenc g b n * 32 + _
    rw [ih (fun k hk => h k (by omega)), h n (by omega)]
theorem zenc_inj {f g : Int → Int} {a b : Int} {n : Nat} (hf : zlet f a n) (hg : zlet g b n) (h : zenc f a n = zenc g b n) : ∀ k : Nat, k < n → f (a + k) = g (b + k) := by
  intro k hk
  have h1 := zenc_digit hf hk
  have h2 := zenc_digit hg hk
  rw [h] at h1
  omega
theorem zenc_add {f : Int → Int} {a : Int} (n m : Nat) : zenc f a (n + m) = zenc f a n * 32 ^ m + zenc f (a + n) m := by
  induction m with
  | zero => simp [zenc]
  | succ m ih =>
    show zenc f a (n + m) * 32 + (f (a + (n + m : Nat)) - 96) = zenc f a n * 32 ^ (m + 1) + (zenc f (a + n) m * 32 + (f (a + n + m) - 96))
    rw [ih, Int.pow_succ, show a + ((n + m : Nat) : Int) = a + n + m by omega, Int.add_mul, Int.mul_assoc]
    omega
-- the class's own words
theorem zs_with (d : Nat) {w x : Int} (c : zC) (h0 : 0 ≤ w) (h1 : w < 35184372088832) (hx : 97 ≤ x) (hx2 : x ≤ 122) : zrun zTab (d + 1) 95 [w, x] c = some (w * 32 + (x - 96), c) := by
  rw [ze_X10_with, zsub_id (by omega) (by omega), zland31 (by omega) (by omega), zlshl_id h0 (by decide) (by decide) (by show w * 2 ^ 5 < _; omega)]
  show some (zlor (w * 2 ^ 5) ((x - 96) % 32), c) = _
  rw [zlor_id h0 (by omega) (by show _ < (32 : Int); omega) (by show w * 32 + _ < _; omega), show (x - 96) % 32 = x - 96 by omega]
  rfl
theorem zs_lengthOf_l (d : Nat) (c : zC) (k : Nat) : ∀ (F : Nat) (n w : Int), k ≤ F → n + k = 10 → 0 ≤ n → 0 ≤ w → w < 9223372036854775808 → zex zc_X10_lengthOf zk_X10_lengthOf (zrun zTab d) (F + 1) 4 [(3, 0), (3, 0), (0, n), (1, w), (3, 0)] [] c = some (n + mlenF k w, c) := by
  induction k with
  | zero =>
    intro F n w hF hn h0 hw hw2
    rw [ze_X10_lengthOf_4]
    simp only [zcmp_eq]
    rw [if_neg (show ¬ n < 10 by omega), ite_self]
    show some (n, c) = some (n + 0, c)
    rw [Int.add_zero]
  | succ k ih =>
    intro F n w hF hn h0 hw hw2
    rw [ze_X10_lengthOf_4]
    simp only [zcmp_eq]
    show _ = some (n + (if w = 0 then 0 else mlenF k (w / 32) + 1), c)
    by_cases e : w = 0
    · rw [if_pos e, if_pos e, Int.add_zero]
    · obtain ⟨F, rfl⟩ : ∃ G, F = G + 1 := ⟨F - 1, by omega⟩
      rw [if_neg e, if_neg e, if_pos (by omega), zw_id' (by omega) (by omega), zlushr_id hw hw2 (by decide) (by decide), show w / 2 ^ (5 : Int).toNat = w / 32 from rfl, ih F (n + 1) (w / 32) (by omega) (by omega) (by omega) (by omega) (by omega)]
      congr 2; omega
theorem zs_lengthOf (d : Nat) {w : Int} (c : zC) (h0 : 0 ≤ w) (h1 : w < 9223372036854775808) : zrun zTab (d + 1) 96 [w] c = some (mlen w, c) := by
  rw [ze_X10_lengthOf, zs_lengthOf_l d c 10 19998 0 w (by decide) rfl (by decide) h0 h1, Int.zero_add]; rfl
theorem zpow_lit (k : Nat) : (2 : Int) ^ (5 * k) = 32 ^ k := by rw [Int.pow_mul]; rfl
theorem zs_letterAt (d : Nat) {w k n : Int} (c : zC) (h0 : 0 ≤ w) (h1 : w < 9223372036854775808) (hk : 0 ≤ k) (hkn : k < n) (hn : n ≤ 10) : zrun zTab (d + 1) 97 [w, k, n] c = some (w / 32 ^ (n - 1 - k).toNat % 32 + 96, c) := by
  rw [ze_X10_letterAt, zsub_id (x := n) (y := 1) (by omega) (by omega), zsub_id (x := n - 1) (y := k) (by omega) (by omega), zmul_id (by omega) (by omega), zlushr_id h0 h1 (by omega) (by omega)]
  rw [show (5 * (n - 1 - k)).toNat = 5 * (n - 1 - k).toNat by omega, zpow_lit]
  have hp : (0 : Int) < 32 ^ (n - 1 - k).toNat := Int.pow_pos (by decide)
  have h2 : 0 ≤ w / 32 ^ (n - 1 - k).toNat := Int.ediv_nonneg h0 (by omega)
  have h3 : w / 32 ^ (n - 1 - k).toNat ≤ w := Int.ediv_le_self _ h0
  rw [zland31 h2 (by omega), zl2i_id ⟨by omega, by omega⟩, zadd_id (by omega) (by omega)]
/-- what a rule makes of a word, 0: it can't be applied -/
def mapp (e r : Int) (el rl : Nat) (w : Int) : Int :=
  if w / 32 ^ el * 32 ^ el + e = w ∧ w / 32 ^ el / 32 ≠ 0 ∧ (w / 32 ^ el * 32 ^ rl + r) / 1125899906842624 = 0 then w / 32 ^ el * 32 ^ rl + r else 0
theorem zs_applyTo (d : Nat) {q w : Int} {el rl : Nat} (c : zC) (hk : c q (-1) = 7) (hel1 : 1 ≤ el) (hel : el ≤ 4) (hrl : rl ≤ 3) (h2 : c q 2 = 5 * el) (h3 : c q 3 = 5 * rl) (he0 : 0 ≤ c q 0) (he1 : c q 0 < 32 ^ el) (hr0 : 0 ≤ c q 1) (hr1 : c q 1 < 32 ^ rl) (h0 : 0 ≤ w) (h1 : w < 1125899906842624) :
    zrun zTab (d + 1) 60 [q, w] c = some (mapp (c q 0) (c q 1) el rl w, c) := by
  have p1 : (0 : Int) < 32 ^ el := Int.pow_pos (by decide)
  have p2 : (0 : Int) < 32 ^ rl := Int.pow_pos (by decide)
  have p3 : (32 : Int) ^ rl ≤ 32 ^ 3 := z32_le_pow hrl
  have p4 : (32 : Int) ^ 3 = 32768 := by decide
  have p5 : (32 : Int) ^ el ≤ 32 ^ 4 := z32_le_pow hel
  have p6 : (32 : Int) ^ 4 = 1048576 := by decide
  have q1 : 0 ≤ w / 32 ^ el := Int.ediv_nonneg h0 (by omega)
  have q2 : w / 32 ^ el ≤ w := Int.ediv_le_self _ h0
  have q3 : w / 32 ^ el * 32 ^ el ≤ w := Int.ediv_mul_le _ (by omega)
  have p7 : (32 : Int) ^ 1 ≤ 32 ^ el := z32_le_pow hel1
  have q6 : w / 32 ^ el * 32 ≤ w / 32 ^ el * 32 ^ el := Int.mul_le_mul_of_nonneg_left p7 q1
  have q7 : w / 32 ^ el ≤ 35184372088831 := by omega
  have q4 : w / 32 ^ el * 32 ^ rl ≤ 35184372088831 * 32768 := by
    refine Int.le_trans (Int.mul_le_mul_of_nonneg_right q7 (by omega)) ?_
    exact Int.mul_le_mul_of_nonneg_left (by omega) (by decide)
  have q5 : 0 ≤ w / 32 ^ el * 32 ^ rl := Int.mul_nonneg q1 (by omega)
  have e1 : zlushr w (c q 2) = w / 32 ^ el := by
    rw [h2, zlushr_id h0 (by omega) (by omega) (by omega), show (5 * (el : Int)).toNat = 5 * el by omega, zpow_lit]
  have e2 : zlor (zlshl (w / 32 ^ el) (c q 2)) (c q 0) = w / 32 ^ el * 32 ^ el + c q 0 := by
    rw [h2, zlshl_id q1 (by omega) (by omega) (by rw [show (5 * (el : Int)).toNat = 5 * el by omega, zpow_lit]; omega), show (5 * (el : Int)).toNat = 5 * el by omega]
    rw [zlor_id q1 he0 (by rw [zpow_lit]; exact he1) (by rw [zpow_lit]; omega), zpow_lit]
  have e3 : zlor (zlshl (w / 32 ^ el) (c q 3)) (c q 1) = w / 32 ^ el * 32 ^ rl + c q 1 := by
    rw [h3, zlshl_id q1 (by omega) (by omega) (by rw [show (5 * (rl : Int)).toNat = 5 * rl by omega, zpow_lit]; omega), show (5 * (rl : Int)).toNat = 5 * rl by omega]
    rw [zlor_id q1 hr0 (by rw [zpow_lit]; exact hr1) (by rw [zpow_lit]; omega), zpow_lit]
  have e4 : zlushr (w / 32 ^ el) 5 = w / 32 ^ el / 32 := by rw [zlushr_id q1 (by omega) (by decide) (by decide)]; rfl
  have e5 : zlushr (w / 32 ^ el * 32 ^ rl + c q 1) 50 = (w / 32 ^ el * 32 ^ rl + c q 1) / 1125899906842624 := by rw [zlushr_id (by omega) (by omega) (by decide) (by decide)]; rfl
  rw [ze_X6_applyTo]
  simp only [hk, if_true, zcmp_eq, e1, e2]
  rw [show (19999 : Nat) = 19998 + 1 from rfl]
  simp only [ze_X6_applyTo_28, hk, if_true, zcmp_eq, e3, e4, e5]
  generalize c q 0 = ee
  generalize c q 1 = rr
  unfold mapp
  by_cases a : w / 32 ^ el * 32 ^ el + ee = w <;> by_cases b : w / 32 ^ el / 32 = 0 <;> by_cases cc : (w / 32 ^ el * 32 ^ rl + rr) / 1125899906842624 = 0 <;> simp [a, b, cc]
