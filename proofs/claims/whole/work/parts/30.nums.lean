/-! Numbers: the small machine's arithmetic where nothing wraps around; words as numbers, five bits a letter. -/
theorem zup_ne {c : zC} {a k v b j : Int} (h : b ≠ a ∨ j ≠ k) : zup c a k v b j = c b j := zup_o h
theorem zup_eq {c : zC} {a k v b j : Int} (h : b = a ∧ j = k) : zup c a k v b j = v := by
  obtain ⟨rfl, rfl⟩ := h; exact zup_s
theorem zbnd_some {v : Int} {c : zC} {f : Int → zC → zR} : zbnd (some (v, c)) f = f v c := rfl
theorem zadd_id {x y : Int} (h1 : -2147483648 ≤ x + y) (h2 : x + y < 2147483648) : zadd x y = x + y := zw_id ⟨h1, h2⟩
theorem zsub_id {x y : Int} (h1 : -2147483648 ≤ x - y) (h2 : x - y < 2147483648) : zsub x y = x - y := zw_id ⟨h1, h2⟩
theorem zmul_id {x y : Int} (h1 : -2147483648 ≤ x * y) (h2 : x * y < 2147483648) : zmul x y = x * y := zw_id ⟨h1, h2⟩
theorem zw_id' {x : Int} (h1 : -2147483648 ≤ x) (h2 : x < 2147483648) : zw x = x := zw_id ⟨h1, h2⟩
/-- a comparison of longs, asked for equality -/
theorem zcmp_eq {x y : Int} : ((if y < x then (1 : Int) else if x = y then 0 else -1) = 0) = (x = y) := by
  apply propext
  by_cases h : y < x
  · rw [if_pos h]; constructor <;> intro q <;> omega
  · rw [if_neg h]
    by_cases h2 : x = y
    · rw [if_pos h2]; simp [h2]
    · rw [if_neg h2]; constructor <;> intro q <;> omega
theorem zsh_i (s : Fin 64) : ((Int32.ofInt (s : Nat)).toInt64 &&& 63).toBitVec.smod 64 = BitVec.ofNat 64 s := by
  revert s; decide +kernel
theorem zsh_u (s : Fin 64) : (((Int32.ofInt (s : Nat)).toInt64.toUInt64 &&& Int64.toUInt64 63).toBitVec % 64) = BitVec.ofNat 64 s := by
  revert s; decide +kernel
theorem z64_bv {x : Int} (h0 : 0 ≤ x) (h1 : x < 9223372036854775808) : (Int64.ofInt x).toBitVec = BitVec.ofNat 64 x.toNat := by
  show BitVec.ofInt 64 x = _
  rw [← BitVec.ofInt_natCast, show ((x.toNat : Nat) : Int) = x by omega]
theorem zbv_toInt {n : Nat} (h : n < 9223372036854775808) : (BitVec.ofNat 64 n).toInt = (n : Int) := by
  rw [BitVec.toInt_eq_toNat_of_lt]
  · rw [BitVec.toNat_ofNat, Nat.mod_eq_of_lt (by omega)]
  · rw [BitVec.toNat_ofNat, Nat.mod_eq_of_lt (by omega)]; omega
theorem zlshl_id {x s : Int} (h0 : 0 ≤ x) (hs : 0 ≤ s) (hs2 : s < 64) (h : x * 2 ^ s.toNat < 9223372036854775808) : zlshl x s = x * 2 ^ s.toNat := by
  obtain ⟨n, rfl⟩ : ∃ n : Nat, s = n := ⟨s.toNat, by omega⟩
  have hn : n < 64 := by omega
  obtain ⟨m, rfl⟩ : ∃ m : Nat, x = m := ⟨x.toNat, by omega⟩
  have hp : 0 < 2 ^ n := Nat.two_pow_pos n
  have h : m * 2 ^ n < 9223372036854775808 := by
    have h' : ((m * 2 ^ n : Nat) : Int) < 9223372036854775808 := by simpa using h
    exact Int.ofNat_lt.mp h'
  have hm : m < 9223372036854775808 := Nat.lt_of_le_of_lt (Nat.le_mul_of_pos_right m hp) h
  unfold zlshl
  show ((Int64.ofInt (m : Int)).toBitVec <<< ((Int32.ofInt (n : Nat)).toInt64 &&& 63).toBitVec.smod 64).toInt = _
  rw [zsh_i ⟨n, hn⟩, z64_bv (by omega) (by omega), Int.toNat_natCast]
  have e : BitVec.ofNat 64 m <<< BitVec.ofNat 64 n = BitVec.ofNat 64 (m * 2 ^ n) := by
    apply BitVec.eq_of_toNat_eq
    rw [BitVec.shiftLeft_eq', BitVec.toNat_shiftLeft, BitVec.toNat_ofNat, BitVec.toNat_ofNat, BitVec.toNat_ofNat, Nat.mod_eq_of_lt (by omega : m < 2 ^ 64), Nat.mod_eq_of_lt (by omega : n < 2 ^ 64), Nat.shiftLeft_eq]
  rw [e, zbv_toInt h]
  simp
theorem zlushr_id {x s : Int} (h0 : 0 ≤ x) (hx : x < 9223372036854775808) (hs : 0 ≤ s) (hs2 : s < 64) : zlushr x s = x / 2 ^ s.toNat := by
  obtain ⟨n, rfl⟩ : ∃ n : Nat, s = n := ⟨s.toNat, by omega⟩
  have hn : n < 64 := by omega
  obtain ⟨m, rfl⟩ : ∃ m : Nat, x = m := ⟨x.toNat, by omega⟩
  have hm : m < 9223372036854775808 := by omega
  unfold zlushr
  show ((Int64.ofInt (m : Int)).toBitVec >>> (((Int32.ofInt (n : Nat)).toInt64.toUInt64 &&& Int64.toUInt64 63).toBitVec % 64)).toInt = _
  rw [zsh_u ⟨n, hn⟩, z64_bv (by omega) (by omega), Int.toNat_natCast]
  have hle : m / 2 ^ n ≤ m := Nat.div_le_self m (2 ^ n)
  have e : BitVec.ofNat 64 m >>> BitVec.ofNat 64 n = BitVec.ofNat 64 (m / 2 ^ n) := by
    apply BitVec.eq_of_toNat_eq
    rw [BitVec.ushiftRight_eq', BitVec.toNat_ushiftRight, BitVec.toNat_ofNat, BitVec.toNat_ofNat, BitVec.toNat_ofNat, Nat.mod_eq_of_lt (by omega : m < 2 ^ 64), Nat.mod_eq_of_lt (by omega : n < 2 ^ 64), Nat.shiftRight_eq_div_pow, Nat.mod_eq_of_lt (by omega)]
  rw [e, zbv_toInt (by omega), Int.toNat_natCast]
  simp
theorem zlor_id {a y : Int} {s : Nat} (ha : 0 ≤ a) (hy : 0 ≤ y) (hy2 : y < 2 ^ s) (h : a * 2 ^ s + y < 9223372036854775808) : zlor (a * 2 ^ s) y = a * 2 ^ s + y := by
  obtain ⟨m, rfl⟩ : ∃ m : Nat, a = m := ⟨a.toNat, by omega⟩
  obtain ⟨k, rfl⟩ : ∃ k : Nat, y = k := ⟨y.toNat, by omega⟩
  have hk : k < 2 ^ s := by exact_mod_cast hy2
  have h : m * 2 ^ s + k < 9223372036854775808 := by
    have h' : ((m * 2 ^ s + k : Nat) : Int) < 9223372036854775808 := by simpa using h
    exact Int.ofNat_lt.mp h'
  have c1 : ((m : Int) * 2 ^ s) = ((m * 2 ^ s : Nat) : Int) := by simp
  unfold zlor
  show ((Int64.ofInt _).toBitVec ||| (Int64.ofInt _).toBitVec).toInt = _
  rw [c1, z64_bv (by omega) (by omega), z64_bv (by omega) (by omega), Int.toNat_natCast, Int.toNat_natCast]
  have e : BitVec.ofNat 64 (m * 2 ^ s) ||| BitVec.ofNat 64 k = BitVec.ofNat 64 (m * 2 ^ s + k) := by
    apply BitVec.eq_of_toNat_eq
    rw [BitVec.toNat_or, BitVec.toNat_ofNat, BitVec.toNat_ofNat, BitVec.toNat_ofNat, Nat.mod_eq_of_lt (by omega), Nat.mod_eq_of_lt (by omega), Nat.mod_eq_of_lt (by omega), ← Nat.shiftLeft_eq, Nat.shiftLeft_add_eq_or_of_lt hk]
  rw [e, zbv_toInt (by omega)]
  simp
theorem zland31 {x : Int} (h0 : 0 ≤ x) (hx : x < 9223372036854775808) : zland x 31 = x % 32 := by
  obtain ⟨m, rfl⟩ : ∃ m : Nat, x = m := ⟨x.toNat, by omega⟩
  unfold zland
  show ((Int64.ofInt _).toBitVec &&& (Int64.ofInt 31).toBitVec).toInt = _
  rw [z64_bv (by omega) (by omega), Int.toNat_natCast]
  have e : BitVec.ofNat 64 m &&& (Int64.ofInt 31).toBitVec = BitVec.ofNat 64 (m % 32) := by
    apply BitVec.eq_of_toNat_eq
    rw [BitVec.toNat_and, BitVec.toNat_ofNat, BitVec.toNat_ofNat, Nat.mod_eq_of_lt (by omega), Nat.mod_eq_of_lt (by omega), show (Int64.ofInt 31).toBitVec.toNat = 2 ^ 5 - 1 from by decide +kernel, Nat.and_two_pow_sub_one_eq_mod]
  rw [e, zbv_toInt (by omega)]
  simp
theorem zl2i_id {x : Int} (h : zin32 x) : zl2i x = x := by
  unfold zl2i
  obtain ⟨h1, h2⟩ := h
  rw [Int64.toInt_toInt32, z64_to ⟨by omega, by omega⟩]
  exact Int.bmod_eq_of_le (by omega) (by omega)
