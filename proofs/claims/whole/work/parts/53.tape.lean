/-! The class's tape: the state of a reading. -/
abbrev tS : Type := Int × Int × Int
def zps (c : zC) (T : Int) (s : tS) : zC := zup (zup (zup c T 2 s.1) T 3 s.2.1) T 4 s.2.2
theorem zps_o {c : zC} {T b k : Int} {s : tS} (h : b ≠ T ∨ k < 2 ∨ 4 < k) : zps c T s b k = c b k := by
  unfold zps; rw [zup_ne (by omega), zup_ne (by omega), zup_ne (by omega)]
theorem zps_2 {c : zC} {T : Int} {s : tS} : zps c T s T 2 = s.1 := by
  unfold zps; rw [zup_ne (by omega), zup_ne (by omega), zup_eq ⟨rfl, rfl⟩]
theorem zps_3 {c : zC} {T : Int} {s : tS} : zps c T s T 3 = s.2.1 := by
  unfold zps; rw [zup_ne (by omega), zup_eq ⟨rfl, rfl⟩]
theorem zps_4 {c : zC} {T : Int} {s : tS} : zps c T s T 4 = s.2.2 := by
  unfold zps; rw [zup_eq ⟨rfl, rfl⟩]
theorem zps_u2 {c : zC} {T v : Int} {s : tS} : zup (zps c T s) T 2 v = zps c T (v, s.2) := by
  funext b k
  by_cases e : b = T ∧ k = 2
  · rw [zup_eq e, e.1, e.2, zps_2]
  · rw [zup_ne (by omega)]
    by_cases e3 : b = T ∧ k = 3
    · rw [e3.1, e3.2, zps_3, zps_3]
    · by_cases e4 : b = T ∧ k = 4
      · rw [e4.1, e4.2, zps_4, zps_4]
      · rw [zps_o (by omega), zps_o (by omega)]
theorem zps_u34 {c : zC} {T v w : Int} {s : tS} : zup (zup (zps c T s) T 3 v) T 4 w = zps c T (s.1, v, w) := by
  funext b k
  by_cases e : b = T ∧ k = 4
  · rw [zup_eq e, e.1, e.2, zps_4]
  · rw [zup_ne (by omega)]
    by_cases e3 : b = T ∧ k = 3
    · rw [zup_eq e3, e3.1, e3.2, zps_3]
    · rw [zup_ne (by omega)]
      by_cases e4 : b = T ∧ k = 2
      · rw [e4.1, e4.2, zps_2, zps_2]
      · rw [zps_o (by omega), zps_o (by omega)]
theorem zps_id (c : zC) (T : Int) : zps c T (c T 2, c T 3, c T 4) = c := by
  funext b k
  by_cases e : b = T ∧ k = 2
  · rw [e.1, e.2, zps_2]
  · by_cases e3 : b = T ∧ k = 3
    · rw [e3.1, e3.2, zps_3]
    · by_cases e4 : b = T ∧ k = 4
      · rw [e4.1, e4.2, zps_4]
      · rw [zps_o (by omega)]
def LTp (c : zC) (T : Int) : Prop := 0 < T ∧ c T (-1) = 10 ∧ c T 0 = T + 1 ∧ LArr c (T + 1) 100 80 ∧ (0 ≤ c T 1 ∧ c T 1 ≤ 80) ∧ (c T 5 = T + 2 ∧ LPage c (T + 2)) ∧ (c T 6 = T + 5 ∧ LSense c (T + 5)) ∧ c T 7 = T + 7 ∧ c (T + 7) (-1) = 7
theorem LTp.ps {c : zC} {T : Int} (h : LTp c T) (s : tS) : LTp (zps c T s) T := by
  unfold LTp LArr LPage LSense LArr at h ⊢
  simp only [zps_o (c := c) (T := T) (s := s) (b := T) (k := -1) (by omega), zps_o (c := c) (T := T) (s := s) (b := T) (k := 0) (by omega), zps_o (c := c) (T := T) (s := s) (b := T) (k := 1) (by omega), zps_o (c := c) (T := T) (s := s) (b := T) (k := 5) (by omega), zps_o (c := c) (T := T) (s := s) (b := T) (k := 6) (by omega), zps_o (c := c) (T := T) (s := s) (b := T) (k := 7) (by omega), fun k => zps_o (c := c) (T := T) (s := s) (b := T + 1) (k := k) (by omega), fun k => zps_o (c := c) (T := T) (s := s) (b := T + 2) (k := k) (by omega), fun k => zps_o (c := c) (T := T) (s := s) (b := T + 2 + 1) (k := k) (by omega), fun k => zps_o (c := c) (T := T) (s := s) (b := T + 2 + 2) (k := k) (by omega), fun k => zps_o (c := c) (T := T) (s := s) (b := T + 5) (k := k) (by omega), fun k => zps_o (c := c) (T := T) (s := s) (b := T + 5 + 1) (k := k) (by omega), fun k => zps_o (c := c) (T := T) (s := s) (b := T + 7) (k := k) (by omega)]
  exact h
def tB (B : Int → Int) (n pl : Int) : Int := if 0 ≤ pl ∧ pl < n then B pl else -1
def tFail (why : Int) (s : tS) : tS := if s.2.1 = -1 then (s.1, s.1, why) else s
abbrev tAt (B : Int → Int) (n : Int) (s : tS) : Prop := s.2.1 = -1 ∧ 97 ≤ tB B n s.1 ∧ tB B n s.1 ≤ 122
abbrev tCm (B : Int → Int) (n v : Int) (s : tS) : Prop := s.2.1 = -1 ∧ tB B n s.1 = v
def tDem (B : Int → Int) (n v : Int) (s : tS) : tS := if tCm B n v s then (s.1 + 1, s.2) else tFail 1 s
def tEnd (B : Int → Int) (n : Int) (s : tS) : tS := if tCm B n (-1) s then s else tFail 1 s
section
variable {c : zC} {T : Int} (d : Nat)
theorem zs_Y_fail (h : LTp c T) (w : Int) (s : tS) : zrun zTab (d + 1) 84 [T, w] (zps c T s) = some (0, zps c T (tFail w s)) := by
  have h1 := h.2.1
  rw [ze_X9_fail, zps_o (by omega), if_pos h1, zps_3]
  unfold tFail
  by_cases e : s.2.1 = -1
  · rw [if_pos e, if_pos e, if_pos h1, if_pos h1, zup_ne (by omega), zps_o (by omega), if_pos h1, zps_2, zps_u34]
  · rw [if_neg e, if_neg e]
theorem zs_Y_byte (h : LTp c T) (s : tS) : zrun zTab (d + 1) 85 [T] (zps c T s) = some (tB (c (T + 1)) (c T 1) s.1, zps c T s) := by
  obtain ⟨h0, h1, h2, ⟨h3, h4⟩, h5, -⟩ := h
  rw [ze_X9_comingByte, zps_o (b := T) (k := -1) (by omega), if_pos h1, zps_2]
  unfold tB
  by_cases e : s.1 < 0
  · rw [if_pos e, if_neg (show ¬ (0 ≤ s.1 ∧ s.1 < c T 1) by omega)]
  · rw [if_neg e, if_pos h1, if_pos h1, zps_o (b := T) (k := 1) (by omega)]
    by_cases e2 : s.1 < c T 1
    · rw [if_pos e2, if_pos h1, if_pos h1, zps_o (b := T) (k := 0) (by omega), h2, zps_o (b := T + 1) (k := -1) (by omega), if_pos h3, zps_o (b := T + 1) (k := -2) (by omega), h4, if_pos (by omega), if_pos h1, if_pos h1, if_pos (show c (T + 1) (-1) = 100 ∧ (0 : Int) ≤ s.1 ∧ s.1 < 80 from ⟨h3, by omega, by omega⟩), zps_o (b := T + 1) (by omega), if_pos (show 0 ≤ s.1 ∧ s.1 < c T 1 by omega)]
    · rw [if_neg e2, if_neg (show ¬ (0 ≤ s.1 ∧ s.1 < c T 1) by omega)]
theorem zs_Y_comes (h : LTp c T) (v : Int) (s : tS) : zrun zTab (d + 2) 86 [T, v] (zps c T s) = some (if tCm (c (T + 1)) (c T 1) v s then 1 else 0, zps c T s) := by
  have h1 := h.2.1
  rw [ze_X9_comes, zps_o (b := T) (k := -1) (by omega), if_pos h1, zps_3]
  by_cases e : s.2.1 = -1
  · rw [if_pos e, if_pos h1, zs_Y_byte d h, zbnd_some]
    by_cases e2 : tB (c (T + 1)) (c T 1) s.1 = v
    · rw [if_pos e2, if_pos (show tCm (c (T + 1)) (c T 1) v s from ⟨e, e2⟩)]
    · rw [if_neg e2, if_neg (show ¬ tCm (c (T + 1)) (c T 1) v s from fun q => e2 q.2)]
  · rw [if_neg e, if_neg (show ¬ tCm (c (T + 1)) (c T 1) v s from fun q => e q.1)]
theorem zs_Y_atLetter (h : LTp c T) (s : tS) : zrun zTab (d + 2) 87 [T] (zps c T s) = some (if tAt (c (T + 1)) (c T 1) s then 1 else 0, zps c T s) := by
  have h1 := h.2.1
  rw [ze_X9_atLetter, zps_o (b := T) (k := -1) (by omega), if_pos h1, zs_Y_byte d h, zbnd_some, zps_o (b := T) (k := -1) (by omega), if_pos h1, zps_3]
  by_cases e : s.2.1 = -1
  · rw [if_pos e]
    by_cases e2 : tB (c (T + 1)) (c T 1) s.1 < 97
    · rw [if_pos e2, if_neg (show ¬ tAt (c (T + 1)) (c T 1) s from fun q => by omega)]
    · rw [if_neg e2]
      by_cases e3 : tB (c (T + 1)) (c T 1) s.1 ≤ 122
      · rw [if_pos e3, if_pos (show tAt (c (T + 1)) (c T 1) s from ⟨e, by omega, e3⟩)]
      · rw [if_neg e3, if_neg (show ¬ tAt (c (T + 1)) (c T 1) s from fun q => e3 q.2.2)]
  · rw [if_neg e, if_neg (show ¬ tAt (c (T + 1)) (c T 1) s from fun q => e q.1)]
theorem zs_Y_demand (h : LTp c T) (v : Int) (s : tS) (hs : -10 ≤ s.1 ∧ s.1 < 1000) : zrun zTab (d + 3) 88 [T, v] (zps c T s) = some (0, zps c T (tDem (c (T + 1)) (c T 1) v s)) := by
  have h1 := h.2.1
  rw [ze_X9_demand, zps_o (b := T) (k := -1) (by omega), if_pos h1, zs_Y_comes d h, zbnd_some]
  unfold tDem
  by_cases e : tCm (c (T + 1)) (c T 1) v s
  · rw [if_pos e, if_pos e, if_neg (by decide), zps_o (b := T) (k := -1) (by omega), if_pos h1, if_pos h1, zps_2, zadd_id (by omega) (by omega), zps_u2]
  · rw [if_neg e, if_neg e, if_pos rfl, zps_o (b := T) (k := -1) (by omega), if_pos h1, zs_Y_fail (d + 1) h, zbnd_some]
theorem zs_Y_demandEnd (h : LTp c T) (s : tS) : zrun zTab (d + 3) 89 [T] (zps c T s) = some (0, zps c T (tEnd (c (T + 1)) (c T 1) s)) := by
  have h1 := h.2.1
  rw [ze_X9_demandEnd, zps_o (b := T) (k := -1) (by omega), if_pos h1, zs_Y_comes d h, zbnd_some]
  unfold tEnd
  by_cases e : tCm (c (T + 1)) (c T 1) (-1) s
  · rw [if_pos e, if_pos e, if_neg (by decide)]
  · rw [if_neg e, if_neg e, if_pos rfl, zps_o (b := T) (k := -1) (by omega), if_pos h1, zs_Y_fail (d + 1) h, zbnd_some]
end
