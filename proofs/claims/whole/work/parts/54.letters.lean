/-! The class's tape: letters, a word, a rule. -/
def tLet (B : Int → Int) (n most : Int) : Nat → Int → Int → tS → Int × tS
  | 0, _, w, s => (w, s)
  | t + 1, k, w, s => if tAt B n s then (if k < most then tLet B n most t (k + 1) (w * 32 + (tB B n s.1 - 96)) (s.1 + 1, s.2) else tLet B n most t (k + 1) w (tFail 2 s)) else (w, s)
def tLets (B : Int → Int) (n most : Int) (s : tS) : Int × tS := tLet B n most 80 0 0 s
def tWrd (B : Int → Int) (n : Int) (room : Prop) [Decidable room] (s : tS) : Int × tS := tLets B n 10 (if tAt B n s then (if room then s else tFail 3 s) else tFail 1 s)
theorem zpow9 : ∀ k : Fin 10, (32 : Int) ^ (k : Nat) ≤ 35184372088832 := by decide +kernel
theorem zpow10 : ∀ k : Fin 11, (32 : Int) ^ (k : Nat) ≤ 1125899906842624 := by decide +kernel
theorem tB_at {B : Int → Int} {n : Int} {s : tS} (h : tAt B n s) : 0 ≤ s.1 ∧ s.1 < n := by
  obtain ⟨-, h2, -⟩ := h
  unfold tB at h2
  by_cases e : 0 ≤ s.1 ∧ s.1 < n
  · exact e
  · rw [if_neg e] at h2; omega
/-- a word's letters: at most `most`, and where the reading stands -/
theorem tLet_ok {B : Int → Int} {n : Int} {most : Nat} (hm : most ≤ 10) : ∀ (t k : Nat) (w : Int) (s : tS), 0 ≤ w → k ≤ most → w < 32 ^ k → 0 ≤ (tLet B n most t k w s).1 ∧ (tLet B n most t k w s).1 < 32 ^ most := by
  have hmono : ∀ a b : Nat, a ≤ b → (32 : Int) ^ a ≤ 32 ^ b := fun a b h => by
    have := Nat.pow_le_pow_right (show 0 < 32 by decide) h
    exact_mod_cast this
  intro t
  induction t with
  | zero => intro k w s h0 hk h1; exact ⟨h0, Int.lt_of_lt_of_le h1 (hmono _ _ hk)⟩
  | succ t ih =>
    intro k w s h0 hk h1
    have e : tLet B n most (t + 1) k w s = if tAt B n s then (if (k : Int) < most then tLet B n most t (k + 1) (w * 32 + (tB B n s.1 - 96)) (s.1 + 1, s.2) else tLet B n most t (k + 1) w (tFail 2 s)) else (w, s) := rfl
    rw [e]
    by_cases e1 : tAt B n s
    · rw [if_pos e1]
      by_cases e2 : (k : Int) < most
      · rw [if_pos e2]
        have hx := e1.2
        have hp : (32 : Int) ^ (k + 1) = 32 ^ k * 32 := Int.pow_succ 32 k
        exact ih (k + 1) _ _ (by omega) (by omega) (by omega)
      · rw [if_neg e2]
        -- the word is full: nothing more is added
        have full : ∀ (t : Nat) (j : Int) (s : tS), (most : Int) ≤ j → (tLet B n most t j w s).1 = w := by
          intro t
          induction t with
          | zero => intro j s _; rfl
          | succ t ih2 =>
            intro j s hj
            have e : tLet B n most (t + 1) j w s = if tAt B n s then (if j < most then tLet B n most t (j + 1) (w * 32 + (tB B n s.1 - 96)) (s.1 + 1, s.2) else tLet B n most t (j + 1) w (tFail 2 s)) else (w, s) := rfl
            rw [e]
            split
            · rw [if_neg (by omega)]; exact ih2 _ _ (by omega)
            · rfl
        rw [full t _ _ (by omega)]
        exact ⟨h0, Int.lt_of_lt_of_le h1 (hmono _ _ hk)⟩
    · rw [if_neg e1]
      exact ⟨h0, Int.lt_of_lt_of_le h1 (hmono _ _ hk)⟩
section
variable {c : zC} {T : Int} (d : Nat)
theorem zs_Y_let_l (h : LTp c T) {most : Nat} (hm : most ≤ 10) : ∀ (t F k : Nat) (w : Int) (s : tS), t ≤ F → k + t = 80 → 0 ≤ w → (k ≤ most → w < 32 ^ k) → zex zc_X9_takeLetters zk_X9_takeLetters (zrun zTab (d + 2)) (F + 1) 5 [(2, T), (0, (most : Int)), (1, w), (3, 0), (0, (k : Int))] [] (zps c T s) = some ((tLet (c (T + 1)) (c T 1) most t k w s).1, zps c T (tLet (c (T + 1)) (c T 1) most t k w s).2) := by
  have h1 := h.2.1
  have hn := h.2.2.2.2.1
  intro t
  induction t with
  | zero =>
    intro F k w s hF hk h0 hw
    rw [ze_X9_takeLetters_5, if_neg (by omega)]
    rfl
  | succ t ih =>
    intro F k w s hF hk h0 hw
    obtain ⟨F, rfl⟩ : ∃ G, F = G + 1 := ⟨F - 1, by omega⟩
    have e : tLet (c (T + 1)) (c T 1) most (t + 1) k w s = if tAt (c (T + 1)) (c T 1) s then (if (k : Int) < most then tLet (c (T + 1)) (c T 1) most t (k + 1) (w * 32 + (tB (c (T + 1)) (c T 1) s.1 - 96)) (s.1 + 1, s.2) else tLet (c (T + 1)) (c T 1) most t (k + 1) w (tFail 2 s)) else (w, s) := rfl
    rw [ze_X9_takeLetters_5, if_pos (by omega), zps_o (b := T) (k := -1) (by omega), if_pos h1, zs_Y_atLetter d h, zbnd_some, e, zw_id' (by omega) (by omega), show (k : Int) + 1 = ((k + 1 : Nat) : Int) by omega]
    by_cases e1 : tAt (c (T + 1)) (c T 1) s
    · have hp := tB_at e1
      rw [if_pos e1, if_pos e1, if_neg (by decide)]
      by_cases e2 : (k : Int) < most
      · have hb := zpow9 ⟨k, by omega⟩
        have hb : (32 : Int) ^ k ≤ 35184372088832 := hb
        have hw1 := hw (by omega)
        rw [if_pos e2, if_pos e2, zps_o (b := T) (k := -1) (by omega), if_pos h1, zs_Y_byte (d + 1) h, zbnd_some, zs_with (d + 1) _ h0 (by omega) e1.2.1 e1.2.2, zbnd_some, zps_o (b := T) (k := -1) (by omega), if_pos h1, if_pos h1, zps_2, zadd_id (by omega) (by omega), zps_u2]
        exact ih F (k + 1) _ _ (by omega) (by omega) (by have := e1.2; omega) (fun _ => by
          rw [Int.pow_succ]; have := e1.2; omega)
      · rw [if_neg e2, if_neg e2, zps_o (b := T) (k := -1) (by omega), if_pos h1, zs_Y_fail (d + 1) h, zbnd_some]
        exact ih F (k + 1) _ _ (by omega) (by omega) h0 (fun q => by omega)
    · rw [if_neg e1, if_neg e1, if_pos rfl]
theorem zs_Y_letters (h : LTp c T) {most : Nat} (hm : most ≤ 10) (s : tS) : zrun zTab (d + 3) 90 [T, (most : Int)] (zps c T s) = some ((tLets (c (T + 1)) (c T 1) most s).1, zps c T (tLets (c (T + 1)) (c T 1) most s).2) := by
  rw [ze_X9_takeLetters]
  exact zs_Y_let_l d h hm 80 19998 0 0 s (by omega) (by omega) (by omega) (fun _ => by decide)
theorem zs_Y_word (h : LTp c T) (room : Prop) [Decidable room] (s : tS) : zrun zTab (d + 4) 91 [T, if room then 1 else 0] (zps c T s) = some ((tWrd (c (T + 1)) (c T 1) room s).1, zps c T (tWrd (c (T + 1)) (c T 1) room s).2) := by
  have h1 := h.2.1
  have hl := fun s => zs_Y_letters (most := 10) d h (by decide) s
  rw [ze_X9_takeWord, zps_o (b := T) (k := -1) (by omega), if_pos h1, zs_Y_atLetter (d + 1) h, zbnd_some]
  unfold tWrd
  by_cases e : tAt (c (T + 1)) (c T 1) s
  · rw [if_pos e, if_pos e, if_neg (by decide)]
    by_cases e2 : room
    · rw [if_pos e2, if_pos e2, if_neg (by decide), zps_o (b := T) (k := -1) (by omega), if_pos h1]
      rw [show (10 : Int) = ((10 : Nat) : Int) from rfl, hl, zbnd_some]
    · rw [if_neg e2, if_neg e2, if_pos rfl, zps_o (b := T) (k := -1) (by omega), if_pos h1, zs_Y_fail (d + 2) h, zbnd_some, zps_o (b := T) (k := -1) (by omega), if_pos h1]
      rw [show (10 : Int) = ((10 : Nat) : Int) from rfl, hl, zbnd_some]
  · rw [if_neg e, if_neg e, if_pos rfl, zps_o (b := T) (k := -1) (by omega), if_pos h1, zs_Y_fail (d + 2) h, zbnd_some, zps_o (b := T) (k := -1) (by omega), if_pos h1]
    rw [show (10 : Int) = ((10 : Nat) : Int) from rfl, hl, zbnd_some]
end
