/-! The class's tape: a rule, a sense are read. -/
def tRul (B : Int → Int) (n : Int) (ca : Int) : Int × Int × tS :=
  ((tLets B n 4 (if tAt B n (0, -1, ca) then (0, -1, ca) else tFail 1 (0, -1, ca))).1,
   (tLets B n 3 (tDem B n 62 (tLets B n 4 (if tAt B n (0, -1, ca) then (0, -1, ca) else tFail 1 (0, -1, ca))).2)).1,
   tEnd B n (tLets B n 3 (tDem B n 62 (tLets B n 4 (if tAt B n (0, -1, ca) then (0, -1, ca) else tFail 1 (0, -1, ca))).2)).2)
theorem tLets_ok {B : Int → Int} {n : Int} {most : Nat} (hm : most ≤ 10) (s : tS) : 0 ≤ (tLets B n most s).1 ∧ (tLets B n most s).1 < 32 ^ most := tLet_ok hm 80 0 0 s (by decide) (by omega) (by decide)
/-- a rule's cell -/
def zrul (c : zC) (Q e r : Int) : zC := zup (zup (zup (zup c Q 0 e) Q 1 r) Q 2 (5 * mlen e)) Q 3 (5 * mlen r)
section
variable {c : zC} {T : Int} (d : Nat)
theorem zs_Y_readRule (h : LTp c T) (s : tS) : zrun zTab (d + 5) 80 [T] (zps c T s) = some (if (tRul (c (T + 1)) (c T 1) s.2.2).2.2.2.1 = -1 then 1 else 0, zps (zup (zrul c (T + 7) (tRul (c (T + 1)) (c T 1) s.2.2).1 (tRul (c (T + 1)) (c T 1) s.2.2).2.1) T 1 0) T (tRul (c (T + 1)) (c T 1) s.2.2).2.2) := by
  have h1 := h.2.1
  have h7 := h.2.2.2.2.2.2.2
  have hn := h.2.2.2.2.1
  have hs0 : tIn (c T 1) ((0, -1, s.2.2) : tS) := ⟨Int.le_refl 0, hn.1⟩
  have main : zex zc_X9_readRule zk_X9_readRule (zrun zTab (d + 4)) 19999 16 [(2, T), (3, 0), (3, 0), (3, 0), (3, 0)] [] (zps c T (if tAt (c (T + 1)) (c T 1) (0, -1, s.2.2) then (0, -1, s.2.2) else tFail 1 (0, -1, s.2.2))) = some (if (tRul (c (T + 1)) (c T 1) s.2.2).2.2.2.1 = -1 then 1 else 0, zps (zup (zrul c (T + 7) (tRul (c (T + 1)) (c T 1) s.2.2).1 (tRul (c (T + 1)) (c T 1) s.2.2).2.1) T 1 0) T (tRul (c (T + 1)) (c T 1) s.2.2).2.2) := by
    obtain ⟨s1, hs1⟩ : ∃ s1, s1 = (if tAt (c (T + 1)) (c T 1) (0, -1, s.2.2) then (0, -1, s.2.2) else tFail 1 (0, -1, s.2.2) : tS) := ⟨_, rfl⟩
    have i1 : tIn (c T 1) s1 := by
      rw [hs1]; split
      · exact hs0
      · exact hs0.fail
    have e1 := zs_Y_letters (most := 4) (d + 1) h (by decide) s1
    have i2 := i1.lets (B := c (T + 1)) (most := 4)
    have i2a := i2.1
    have i2b := i2.2
    have e2 := zs_Y_demand (d + 1) h 62 (tLets (c (T + 1)) (c T 1) 4 s1).2 (by omega)
    have e3 := zs_Y_letters (most := 3) (d + 1) h (by decide) (tDem (c (T + 1)) (c T 1) 62 (tLets (c (T + 1)) (c T 1) 4 s1).2)
    have e4 := zs_Y_demandEnd (d + 1) h (tLets (c (T + 1)) (c T 1) 3 (tDem (c (T + 1)) (c T 1) 62 (tLets (c (T + 1)) (c T 1) 4 s1).2)).2
    have b1 := tLets_ok (B := c (T + 1)) (n := c T 1) (most := 4) (by decide) s1
    have b2 := tLets_ok (B := c (T + 1)) (n := c T 1) (most := 3) (by decide) (tDem (c (T + 1)) (c T 1) 62 (tLets (c (T + 1)) (c T 1) 4 s1).2)
    have p4 : (32 : Int) ^ 4 = 1048576 := by decide
    have p3 : (32 : Int) ^ 3 = 32768 := by decide
    rw [p4] at b1
    rw [p3] at b2
    rw [show ((4 : Nat) : Int) = 4 from rfl] at e1 b1
    rw [show ((3 : Nat) : Int) = 3 from rfl] at e3 b2
    have e5 := zs_R_become (d + 2) (Q := T + 7) (e := (tLets (c (T + 1)) (c T 1) 4 s1).1) (r := (tLets (c (T + 1)) (c T 1) 3 (tDem (c (T + 1)) (c T 1) 62 (tLets (c (T + 1)) (c T 1) 4 s1).2)).1) (zps c T (tEnd (c (T + 1)) (c T 1) (tLets (c (T + 1)) (c T 1) 3 (tDem (c (T + 1)) (c T 1) 62 (tLets (c (T + 1)) (c T 1) 4 s1).2)).2)) (by show _ = _; rw [zps_o (by omega)]; exact h7.2) (by omega) (by omega)
    rw [zps_up (by omega), zps_up (by omega), zps_up (by omega), zps_up (by omega)] at e5
    have h8 : LTp (zrul c (T + 7) (tLets (c (T + 1)) (c T 1) 4 s1).1 (tLets (c (T + 1)) (c T 1) 3 (tDem (c (T + 1)) (c T 1) 62 (tLets (c (T + 1)) (c T 1) 4 s1).2)).1) T := h.far (fun b k q => by unfold zrul; rw [zup_ne (by omega), zup_ne (by omega), zup_ne (by omega), zup_ne (by omega)])
    have e6 := zs_Y_finish (d + 3) h8 (tEnd (c (T + 1)) (c T 1) (tLets (c (T + 1)) (c T 1) 3 (tDem (c (T + 1)) (c T 1) 62 (tLets (c (T + 1)) (c T 1) 4 s1).2)).2)
    unfold tRul
    rw [← hs1]
    rw [ze_X9_readRule_16, zps_o (b := T) (k := -1) (by omega), if_pos h1, e1, zbnd_some, zps_o (b := T) (k := -1) (by omega), if_pos h1, e2, zbnd_some, zps_o (b := T) (k := -1) (by omega), if_pos h1, e3, zbnd_some, zps_o (b := T) (k := -1) (by omega), if_pos h1, e4, zbnd_some, zps_o (b := T) (k := -1) (by omega), if_pos h1, zps_o (b := T) (k := 7) (by omega), h7.1, zps_o (b := T + 7) (k := -1) (by omega), if_pos h7.2, e5, zbnd_some]
    have hz : (zup (zup (zup (zup c (T + 7) 0 (tLets (c (T + 1)) (c T 1) 4 s1).1) (T + 7) 1 (tLets (c (T + 1)) (c T 1) 3 (tDem (c (T + 1)) (c T 1) 62 (tLets (c (T + 1)) (c T 1) 4 s1).2)).1) (T + 7) 2 (5 * mlen (tLets (c (T + 1)) (c T 1) 4 s1).1)) (T + 7) 3 (5 * mlen (tLets (c (T + 1)) (c T 1) 3 (tDem (c (T + 1)) (c T 1) 62 (tLets (c (T + 1)) (c T 1) 4 s1).2)).1)) = zrul c (T + 7) (tLets (c (T + 1)) (c T 1) 4 s1).1 (tLets (c (T + 1)) (c T 1) 3 (tDem (c (T + 1)) (c T 1) 62 (tLets (c (T + 1)) (c T 1) 4 s1).2)).1 := rfl
    rw [hz, zps_o (b := T) (k := -1) (by omega), if_pos h8.2.1, e6, zbnd_some]
    by_cases e : (tEnd (c (T + 1)) (c T 1) (tLets (c (T + 1)) (c T 1) 3 (tDem (c (T + 1)) (c T 1) 62 (tLets (c (T + 1)) (c T 1) 4 s1).2)).2).2.1 = -1
    · rw [if_pos e, if_pos (Or.inr rfl)]
    · rw [if_neg e, if_pos (Or.inl rfl)]
  rw [ze_X9_readRule, zps_o (b := T) (k := -1) (by omega), if_pos h1, zs_Y_start (d + 3) h, zbnd_some, zps_o (b := T) (k := -1) (by omega), if_pos h1, zs_Y_atLetter (d + 2) h, zbnd_some]
  by_cases e : tAt (c (T + 1)) (c T 1) (0, -1, s.2.2)
  · rw [if_pos e, if_neg (by decide)]
    rw [if_pos e] at main
    exact main
  · rw [if_neg e, if_pos rfl, zps_o (b := T) (k := -1) (by omega), if_pos h1, zs_Y_fail (d + 3) h, zbnd_some]
    rw [if_neg e] at main
    exact main
end
