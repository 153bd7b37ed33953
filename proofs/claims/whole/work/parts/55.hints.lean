/-! The class's tape: hints, the own page. -/
theorem zps_up {c : zC} {T b k v : Int} {s : tS} (h : b ≠ T ∨ k < 2 ∨ 4 < k) : zup (zps c T s) b k v = zps (zup c b k v) T s := by
  funext x y
  by_cases e : x = b ∧ y = k
  · rw [zup_eq e, zps_o (by omega), zup_eq e]
  · rw [zup_ne (by omega)]
    by_cases e2 : x = T ∧ 2 ≤ y ∧ y ≤ 4
    · obtain ⟨rfl, e3, e4⟩ := e2
      have : y = 2 ∨ y = 3 ∨ y = 4 := by omega
      rcases this with rfl | rfl | rfl
      · rw [zps_2, zps_2]
      · rw [zps_3, zps_3]
      · rw [zps_4, zps_4]
    · rw [zps_o (by omega), zps_o (by omega), zup_ne (by omega)]
/-- the sense on the tape has these hints -/
def zhs (c : zC) (T : Int) (l : List Int) : zC := fun b k => if b = T + 6 ∧ 0 ≤ k ∧ k < (l.length : Int) then l.getD k.toNat 0 else if b = T + 5 ∧ k = 2 then (l.length : Int) else c b k
theorem zhs_o {c : zC} {T b k : Int} {l : List Int} (h : (b ≠ T + 6 ∨ k < 0) ∧ (b ≠ T + 5 ∨ k ≠ 2)) : zhs c T l b k = c b k := by
  unfold zhs; rw [if_neg (by omega), if_neg (by omega)]
theorem zhs_n {c : zC} {T : Int} {l : List Int} : zhs c T l (T + 5) 2 = (l.length : Int) := by
  unfold zhs; rw [if_neg (by omega), if_pos ⟨rfl, rfl⟩]
theorem zhs_B {c : zC} {T : Int} {l : List Int} : zhs c T l (T + 1) = c (T + 1) := by
  funext k; rw [zhs_o (by omega)]
theorem zhs_up {c : zC} {T w : Int} {l : List Int} : zup (zup (zhs c T l) (T + 5 + 1) (l.length : Int) w) (T + 5) 2 ((l.length : Int) + 1) = zhs c T (l ++ [w]) := by
  funext b k
  by_cases e : b = T + 5 ∧ k = 2
  · rw [zup_eq e, e.1, e.2, zhs_n, List.length_append]; rfl
  · rw [zup_ne (by omega)]
    by_cases e2 : b = T + 5 + 1 ∧ k = (l.length : Int)
    · rw [zup_eq e2]
      unfold zhs
      rw [if_pos (by rw [List.length_append]; simp only [List.length_singleton]; omega), e2.2, List.getD_eq_getElem?_getD, List.getElem?_append_right (by omega)]
      simp
    · rw [zup_ne (by omega)]
      unfold zhs
      by_cases e3 : b = T + 6 ∧ 0 ≤ k ∧ k < (l.length : Int)
      · rw [if_pos e3, if_pos (by rw [List.length_append]; simp only [List.length_singleton]; omega), List.getD_eq_getElem?_getD, List.getD_eq_getElem?_getD, List.getElem?_append_left (by omega)]
      · rw [if_neg e3, if_neg e, if_neg (by rw [List.length_append]; simp only [List.length_singleton]; omega), if_neg e]
theorem LTp.hs {c : zC} {T : Int} (h : LTp c T) {l : List Int} (hl : l.length ≤ 4) : LTp (zhs c T l) T := by
  obtain ⟨h0, h1, h2, ⟨h3, h4⟩, h5, ⟨h6, p1, p2, p3, ⟨p4, p5⟩, ⟨p6, p7⟩, p8⟩, ⟨h7, q1, q2, ⟨q3, q4⟩, q5⟩, h8, h9⟩ := h
  refine ⟨h0, by rw [zhs_o (by omega)]; exact h1, by rw [zhs_o (by omega)]; exact h2, ⟨by rw [zhs_o (by omega)]; exact h3, by rw [zhs_o (by omega)]; exact h4⟩, by rw [zhs_o (by omega)]; exact h5, ⟨by rw [zhs_o (by omega)]; exact h6, by rw [zhs_o (by omega)]; exact p1, by rw [zhs_o (by omega)]; exact p2, by rw [zhs_o (by omega)]; exact p3, ⟨by rw [zhs_o (by omega)]; exact p4, by rw [zhs_o (by omega)]; exact p5⟩, ⟨by rw [zhs_o (by omega)]; exact p6, by rw [zhs_o (by omega)]; exact p7⟩, by rw [zhs_o (by omega)]; exact p8⟩, ⟨by rw [zhs_o (by omega)]; exact h7, by rw [zhs_o (by omega)]; exact q1, by rw [zhs_o (by omega)]; exact q2, ⟨by rw [zhs_o (by omega)]; exact q3, by rw [zhs_o (by omega)]; exact q4⟩, by rw [zhs_n]; omega⟩, by rw [zhs_o (by omega)]; exact h8, by rw [zhs_o (by omega)]; exact h9⟩
/-- the hints are taken: up to 5 times round -/
def tHin (B : Int → Int) (n : Int) : Nat → List Int → tS → List Int × tS
  | 0, l, s => (l, s)
  | t + 1, l, s => if s.2.1 = -1 then (if tCm B n 44 (tWrd B n (l.length < 4) s).2 then tHin B n t (if l.length < 4 then l ++ [(tWrd B n (l.length < 4) s).1] else l) (tDem B n 44 (tWrd B n (l.length < 4) s).2) else (if l.length < 4 then l ++ [(tWrd B n (l.length < 4) s).1] else l, (tWrd B n (l.length < 4) s).2)) else (l, s)
theorem tCm_pl {B : Int → Int} {n v : Int} {s : tS} (h : tCm B n v s) (hv : v ≠ -1) : 0 ≤ s.1 ∧ s.1 < n := by
  obtain ⟨-, h2⟩ := h
  unfold tB at h2
  by_cases e : 0 ≤ s.1 ∧ s.1 < n
  · exact e
  · rw [if_neg e] at h2; omega
section
variable {c : zC} {T : Int} (d : Nat)
theorem LTp.sns (h : LTp c T) : c T 6 = T + 5 ∧ c (T + 5) (-1) = 8 := ⟨h.2.2.2.2.2.2.1.1, h.2.2.2.2.2.2.1.2.1⟩
theorem zs_Y_hin_l (h : LTp c T) : ∀ (t F k : Nat) (l : List Int) (s : tS), t ≤ F → k + t = 5 → l.length ≤ 4 → zex zc_X9_takeHints zk_X9_takeHints (zrun zTab (d + 4)) (F + 1) 2 [(2, T), (0, (k : Int))] [] (zps (zhs c T l) T s) = some (0, zps (zhs c T (tHin (c (T + 1)) (c T 1) t l s).1) T (tHin (c (T + 1)) (c T 1) t l s).2) := by
  intro t
  induction t with
  | zero =>
    intro F k l s hF hk hl
    rw [ze_X9_takeHints_2, if_neg (by omega)]
    rfl
  | succ t ih =>
    intro F k l s hF hk hl
    obtain ⟨F, rfl⟩ : ∃ G, F = G + 1 := ⟨F - 1, by omega⟩
    have hL := h.hs hl
    have hn := h.2.2.2.2.1
    have h1 := hL.2.1
    have hq := hL.sns
    have e : tHin (c (T + 1)) (c T 1) (t + 1) l s = if s.2.1 = -1 then (if tCm (c (T + 1)) (c T 1) 44 (tWrd (c (T + 1)) (c T 1) (l.length < 4) s).2 then tHin (c (T + 1)) (c T 1) t (if l.length < 4 then l ++ [(tWrd (c (T + 1)) (c T 1) (l.length < 4) s).1] else l) (tDem (c (T + 1)) (c T 1) 44 (tWrd (c (T + 1)) (c T 1) (l.length < 4) s).2) else (if l.length < 4 then l ++ [(tWrd (c (T + 1)) (c T 1) (l.length < 4) s).1] else l, (tWrd (c (T + 1)) (c T 1) (l.length < 4) s).2)) else (l, s) := rfl
    have hw := zs_Y_word d hL (l.length < 4) s
    rw [zhs_B, zhs_o (b := T) (k := 1) (by omega)] at hw
    rw [ze_X9_takeHints_2, if_pos (by omega), zps_o (b := T) (k := -1) (by omega), if_pos h1, zps_3, e]
    by_cases e1 : s.2.1 = -1
    · rw [if_pos e1, if_pos e1, if_pos h1, if_pos h1, zps_o (b := T) (k := 6) (by omega), hq.1, zps_o (b := T + 5) (k := -1) (by omega), if_pos hq.2, zps_o (b := T + 5) (k := 2) (by omega), zhs_n, if_pos h1, if_pos h1]
      -- the same in both branches
      have main : ∀ l', l'.length ≤ 4 → (∀ s', zrun zTab (d + 4) 64 [T + 5, (tWrd (c (T + 1)) (c T 1) (l.length < 4) s).1] (zps (zhs c T l) T s') = some (0, zps (zhs c T l') T s')) →
          zbnd (zrun zTab (d + 4) 64 [T + 5, (tWrd (c (T + 1)) (c T 1) (l.length < 4) s).1] (zps (zhs c T l) T (tWrd (c (T + 1)) (c T 1) (l.length < 4) s).2)) (fun _ c4 =>
            if c4 T (-1) = 10 then
              zbnd (zrun zTab (d + 4) 86 [T, 44] c4) (fun v5 c6 =>
                if v5 = 0 then
                  some (0, c6)
                else
                  if c6 T (-1) = 10 then
                    zbnd (zrun zTab (d + 4) 88 [T, 44] c6) (fun _ c8 =>
                      zex zc_X9_takeHints zk_X9_takeHints (zrun zTab (d + 4)) (F + 1) 2 [(2, T), (0, zw ((k : Int) + 1))] [] c8)
                  else none)
            else none) = some (0, zps (zhs c T (if tCm (c (T + 1)) (c T 1) 44 (tWrd (c (T + 1)) (c T 1) (l.length < 4) s).2 then tHin (c (T + 1)) (c T 1) t l' (tDem (c (T + 1)) (c T 1) 44 (tWrd (c (T + 1)) (c T 1) (l.length < 4) s).2) else (l', (tWrd (c (T + 1)) (c T 1) (l.length < 4) s).2)).1) T (if tCm (c (T + 1)) (c T 1) 44 (tWrd (c (T + 1)) (c T 1) (l.length < 4) s).2 then tHin (c (T + 1)) (c T 1) t l' (tDem (c (T + 1)) (c T 1) 44 (tWrd (c (T + 1)) (c T 1) (l.length < 4) s).2) else (l', (tWrd (c (T + 1)) (c T 1) (l.length < 4) s).2)).2) := by
        intro l' hl' ha
        have hL' := h.hs hl'
        have hcm := zs_Y_comes (d + 2) hL' 44 (tWrd (c (T + 1)) (c T 1) (l.length < 4) s).2
        rw [zhs_B, zhs_o (b := T) (k := 1) (by omega)] at hcm
        rw [ha, zbnd_some, zps_o (b := T) (k := -1) (by omega), if_pos hL'.2.1, hcm, zbnd_some]
        by_cases e2 : tCm (c (T + 1)) (c T 1) 44 (tWrd (c (T + 1)) (c T 1) (l.length < 4) s).2
        · have hpl := tCm_pl e2 (by decide)
          have hdm := zs_Y_demand (d + 1) hL' 44 (tWrd (c (T + 1)) (c T 1) (l.length < 4) s).2 (by omega)
          rw [zhs_B, zhs_o (b := T) (k := 1) (by omega)] at hdm
          rw [if_pos e2, if_pos e2, if_neg (by decide), zps_o (b := T) (k := -1) (by omega), if_pos hL'.2.1, hdm, zbnd_some, zw_id' (by omega) (by omega), show (k : Int) + 1 = ((k + 1 : Nat) : Int) by omega]
          exact ih F (k + 1) l' _ (by omega) (by omega) hl'
        · rw [if_neg e2, if_neg e2, if_pos rfl]
      have hadd : ∀ s', zrun zTab (d + 4) 64 [T + 5, (tWrd (c (T + 1)) (c T 1) (l.length < 4) s).1] (zps (zhs c T l) T s') = some (0, zps (zhs c T (if l.length < 4 then l ++ [(tWrd (c (T + 1)) (c T 1) (l.length < 4) s).1] else l)) T s') := by
        intro s'
        have hS := (hL.ps s').2.2.2.2.2.2.1.2
        rw [zs_S_addHint (d + 3) _ hS, zps_o (b := T + 5) (k := 2) (by omega), zhs_n]
        by_cases e3 : l.length < 4
        · rw [if_pos (by omega), if_pos e3, zps_up (by omega), zps_up (by omega), zhs_up]
        · rw [if_neg (by omega), if_neg e3]
      have hlen : (if l.length < 4 then l ++ [(tWrd (c (T + 1)) (c T 1) (l.length < 4) s).1] else l).length ≤ 4 := by
        split
        · rw [List.length_append]; simp only [List.length_singleton]; omega
        · exact hl
      have hmain := main _ hlen hadd
      by_cases e3 : l.length < 4
      · rw [if_pos (show (l.length : Int) < 4 by omega)]
        rw [if_pos e3] at hw
        rw [hw, zbnd_some, zps_o (b := T + 5) (k := -1) (by omega), if_pos hq.2]
        exact hmain
      · rw [if_neg (show ¬ (l.length : Int) < 4 by omega)]
        rw [if_neg e3] at hw
        rw [hw, zbnd_some, zps_o (b := T + 5) (k := -1) (by omega), if_pos hq.2]
        exact hmain
    · rw [if_neg e1, if_neg e1]
end
