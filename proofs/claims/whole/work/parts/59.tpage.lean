/-! The class's tape: a page is read. -/
def zpl (c : zC) (T : Int) (l : zBL) : zC := fun b k => if b = T + 3 ∧ 0 ≤ k ∧ k < (l.length : Int) then (l.getD k.toNat (0, 0)).1 else if b = T + 4 ∧ 0 ≤ k ∧ k < (l.length : Int) then (l.getD k.toNat (0, 0)).2 else if b = T + 2 ∧ k = 2 then (l.length : Int) else c b k
theorem zpl_o {c : zC} {T b k : Int} {l : zBL} (h : (b ≠ T + 3 ∧ b ≠ T + 4 ∨ k < 0) ∧ (b ≠ T + 2 ∨ k ≠ 2)) : zpl c T l b k = c b k := by
  unfold zpl; rw [if_neg (by omega), if_neg (by omega), if_neg (by omega)]
theorem zpl_n {c : zC} {T : Int} {l : zBL} : zpl c T l (T + 2) 2 = (l.length : Int) := by
  unfold zpl; rw [if_neg (by omega), if_neg (by omega), if_pos ⟨rfl, rfl⟩]
theorem zpl_B {c : zC} {T : Int} {l : zBL} : zpl c T l (T + 1) = c (T + 1) := by
  funext k; rw [zpl_o (by omega)]
theorem zpl_N {c : zC} {T : Int} {l : zBL} : zpl c T l T 1 = c T 1 := zpl_o (by omega)
theorem zpl_up {c : zC} {T w s : Int} {l : zBL} : zup (zup (zup (zpl c T l) (T + 2 + 1) (l.length : Int) w) (T + 2 + 2) (l.length : Int) s) (T + 2) 2 ((l.length : Int) + 1) = zpl c T (l ++ [(w, s)]) := by
  have hlen : (((l ++ [(w, s)]).length : Nat) : Int) = (l.length : Int) + 1 := by rw [List.length_append]; rfl
  have hlast : ∀ k : Int, k = (l.length : Int) → (l ++ [(w, s)]).getD k.toNat (0, 0) = (w, s) := fun k hk => by
    rw [List.getD_eq_getElem?_getD, List.getElem?_append_right (by omega), show k.toNat - l.length = 0 by omega]; rfl
  have hold : ∀ k : Int, 0 ≤ k → k < (l.length : Int) → (l ++ [(w, s)]).getD k.toNat (0, 0) = l.getD k.toNat (0, 0) := fun k k0 k1 => zgetD_app (by omega)
  funext b k
  unfold zpl
  rw [hlen]
  by_cases e : b = T + 2 ∧ k = 2
  · rw [zup_eq e, if_neg (by omega), if_neg (by omega), if_pos e]
  · rw [zup_ne (by omega)]
    by_cases e2 : b = T + 2 + 2 ∧ k = (l.length : Int)
    · rw [zup_eq e2, if_neg (by omega), if_pos (by omega), hlast k e2.2]
    · rw [zup_ne (by omega)]
      by_cases e3 : b = T + 2 + 1 ∧ k = (l.length : Int)
      · rw [zup_eq e3, if_pos (by omega), hlast k e3.2]
      · rw [zup_ne (by omega)]
        by_cases e4 : b = T + 3 ∧ 0 ≤ k ∧ k < (l.length : Int)
        · rw [if_pos e4, if_pos (by omega), hold k e4.2.1 e4.2.2]
        · rw [if_neg e4]
          by_cases e5 : b = T + 4 ∧ 0 ≤ k ∧ k < (l.length : Int)
          · rw [if_pos e5, if_neg (by omega), if_pos (by omega), hold k e5.2.1 e5.2.2]
          · rw [if_neg e5, if_neg e, if_neg (by omega), if_neg (by omega), if_neg e]
theorem LTp.pl {c : zC} {T : Int} (h : LTp c T) {l : zBL} (hl : l.length ≤ 20) : LTp (zpl c T l) T := by
  obtain ⟨h0, h1, h2, ⟨h3, h4⟩, h5, ⟨h6, p1, p2, p3, ⟨p4, p5⟩, ⟨p6, p7⟩, p8⟩, ⟨h7, q1, q2, ⟨q3, q4⟩, q5⟩, h8, h9⟩ := h
  refine ⟨h0, by rw [zpl_o (by omega)]; exact h1, by rw [zpl_o (by omega)]; exact h2, ⟨by rw [zpl_o (by omega)]; exact h3, by rw [zpl_o (by omega)]; exact h4⟩, by rw [zpl_o (by omega)]; exact h5, ⟨by rw [zpl_o (by omega)]; exact h6, by rw [zpl_o (by omega)]; exact p1, by rw [zpl_o (by omega)]; exact p2, by rw [zpl_o (by omega)]; exact p3, ⟨by rw [zpl_o (by omega)]; exact p4, by rw [zpl_o (by omega)]; exact p5⟩, ⟨by rw [zpl_o (by omega)]; exact p6, by rw [zpl_o (by omega)]; exact p7⟩, by rw [zpl_n]; omega⟩, ⟨by rw [zpl_o (by omega)]; exact h7, by rw [zpl_o (by omega)]; exact q1, by rw [zpl_o (by omega)]; exact q2, ⟨by rw [zpl_o (by omega)]; exact q3, by rw [zpl_o (by omega)]; exact q4⟩, by rw [zpl_o (by omega)]; exact q5⟩, by rw [zpl_o (by omega)]; exact h8, by rw [zpl_o (by omega)]; exact h9⟩
/-- the words that a page takes -/
def tAdd (B : Int → Int) (n sec : Int) (l : zBL) (s : tS) : zBL := if l.length < 20 then l ++ [((tWrd B n (l.length < 20) s).1, sec)] else l
def tSl (sec : Int) (s : tS) : tS := if sec + 1 < 4 then s else tFail 3 s
def tSec (B : Int → Int) (n : Int) : Nat → Int → zBL → tS → zBL × tS
  | 0, _, l, s => (l, s)
  | t + 1, sec, l, s => if s.2.1 = -1 then (if tCm B n (-1) (tWrd B n (l.length < 20) s).2 then (tAdd B n sec l s, (tWrd B n (l.length < 20) s).2) else (if tCm B n 47 (tDem B n 32 (tWrd B n (l.length < 20) s).2) then tSec B n t (sec + 1) (tAdd B n sec l s) (tDem B n 32 (tDem B n 47 (tSl sec (tDem B n 32 (tWrd B n (l.length < 20) s).2)))) else tSec B n t sec (tAdd B n sec l s) (tDem B n 32 (tWrd B n (l.length < 20) s).2))) else (l, s)
theorem tAdd_len {B : Int → Int} {n sec : Int} {l : zBL} {s : tS} (h : l.length ≤ 20) : (tAdd B n sec l s).length ≤ 20 := by
  unfold tAdd; split
  · rw [List.length_append]; simp only [List.length_singleton]; omega
  · exact h
theorem tIn.sl {n sec : Int} {s : tS} (h : tIn n s) : tIn n (tSl sec s) := by
  unfold tSl; split
  · exact h
  · exact h.fail
section
variable {c : zC} {T : Int} (d : Nat)
theorem zs_Y_sec_l (h : LTp c T) : ∀ (t F k : Nat) (sec : Int) (l : zBL) (s : tS), 2 * t ≤ F → k + t = 80 → 0 ≤ sec → sec ≤ k → l.length ≤ 20 → tIn (c T 1) s → zex zc_X9_takeSections zk_X9_takeSections (zrun zTab (d + 4)) (F + 1) 4 [(2, T), (0, sec), (0, (k : Int))] [] (zps (zpl c T l) T s) = some (0, zps (zpl c T (tSec (c (T + 1)) (c T 1) t sec l s).1) T (tSec (c (T + 1)) (c T 1) t sec l s).2) := by
  intro t
  induction t with
  | zero =>
    intro F k sec l s hF hk hs0 hsk hl hi
    rw [ze_X9_takeSections_4, if_neg (by omega)]
    rfl
  | succ t ih =>
    intro F k sec l s hF hk hs0 hsk hl hi
    obtain ⟨F, rfl⟩ : ∃ G, F = G + 2 := ⟨F - 2, by omega⟩
    have hn := h.2.2.2.2.1
    have hL := h.pl hl
    have hp := hL.2.2.2.2.2.1
    have e : tSec (c (T + 1)) (c T 1) (t + 1) sec l s = if s.2.1 = -1 then (if tCm (c (T + 1)) (c T 1) (-1) (tWrd (c (T + 1)) (c T 1) (l.length < 20) s).2 then (tAdd (c (T + 1)) (c T 1) sec l s, (tWrd (c (T + 1)) (c T 1) (l.length < 20) s).2) else (if tCm (c (T + 1)) (c T 1) 47 (tDem (c (T + 1)) (c T 1) 32 (tWrd (c (T + 1)) (c T 1) (l.length < 20) s).2) then tSec (c (T + 1)) (c T 1) t (sec + 1) (tAdd (c (T + 1)) (c T 1) sec l s) (tDem (c (T + 1)) (c T 1) 32 (tDem (c (T + 1)) (c T 1) 47 (tSl sec (tDem (c (T + 1)) (c T 1) 32 (tWrd (c (T + 1)) (c T 1) (l.length < 20) s).2)))) else tSec (c (T + 1)) (c T 1) t sec (tAdd (c (T + 1)) (c T 1) sec l s) (tDem (c (T + 1)) (c T 1) 32 (tWrd (c (T + 1)) (c T 1) (l.length < 20) s).2))) else (l, s) := rfl
    rw [ze_X9_takeSections_4, if_pos (by omega), zps_o (b := T) (k := -1) (by omega), if_pos hL.2.1, zps_3, e]
    by_cases e1 : s.2.1 = -1
    · have hlen' := tAdd_len (B := c (T + 1)) (n := c T 1) (sec := sec) (s := s) hl
      have hL' := h.pl hlen'
      have hw := zs_Y_word d hL (l.length < 20) s
      rw [zpl_B, zpl_N] at hw
      have hadd : ∀ s', zrun zTab (d + 4) 45 [T + 2, (tWrd (c (T + 1)) (c T 1) (l.length < 20) s).1, sec] (zps (zpl c T l) T s') = some (0, zps (zpl c T (tAdd (c (T + 1)) (c T 1) sec l s)) T s') := by
        intro s'
        rw [zs_P_addWord (d + 3) _ (hL.ps s').2.2.2.2.2.1.2, zps_o (b := T + 2) (k := 2) (by omega), zpl_n]
        unfold tAdd
        by_cases e3 : l.length < 20
        · rw [if_pos (by omega), if_pos e3, zps_up (by omega), zps_up (by omega), zps_up (by omega), zpl_up]
        · rw [if_neg (by omega), if_neg e3]
      have i1 : tIn (c T 1) (tWrd (c (T + 1)) (c T 1) (l.length < 20) s).2 := hi.wrd
      have i2 := i1.dem (B := c (T + 1)) (v := 32) (by decide)
      have hcm := zs_Y_comes (d + 2) hL' (-1) (tWrd (c (T + 1)) (c T 1) (l.length < 20) s).2
      rw [zpl_B, zpl_N] at hcm
      have hdm := fun v s (q : tIn (c T 1) s) => zs_Y_demand (d + 1) hL' v s (by have := q.1; have := q.2; omega)
      rw [zpl_B, zpl_N] at hdm
      have hcm2 := zs_Y_comes (d + 2) hL' 47 (tDem (c (T + 1)) (c T 1) 32 (tWrd (c (T + 1)) (c T 1) (l.length < 20) s).2)
      rw [zpl_B, zpl_N] at hcm2
      have body : ∀ r : Int, r = (if l.length < 20 then 1 else 0) → zex zc_X9_takeSections zk_X9_takeSections (zrun zTab (d + 4)) (F + 1 + 1) 40 [(2, T), (0, sec), (0, (k : Int))] [(0, r), (2, T), (2, T + 2)] (zps (zpl c T l) T s) = some (0, zps (zpl c T (if tCm (c (T + 1)) (c T 1) (-1) (tWrd (c (T + 1)) (c T 1) (l.length < 20) s).2 then (tAdd (c (T + 1)) (c T 1) sec l s, (tWrd (c (T + 1)) (c T 1) (l.length < 20) s).2) else (if tCm (c (T + 1)) (c T 1) 47 (tDem (c (T + 1)) (c T 1) 32 (tWrd (c (T + 1)) (c T 1) (l.length < 20) s).2) then tSec (c (T + 1)) (c T 1) t (sec + 1) (tAdd (c (T + 1)) (c T 1) sec l s) (tDem (c (T + 1)) (c T 1) 32 (tDem (c (T + 1)) (c T 1) 47 (tSl sec (tDem (c (T + 1)) (c T 1) 32 (tWrd (c (T + 1)) (c T 1) (l.length < 20) s).2)))) else tSec (c (T + 1)) (c T 1) t sec (tAdd (c (T + 1)) (c T 1) sec l s) (tDem (c (T + 1)) (c T 1) 32 (tWrd (c (T + 1)) (c T 1) (l.length < 20) s).2))).1) T (if tCm (c (T + 1)) (c T 1) (-1) (tWrd (c (T + 1)) (c T 1) (l.length < 20) s).2 then (tAdd (c (T + 1)) (c T 1) sec l s, (tWrd (c (T + 1)) (c T 1) (l.length < 20) s).2) else (if tCm (c (T + 1)) (c T 1) 47 (tDem (c (T + 1)) (c T 1) 32 (tWrd (c (T + 1)) (c T 1) (l.length < 20) s).2) then tSec (c (T + 1)) (c T 1) t (sec + 1) (tAdd (c (T + 1)) (c T 1) sec l s) (tDem (c (T + 1)) (c T 1) 32 (tDem (c (T + 1)) (c T 1) 47 (tSl sec (tDem (c (T + 1)) (c T 1) 32 (tWrd (c (T + 1)) (c T 1) (l.length < 20) s).2)))) else tSec (c (T + 1)) (c T 1) t sec (tAdd (c (T + 1)) (c T 1) sec l s) (tDem (c (T + 1)) (c T 1) 32 (tWrd (c (T + 1)) (c T 1) (l.length < 20) s).2))).2) := by
        intro r hr
        subst hr
        rw [ze_X9_takeSections_40, zps_o (b := T) (k := -1) (by omega), if_pos hL.2.1, hw, zbnd_some, zps_o (b := T + 2) (k := -1) (by omega), if_pos hp.2.1, hadd, zbnd_some, zps_o (b := T) (k := -1) (by omega), if_pos hL'.2.1, hcm, zbnd_some]
        by_cases f1 : tCm (c (T + 1)) (c T 1) (-1) (tWrd (c (T + 1)) (c T 1) (l.length < 20) s).2
        · rw [if_pos f1, if_pos f1, if_neg (by decide)]
        · rw [if_neg f1, if_neg f1, if_pos rfl, zps_o (b := T) (k := -1) (by omega), if_pos hL'.2.1, hdm 32 _ i1, zbnd_some, zps_o (b := T) (k := -1) (by omega), if_pos hL'.2.1, hcm2, zbnd_some]
          by_cases f2 : tCm (c (T + 1)) (c T 1) 47 (tDem (c (T + 1)) (c T 1) 32 (tWrd (c (T + 1)) (c T 1) (l.length < 20) s).2)
          · rw [if_pos f2, if_pos f2, if_neg (by decide), zw_id' (x := sec + 1) (by omega) (by omega), zw_id' (x := (k : Int) + 1) (by omega) (by omega), show (k : Int) + 1 = ((k + 1 : Nat) : Int) by omega]
            have i3 := i2.sl (sec := sec)
            have i4 := i3.dem (B := c (T + 1)) (v := 47) (by decide)
            have last := ih F (k + 1) (sec + 1) (tAdd (c (T + 1)) (c T 1) sec l s) (tDem (c (T + 1)) (c T 1) 32 (tDem (c (T + 1)) (c T 1) 47 (tSl sec (tDem (c (T + 1)) (c T 1) 32 (tWrd (c (T + 1)) (c T 1) (l.length < 20) s).2)))) (by omega) (by omega) (by omega) (by omega) hlen' (i4.dem (by decide))
            by_cases f3 : sec + 1 < 4
            · have g : tSl sec (tDem (c (T + 1)) (c T 1) 32 (tWrd (c (T + 1)) (c T 1) (l.length < 20) s).2) = tDem (c (T + 1)) (c T 1) 32 (tWrd (c (T + 1)) (c T 1) (l.length < 20) s).2 := if_pos f3
              rw [g] at last i4 ⊢
              rw [if_pos f3, zps_o (b := T) (k := -1) (by omega), if_pos hL'.2.1, hdm 47 _ i2, zbnd_some, zps_o (b := T) (k := -1) (by omega), if_pos hL'.2.1, hdm 32 _ i4, zbnd_some]
              exact last
            · have g : tSl sec (tDem (c (T + 1)) (c T 1) 32 (tWrd (c (T + 1)) (c T 1) (l.length < 20) s).2) = tFail 3 (tDem (c (T + 1)) (c T 1) 32 (tWrd (c (T + 1)) (c T 1) (l.length < 20) s).2) := if_neg f3
              rw [g] at last i4 ⊢
              rw [if_neg f3, zps_o (b := T) (k := -1) (by omega), if_pos hL'.2.1, zs_Y_fail (d + 3) hL', zbnd_some, zps_o (b := T) (k := -1) (by omega), if_pos hL'.2.1, hdm 47 _ i2.fail, zbnd_some, zps_o (b := T) (k := -1) (by omega), if_pos hL'.2.1, hdm 32 _ i4, zbnd_some]
              exact last
          · rw [if_neg f2, if_neg f2, if_pos rfl, zw_id' (by omega) (by omega), show (k : Int) + 1 = ((k + 1 : Nat) : Int) by omega]
            exact ih F (k + 1) sec _ _ (by omega) (by omega) (by omega) (by omega) hlen' i2
      rw [if_pos e1, if_pos e1, if_pos hL.2.1, if_pos hL.2.1, zps_o (b := T) (k := 5) (by omega), hp.1, zps_o (b := T + 2) (k := -1) (by omega), if_pos hp.2.1, zps_o (b := T + 2) (k := 2) (by omega), zpl_n]
      by_cases e3 : l.length < 20
      · rw [if_pos (show (l.length : Int) < 20 by omega)]
        exact body 1 (by rw [if_pos e3])
      · rw [if_neg (show ¬ (l.length : Int) < 20 by omega)]
        exact body 0 (by rw [if_neg e3])
    · rw [if_neg e1, if_neg e1]
end
