/-! The class's tape: a page is read, a byte appended. -/
def tPag (B : Int → Int) (n ca : Int) : zBL × tS := if n ≤ 0 then ([], (0, -1, ca)) else tSec B n 80 0 [] (0, -1, ca)
theorem zpl_nil {c : zC} {T : Int} : zup c (T + 2) 2 0 = zpl c T [] := by
  funext b k
  unfold zpl
  rw [if_neg (by show ¬ (b = T + 3 ∧ 0 ≤ k ∧ k < 0); omega), if_neg (by show ¬ (b = T + 4 ∧ 0 ≤ k ∧ k < 0); omega)]
  by_cases e : b = T + 2 ∧ k = 2
  · rw [zup_eq e, if_pos e]; rfl
  · rw [zup_ne (by omega), if_neg e]
theorem tSec_len {B : Int → Int} {n : Int} : ∀ (t : Nat) (sec : Int) (l : zBL) (s : tS), l.length ≤ 20 → (tSec B n t sec l s).1.length ≤ 20 := by
  intro t
  induction t with
  | zero => intro sec l s h; exact h
  | succ t ih =>
    intro sec l s h
    have hl := tAdd_len (B := B) (n := n) (sec := sec) (s := s) h
    have e : tSec B n (t + 1) sec l s = if s.2.1 = -1 then (if tCm B n (-1) (tWrd B n (l.length < 20) s).2 then (tAdd B n sec l s, (tWrd B n (l.length < 20) s).2) else (if tCm B n 47 (tDem B n 32 (tWrd B n (l.length < 20) s).2) then tSec B n t (sec + 1) (tAdd B n sec l s) (tDem B n 32 (tDem B n 47 (tSl sec (tDem B n 32 (tWrd B n (l.length < 20) s).2)))) else tSec B n t sec (tAdd B n sec l s) (tDem B n 32 (tWrd B n (l.length < 20) s).2))) else (l, s) := rfl
    rw [e]
    split
    · split
      · exact hl
      · split
        · exact ih _ _ _ hl
        · exact ih _ _ _ hl
    · exact h
section
variable {c : zC} {T : Int} (d : Nat)
theorem zs_Y_readPage (h : LTp c T) (s : tS) : zrun zTab (d + 6) 78 [T] (zps c T s) = some (if (tPag (c (T + 1)) (c T 1) s.2.2).2.2.1 = -1 then 1 else 0, zps (zup (zpl c T (tPag (c (T + 1)) (c T 1) s.2.2).1) T 1 0) T (tPag (c (T + 1)) (c T 1) s.2.2).2) := by
  have h1 := h.2.1
  have hp := h.2.2.2.2.2.1
  have hn := h.2.2.2.2.1
  have L0 : LTp (zpl c T []) T := h.pl (by decide)
  rw [ze_X9_readPage, zps_o (b := T) (k := -1) (by omega), if_pos h1, zs_Y_start (d + 4) h, zbnd_some, zps_o (b := T) (k := -1) (by omega), if_pos h1, zps_o (b := T) (k := 5) (by omega), hp.1, zps_o (b := T + 2) (k := -1) (by omega), if_pos hp.2.1, zps_up (by omega), zpl_nil, zps_o (b := T) (k := -1) (by omega), if_pos L0.2.1, zps_o (b := T) (k := 1) (by omega), zpl_N]
  unfold tPag
  by_cases e : c T 1 ≤ 0
  · rw [if_pos e, if_pos e, if_pos L0.2.1, zs_Y_finish (d + 4) L0, zbnd_some, if_pos rfl, if_pos (Or.inr rfl)]
  · have f := zs_Y_sec_l d h 80 19998 0 0 [] (0, -1, s.2.2) (by omega) (by omega) (by decide) (by decide) (by decide) ⟨Int.le_refl 0, hn.1⟩
    have L1 : LTp (zpl c T (tSec (c (T + 1)) (c T 1) 80 0 [] (0, -1, s.2.2)).1) T := h.pl (tSec_len 80 0 [] _ (by decide))
    have g : zrun zTab (d + 5) 92 [T] (zps (zpl c T []) T (0, -1, s.2.2)) = some (0, zps (zpl c T (tSec (c (T + 1)) (c T 1) 80 0 [] (0, -1, s.2.2)).1) T (tSec (c (T + 1)) (c T 1) 80 0 [] (0, -1, s.2.2)).2) := by
      rw [ze_X9_takeSections]; exact f
    rw [if_neg e, if_neg e, if_pos L0.2.1, g, zbnd_some, zps_o (b := T) (k := -1) (by omega), if_pos L1.2.1, zs_Y_finish (d + 4) L1, zbnd_some]
    by_cases e2 : (tSec (c (T + 1)) (c T 1) 80 0 [] (0, -1, s.2.2)).2.2.1 = -1
    · rw [if_pos e2, if_pos (Or.inr rfl)]
    · rw [if_neg e2, if_pos (Or.inl rfl)]
theorem zs_Y_append (h : LTp c T) (v : Int) : zrun zTab (d + 1) 77 [T, v] c = some (0, if c T 1 < 80 then zup (zup c (T + 1) (c T 1) v) T 1 (c T 1 + 1) else c) := by
  obtain ⟨h0, h1, h2, ⟨h3, h4⟩, h5, -⟩ := h
  rw [ze_X9_append, if_pos h1, if_neg (by omega), if_pos h1, if_pos h1, h2, if_pos h3, h4]
  by_cases e : c T 1 < 80
  · rw [if_pos e, if_pos e, if_pos h1, if_pos h1, if_pos (show c (T + 1) (-1) = 100 ∧ (0 : Int) ≤ c T 1 ∧ c T 1 < 80 from ⟨h3, h5.1, e⟩), zup_ne (by omega), if_pos h1, if_pos h1, zup_ne (by omega), zadd_id (by omega) (by omega)]
  · rw [if_neg e, if_neg e]
end
