/-! The class's tape: a sense is read. -/
def tS1 (B : Int → Int) (n ca : Int) : Int × tS := tWrd B n True (0, -1, ca)
def tS2 (B : Int → Int) (n ca : Int) : tS := tDem B n 58 (tS1 B n ca).2
def tS3 (B : Int → Int) (n ca : Int) : List Int × tS := if tAt B n (tS2 B n ca) then tHin B n 5 [] (tS2 B n ca) else ([], tS2 B n ca)
def tS4 (B : Int → Int) (n ca : Int) : Int × tS := if tCm B n 64 (tS3 B n ca).2 then tOwn B n (-5) (tS3 B n ca).2 else (-5, (tS3 B n ca).2)
def tS5 (B : Int → Int) (n ca : Int) : tS := tEnd B n (tS4 B n ca).2
theorem tHin_len {B : Int → Int} {n : Int} : ∀ (t : Nat) (l : List Int) (s : tS), l.length ≤ 4 → (tHin B n t l s).1.length ≤ 4 := by
  intro t
  induction t with
  | zero => intro l s h; exact h
  | succ t ih =>
    intro l s h
    have e : tHin B n (t + 1) l s = if s.2.1 = -1 then (if tCm B n 44 (tWrd B n (l.length < 4) s).2 then tHin B n t (if l.length < 4 then l ++ [(tWrd B n (l.length < 4) s).1] else l) (tDem B n 44 (tWrd B n (l.length < 4) s).2) else (if l.length < 4 then l ++ [(tWrd B n (l.length < 4) s).1] else l, (tWrd B n (l.length < 4) s).2)) else (l, s) := rfl
    have hl : (if l.length < 4 then l ++ [(tWrd B n (l.length < 4) s).1] else l).length ≤ 4 := by
      split
      · rw [List.length_append]; simp only [List.length_singleton]; omega
      · exact h
    rw [e]
    split
    · split
      · exact ih _ _ hl
      · exact hl
    · exact h
theorem tS3_len {B : Int → Int} {n ca : Int} : (tS3 B n ca).1.length ≤ 4 := by
  unfold tS3
  split
  · exact tHin_len 5 [] _ (by decide)
  · show ([] : List Int).length ≤ 4; decide
/-- the sense on the tape -/
def zsn (c : zC) (T h : Int) (l : List Int) (o : Int) : zC := zhs (zup (zup c (T + 5) 0 h) (T + 5) 3 o) T l
theorem zsn_far {c : zC} {T h o b k : Int} {l : List Int} (q : (b ≠ T + 5 ∨ (k ≠ 0 ∧ k ≠ 2 ∧ k ≠ 3)) ∧ (b ≠ T + 6 ∨ k < 0)) : zsn c T h l o b k = c b k := by
  unfold zsn; rw [zhs_o (by omega), zup_ne (by omega), zup_ne (by omega)]
theorem zsn_start {c : zC} {T : Int} : zup (zup c (T + 5) 2 0) (T + 5) 3 (-5) = zsn c T (c (T + 5) 0) [] (-5) := by
  unfold zsn zhs
  rw [zup_id]
  funext b k
  rw [if_neg (by show ¬ (b = T + 6 ∧ 0 ≤ k ∧ k < 0); omega)]
  by_cases e : b = T + 5 ∧ k = 3
  · rw [zup_eq e, if_neg (by omega), zup_eq e]
  · rw [zup_ne (c := zup c (T + 5) 2 0) (by omega)]
    by_cases e2 : b = T + 5 ∧ k = 2
    · rw [zup_eq e2, if_pos e2]; rfl
    · rw [zup_ne (c := c) (k := 2) (by omega), if_neg e2, zup_ne (c := c) (by omega)]
theorem zhs_zup {c : zC} {T b k v : Int} {l : List Int} (h : b = T + 5 ∧ k ≠ 2) : zup (zhs c T l) b k v = zhs (zup c b k v) T l := by
  funext x y
  by_cases e : x = b ∧ y = k
  · rw [zup_eq e, zhs_o (by omega), zup_eq e]
  · rw [zup_ne (by omega)]
    unfold zhs
    rw [zup_ne (by omega)]
theorem zsn_head {c : zC} {T h o w : Int} {l : List Int} : zup (zsn c T h l o) (T + 5) 0 w = zsn c T w l o := by
  unfold zsn
  rw [zhs_zup ⟨rfl, by decide⟩]
  congr 1
  funext x y
  by_cases e : x = T + 5 ∧ y = 0
  · rw [zup_eq e, zup_ne (by omega), zup_eq e]
  · rw [zup_ne (by omega)]
    by_cases e2 : x = T + 5 ∧ y = 3
    · rw [zup_eq e2, zup_eq e2]
    · rw [zup_ne (by omega), zup_ne (by omega), zup_ne (by omega), zup_ne (by omega)]
theorem zsn_own {c : zC} {T h o g : Int} {l : List Int} : zup (zsn c T h l o) (T + 5) 3 g = zsn c T h l g := by
  unfold zsn
  rw [zhs_zup ⟨rfl, by decide⟩]
  congr 1
  funext x y
  by_cases e : x = T + 5 ∧ y = 3
  · rw [zup_eq e, zup_eq e]
  · rw [zup_ne (c := zup (zup c (T + 5) 0 h) (T + 5) 3 o) (by omega), zup_ne (c := zup c (T + 5) 0 h) (v := o) (by omega), zup_ne (c := zup c (T + 5) 0 h) (v := g) (by omega)]
theorem zsn_3 {c : zC} {T h o : Int} {l : List Int} : zsn c T h l o (T + 5) 3 = o := by
  unfold zsn; rw [zhs_o (by omega), zup_eq ⟨rfl, rfl⟩]
theorem zsn_B {c : zC} {T h o : Int} {l : List Int} : zsn c T h l o (T + 1) = c (T + 1) := by
  funext k; exact zsn_far (by omega)
theorem zsn_N {c : zC} {T h o : Int} {l : List Int} : zsn c T h l o T 1 = c T 1 := zsn_far (by omega)
theorem LTp.up2 {c : zC} {T h o : Int} (q : LTp c T) : LTp (zup (zup c (T + 5) 0 h) (T + 5) 3 o) T := q.far (fun b k r => by rw [zup_ne (by omega), zup_ne (by omega)])
theorem LTp.sn {c : zC} {T h o : Int} {l : List Int} (q : LTp c T) (hl : l.length ≤ 4) : LTp (zsn c T h l o) T := q.up2.hs hl
section
variable {c : zC} {T : Int} (d : Nat)
theorem zs_Y_sn_end (h : LTp c T) (s : tS) : zbnd (zrun zTab (d + 5) 89 [T] (zps c T s)) (fun _ c12 =>
    if c12 T (-1) = 10 then
      zbnd (zrun zTab (d + 5) 83 [T] c12) (fun v13 c14 => if v13 = 0 ∨ v13 = 1 then some (v13, c14) else none)
    else none) = some (if (tEnd (c (T + 1)) (c T 1) s).2.1 = -1 then 1 else 0, zps (zup c T 1 0) T (tEnd (c (T + 1)) (c T 1) s)) := by
  rw [zs_Y_demandEnd (d + 2) h, zbnd_some, zps_o (b := T) (k := -1) (by omega), if_pos h.2.1, zs_Y_finish (d + 4) h, zbnd_some]
  by_cases e : (tEnd (c (T + 1)) (c T 1) s).2.1 = -1
  · rw [if_pos e, if_pos (Or.inr rfl)]
  · rw [if_neg e, if_pos (Or.inl rfl)]
theorem zs_Y_readSense (h : LTp c T) (hb : TBy c T) (s : tS) : zrun zTab (d + 6) 79 [T] (zps c T s) = some (if (tS5 (c (T + 1)) (c T 1) s.2.2).2.1 = -1 then 1 else 0, zps (zup (zsn c T (tS1 (c (T + 1)) (c T 1) s.2.2).1 (tS3 (c (T + 1)) (c T 1) s.2.2).1 (tS4 (c (T + 1)) (c T 1) s.2.2).1) T 1 0) T (tS5 (c (T + 1)) (c T 1) s.2.2)) := by
  have h1 := h.2.1
  have hq := h.sns
  have hn := h.2.2.2.2.1
  have i0 : tIn (c T 1) ((0, -1, s.2.2) : tS) := ⟨Int.le_refl 0, hn.1⟩
  have i1 : tIn (c T 1) (tS1 (c (T + 1)) (c T 1) s.2.2).2 := i0.wrd
  have i2 : tIn (c T 1) (tS2 (c (T + 1)) (c T 1) s.2.2) := i1.dem (by decide)
  have i3 : tIn (c T 1) (tS3 (c (T + 1)) (c T 1) s.2.2).2 := by
    unfold tS3; split
    · exact i2.hin 5 []
    · exact i2
  have L0 : LTp (zsn c T (c (T + 5) 0) [] (-5)) T := h.sn (by decide)
  have L1 : LTp (zsn c T (tS1 (c (T + 1)) (c T 1) s.2.2).1 [] (-5)) T := h.sn (by decide)
  have L3 : LTp (zsn c T (tS1 (c (T + 1)) (c T 1) s.2.2).1 (tS3 (c (T + 1)) (c T 1) s.2.2).1 (-5)) T := h.sn tS3_len
  have L4 : ∀ o, LTp (zsn c T (tS1 (c (T + 1)) (c T 1) s.2.2).1 (tS3 (c (T + 1)) (c T 1) s.2.2).1 o) T := fun o => h.sn tS3_len
  have e1 := zs_Y_word (d + 1) L0 True (0, -1, s.2.2)
  rw [if_pos trivial, zsn_B, zsn_N, show tWrd (c (T + 1)) (c T 1) True (0, -1, s.2.2) = tS1 (c (T + 1)) (c T 1) s.2.2 from rfl] at e1
  have e2 := zs_Y_demand (d + 2) L1 58 (tS1 (c (T + 1)) (c T 1) s.2.2).2 (by have := i1.1; have := i1.2; omega)
  rw [zsn_B, zsn_N, show tDem (c (T + 1)) (c T 1) 58 (tS1 (c (T + 1)) (c T 1) s.2.2).2 = tS2 (c (T + 1)) (c T 1) s.2.2 from rfl] at e2
  have e3 := zs_Y_atLetter (d + 3) L1 (tS2 (c (T + 1)) (c T 1) s.2.2)
  rw [zsn_B, zsn_N] at e3
  -- behind the hints
  have rest : zbnd (zrun zTab (d + 5) 86 [T, 64] (zps (zsn c T (tS1 (c (T + 1)) (c T 1) s.2.2).1 (tS3 (c (T + 1)) (c T 1) s.2.2).1 (-5)) T (tS3 (c (T + 1)) (c T 1) s.2.2).2)) (fun v9 c10 =>
      if v9 = 0 then
        if c10 T (-1) = 10 then
          zbnd (zrun zTab (d + 5) 89 [T] c10) (fun _ c12 =>
            if c12 T (-1) = 10 then
              zbnd (zrun zTab (d + 5) 83 [T] c12) (fun v13 c14 => if v13 = 0 ∨ v13 = 1 then some (v13, c14) else none)
            else none)
        else none
      else
        if c10 T (-1) = 10 then
          zbnd (zrun zTab (d + 5) 94 [T] c10) (fun _ c16 =>
            if c16 T (-1) = 10 then
              zbnd (zrun zTab (d + 5) 89 [T] c16) (fun _ c18 =>
                if c18 T (-1) = 10 then
                  zbnd (zrun zTab (d + 5) 83 [T] c18) (fun v19 c20 => if v19 = 0 ∨ v19 = 1 then some (v19, c20) else none)
                else none)
            else none)
        else none) = some (if (tS5 (c (T + 1)) (c T 1) s.2.2).2.1 = -1 then 1 else 0, zps (zup (zsn c T (tS1 (c (T + 1)) (c T 1) s.2.2).1 (tS3 (c (T + 1)) (c T 1) s.2.2).1 (tS4 (c (T + 1)) (c T 1) s.2.2).1) T 1 0) T (tS5 (c (T + 1)) (c T 1) s.2.2)) := by
    have f1 := zs_Y_comes (d + 3) L3 64 (tS3 (c (T + 1)) (c T 1) s.2.2).2
    rw [zsn_B, zsn_N] at f1
    rw [f1, zbnd_some]
    by_cases e : tCm (c (T + 1)) (c T 1) 64 (tS3 (c (T + 1)) (c T 1) s.2.2).2
    · have g4 : tS4 (c (T + 1)) (c T 1) s.2.2 = tOwn (c (T + 1)) (c T 1) (-5) (tS3 (c (T + 1)) (c T 1) s.2.2).2 := if_pos e
      have f2 := zs_Y_takeOwn (d + 1) L3 (fun k k0 k1 => by rw [zsn_N] at k1; rw [zsn_B]; exact hb k k0 k1) (s := (tS3 (c (T + 1)) (c T 1) s.2.2).2) (by rw [zsn_N]; exact i3)
      rw [zsn_B, zsn_N, zsn_3, ← g4, zsn_own] at f2
      have f3 := zs_Y_sn_end d (L4 (tS4 (c (T + 1)) (c T 1) s.2.2).1) (tS4 (c (T + 1)) (c T 1) s.2.2).2
      rw [zsn_B, zsn_N] at f3
      rw [if_pos e, if_neg (by decide), zps_o (b := T) (k := -1) (by omega), if_pos L3.2.1, f2, zbnd_some, zps_o (b := T) (k := -1) (by omega), if_pos (L4 _).2.1]
      exact f3
    · have g4 : tS4 (c (T + 1)) (c T 1) s.2.2 = (-5, (tS3 (c (T + 1)) (c T 1) s.2.2).2) := if_neg e
      have f3 := zs_Y_sn_end d (L4 (tS4 (c (T + 1)) (c T 1) s.2.2).1) (tS4 (c (T + 1)) (c T 1) s.2.2).2
      rw [zsn_B, zsn_N] at f3
      rw [if_neg e, if_pos rfl, zps_o (b := T) (k := -1) (by omega), if_pos L3.2.1]
      have g5 : (tS4 (c (T + 1)) (c T 1) s.2.2).1 = -5 := by rw [g4]
      have g6 : (tS4 (c (T + 1)) (c T 1) s.2.2).2 = (tS3 (c (T + 1)) (c T 1) s.2.2).2 := by rw [g4]
      rw [← g6]
      rw [g5] at f3 ⊢
      exact f3
  have hhead : (zps (zsn c T (c (T + 5) 0) [] (-5)) T ((0, -1, s.2.2) : tS)) T 6 = T + 5 := by rw [zps_o (by omega)]; exact L0.sns.1
  rw [ze_X9_readSense, zps_o (b := T) (k := -1) (by omega), if_pos h1, zs_Y_start (d + 4) h, zbnd_some, zps_o (b := T) (k := -1) (by omega), if_pos h1, zps_o (b := T) (k := 6) (by omega), hq.1, zps_o (b := T + 5) (k := -1) (by omega), if_pos hq.2, zps_up (by omega), zps_o (b := T) (k := -1) (by omega), zup_ne (c := c) (b := T) (j := -1) (by omega), if_pos h1, zps_o (b := T) (k := 6) (by omega), zup_ne (c := c) (b := T) (j := 6) (by omega), hq.1, zps_o (b := T + 5) (k := -1) (by omega), zup_ne (c := c) (b := T + 5) (j := -1) (by omega), if_pos hq.2, zps_up (by omega), zsn_start, zps_o (b := T) (k := -1) (by omega), if_pos L0.2.1, if_pos L0.2.1, e1, zbnd_some, hhead, zps_o (b := T + 5) (k := -1) (by omega), if_pos L0.sns.2, zps_up (by omega), zsn_head, zps_o (b := T) (k := -1) (by omega), if_pos L1.2.1, e2, zbnd_some, zps_o (b := T) (k := -1) (by omega), if_pos L1.2.1, e3, zbnd_some]
  by_cases e : tAt (c (T + 1)) (c T 1) (tS2 (c (T + 1)) (c T 1) s.2.2)
  · have g3 : tS3 (c (T + 1)) (c T 1) s.2.2 = tHin (c (T + 1)) (c T 1) 5 [] (tS2 (c (T + 1)) (c T 1) s.2.2) := if_pos e
    have f1 := zs_Y_takeHints d (h.up2 (h := (tS1 (c (T + 1)) (c T 1) s.2.2).1) (o := -5)) (l := []) (by decide) (tS2 (c (T + 1)) (c T 1) s.2.2)
    have gB : zup (zup c (T + 5) 0 (tS1 (c (T + 1)) (c T 1) s.2.2).1) (T + 5) 3 (-5) (T + 1) = c (T + 1) := by funext k; rw [zup_ne (by omega), zup_ne (by omega)]
    have gN : zup (zup c (T + 5) 0 (tS1 (c (T + 1)) (c T 1) s.2.2).1) (T + 5) 3 (-5) T 1 = c T 1 := by rw [zup_ne (by omega), zup_ne (by omega)]
    rw [gB, gN, ← g3] at f1
    have f1 : zrun zTab (d + 5) 93 [T] (zps (zsn c T (tS1 (c (T + 1)) (c T 1) s.2.2).1 [] (-5)) T (tS2 (c (T + 1)) (c T 1) s.2.2)) = some (0, zps (zsn c T (tS1 (c (T + 1)) (c T 1) s.2.2).1 (tS3 (c (T + 1)) (c T 1) s.2.2).1 (-5)) T (tS3 (c (T + 1)) (c T 1) s.2.2).2) := f1
    rw [if_pos e, if_neg (by decide), zps_o (b := T) (k := -1) (by omega), if_pos L1.2.1, f1, zbnd_some, zps_o (b := T) (k := -1) (by omega), if_pos L3.2.1]
    exact rest
  · have g3 : tS3 (c (T + 1)) (c T 1) s.2.2 = ([], tS2 (c (T + 1)) (c T 1) s.2.2) := if_neg e
    have g31 : (tS3 (c (T + 1)) (c T 1) s.2.2).1 = [] := by rw [g3]
    have g32 : (tS3 (c (T + 1)) (c T 1) s.2.2).2 = tS2 (c (T + 1)) (c T 1) s.2.2 := by rw [g3]
    rw [if_neg e, if_pos rfl, zps_o (b := T) (k := -1) (by omega), if_pos L1.2.1]
    rw [g31, g32] at rest
    rw [g31]
    exact rest
end
