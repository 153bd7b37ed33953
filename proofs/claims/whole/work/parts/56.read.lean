/-! The class's tape: a sense, a rule, a word are read. -/
theorem zps_u3 {c : zC} {T v : Int} {s : tS} : zup (zps c T s) T 3 v = zps c T (s.1, v, s.2.2) := by
  funext b k
  by_cases e : b = T ∧ k = 3
  · rw [zup_eq e, e.1, e.2, zps_3]
  · rw [zup_ne (by omega)]
    by_cases e3 : b = T ∧ k = 2
    · rw [e3.1, e3.2, zps_2, zps_2]
    · by_cases e4 : b = T ∧ k = 4
      · rw [e4.1, e4.2, zps_4, zps_4]
      · rw [zps_o (by omega), zps_o (by omega)]
def tOwn (B : Int → Int) (n : Int) (own : Int) (s : tS) : Int × tS := if 0 ≤ tB B n (tDem B n 64 s).1 - 48 ∧ tB B n (tDem B n 64 s).1 - 48 < 4 then (tB B n (tDem B n 64 s).1 - 48, ((tDem B n 64 s).1 + 1, (tDem B n 64 s).2)) else (own, tFail 1 (tDem B n 64 s))
/-- the bytes on the tape are bytes -/
def TBy (c : zC) (T : Int) : Prop := ∀ k, 0 ≤ k → k < c T 1 → 0 ≤ c (T + 1) k ∧ c (T + 1) k < 1000
theorem tB_rng {c : zC} {T pl : Int} (h : TBy c T) : -1 ≤ tB (c (T + 1)) (c T 1) pl ∧ tB (c (T + 1)) (c T 1) pl < 1000 := by
  unfold tB
  by_cases e : 0 ≤ pl ∧ pl < c T 1
  · rw [if_pos e]; have := h pl e.1 e.2; omega
  · rw [if_neg e]; omega
/-- where a reading stands -/
def tIn (n : Int) (s : tS) : Prop := 0 ≤ s.1 ∧ s.1 ≤ n
theorem tIn.fail {n w : Int} {s : tS} (h : tIn n s) : tIn n (tFail w s) := by
  unfold tFail; split
  · exact h
  · exact h
theorem tIn.dem {B : Int → Int} {n v : Int} {s : tS} (h : tIn n s) (hv : v ≠ -1) : tIn n (tDem B n v s) := by
  unfold tDem; split
  · rename_i e
    have := tCm_pl e hv
    exact ⟨by show 0 ≤ s.1 + 1; omega, by show s.1 + 1 ≤ n; omega⟩
  · exact h.fail
theorem tIn.tend {B : Int → Int} {n : Int} {s : tS} (h : tIn n s) : tIn n (tEnd B n s) := by
  unfold tEnd; split
  · exact h
  · exact h.fail
theorem tIn.letl {B : Int → Int} {n most : Int} : ∀ (t : Nat) (k w : Int) (s : tS), tIn n s → tIn n (tLet B n most t k w s).2 := by
  intro t
  induction t with
  | zero => intro k w s h; exact h
  | succ t ih =>
    intro k w s h
    have e : tLet B n most (t + 1) k w s = if tAt B n s then (if k < most then tLet B n most t (k + 1) (w * 32 + (tB B n s.1 - 96)) (s.1 + 1, s.2) else tLet B n most t (k + 1) w (tFail 2 s)) else (w, s) := rfl
    rw [e]
    by_cases e1 : tAt B n s
    · rw [if_pos e1]
      have := tB_at e1
      split
      · exact ih _ _ _ ⟨by show 0 ≤ s.1 + 1; omega, by show s.1 + 1 ≤ n; omega⟩
      · exact ih _ _ _ h.fail
    · rw [if_neg e1]; exact h
theorem tIn.lets {B : Int → Int} {n most : Int} {s : tS} (h : tIn n s) : tIn n (tLets B n most s).2 := tIn.letl _ _ _ _ h
theorem tIn.wrd {B : Int → Int} {n : Int} {room : Prop} [Decidable room] {s : tS} (h : tIn n s) : tIn n (tWrd B n room s).2 := by
  unfold tWrd
  apply tIn.lets
  split
  · split
    · exact h
    · exact h.fail
  · exact h.fail
theorem tIn.hin {B : Int → Int} {n : Int} : ∀ (t : Nat) (l : List Int) (s : tS), tIn n s → tIn n (tHin B n t l s).2 := by
  intro t
  induction t with
  | zero => intro l s h; exact h
  | succ t ih =>
    intro l s h
    have e : tHin B n (t + 1) l s = if s.2.1 = -1 then (if tCm B n 44 (tWrd B n (l.length < 4) s).2 then tHin B n t (if l.length < 4 then l ++ [(tWrd B n (l.length < 4) s).1] else l) (tDem B n 44 (tWrd B n (l.length < 4) s).2) else (if l.length < 4 then l ++ [(tWrd B n (l.length < 4) s).1] else l, (tWrd B n (l.length < 4) s).2)) else (l, s) := rfl
    rw [e]
    split
    · split
      · exact ih _ _ (h.wrd.dem (by decide))
      · exact h.wrd
    · exact h
section
variable {c : zC} {T : Int} (d : Nat)
theorem zs_Y_start (h : LTp c T) (s : tS) : zrun zTab (d + 1) 82 [T] (zps c T s) = some (0, zps c T (0, -1, s.2.2)) := by
  have h1 := h.2.1
  rw [ze_X9_start, zps_o (b := T) (k := -1) (by omega), if_pos h1, zps_u2, zps_o (b := T) (k := -1) (by omega), if_pos h1, zps_u3]
theorem zs_Y_finish (h : LTp c T) (s : tS) : zrun zTab (d + 1) 83 [T] (zps c T s) = some (if s.2.1 = -1 then 1 else 0, zps (zup c T 1 0) T s) := by
  have h1 := h.2.1
  rw [ze_X9_finish, zps_o (b := T) (k := -1) (by omega), if_pos h1, zps_up (by omega), zps_o (b := T) (k := -1) (by omega), zup_ne (by omega), if_pos h1, zps_3]
  split <;> rfl
theorem zs_Y_takeHints (h : LTp c T) {l : List Int} (hl : l.length ≤ 4) (s : tS) : zrun zTab (d + 5) 93 [T] (zps (zhs c T l) T s) = some (0, zps (zhs c T (tHin (c (T + 1)) (c T 1) 5 l s).1) T (tHin (c (T + 1)) (c T 1) 5 l s).2) := by
  rw [ze_X9_takeHints]
  exact zs_Y_hin_l d h 5 19998 0 l s (by omega) (by omega) hl
theorem zs_Y_takeOwn (h : LTp c T) (hb : TBy c T) {s : tS} (hs : tIn (c T 1) s) : zrun zTab (d + 4) 94 [T] (zps c T s) = some (0, zps (zup c (T + 5) 3 (tOwn (c (T + 1)) (c T 1) (c (T + 5) 3) s).1) T (tOwn (c (T + 1)) (c T 1) (c (T + 5) 3) s).2) := by
  have h1 := h.2.1
  have hn := h.2.2.2.2.1
  have hq := h.sns
  have hr := tB_rng (pl := (tDem (c (T + 1)) (c T 1) 64 s).1) hb
  have hdm := hs.dem (B := c (T + 1)) (v := 64) (by decide)
  have hd1 := hdm.1
  have hd2 := hdm.2
  have hs1 := hs.1
  have hs2 := hs.2
  rw [ze_X9_takeOwnPage, zps_o (b := T) (k := -1) (by omega), if_pos h1, zs_Y_demand d h 64 s (by omega), zbnd_some, zps_o (b := T) (k := -1) (by omega), if_pos h1, zs_Y_byte (d + 2) h, zbnd_some, zsub_id (by omega) (by omega)]
  unfold tOwn
  by_cases e1 : tB (c (T + 1)) (c T 1) (tDem (c (T + 1)) (c T 1) 64 s).1 - 48 < 0
  · rw [if_pos e1, zps_o (b := T) (k := -1) (by omega), if_pos h1, zs_Y_fail (d + 2) h, zbnd_some, if_neg (by omega), zup_id]
  · rw [if_neg e1]
    by_cases e2 : tB (c (T + 1)) (c T 1) (tDem (c (T + 1)) (c T 1) 64 s).1 - 48 < 4
    · rw [if_pos e2, zps_o (b := T) (k := -1) (by omega), if_pos h1, zps_o (b := T) (k := 6) (by omega), hq.1, zps_o (b := T + 5) (k := -1) (by omega), if_pos hq.2, zps_up (by omega), zps_o (b := T) (k := -1) (by omega), zup_ne (by omega), if_pos h1, if_pos h1, zps_2, zadd_id (by omega) (by omega), zps_u2, if_pos (show 0 ≤ tB (c (T + 1)) (c T 1) (tDem (c (T + 1)) (c T 1) 64 s).1 - 48 ∧ tB (c (T + 1)) (c T 1) (tDem (c (T + 1)) (c T 1) 64 s).1 - 48 < 4 from ⟨by omega, e2⟩)]
    · rw [if_neg e2, zps_o (b := T) (k := -1) (by omega), if_pos h1, zs_Y_fail (d + 2) h, zbnd_some, if_neg (by omega), zup_id]
theorem LTp.far {c' : zC} (h : LTp c T) (g : ∀ b k, (b = T ∧ (k < 0 ∨ k = 0 ∨ k = 1 ∨ 5 ≤ k ∧ k ≤ 7) ∨ T < b ∧ b ≤ T + 7 ∧ k < 0 ∨ b = T + 2 ∧ k < 3 ∨ b = T + 5 ∧ (k = 1 ∨ k = 2)) → c' b k = c b k) : LTp c' T := by
  obtain ⟨h0, h1, h2, ⟨h3, h4⟩, h5, ⟨h6, p1, p2, p3, ⟨p4, p5⟩, ⟨p6, p7⟩, p8⟩, ⟨h7, q1, q2, ⟨q3, q4⟩, q5⟩, h8, h9⟩ := h
  refine ⟨h0, by rw [g _ _ (by omega)]; exact h1, by rw [g _ _ (by omega)]; exact h2, ⟨by rw [g _ _ (by omega)]; exact h3, by rw [g _ _ (by omega)]; exact h4⟩, by rw [g _ _ (by omega)]; exact h5, ⟨by rw [g _ _ (by omega)]; exact h6, by rw [g _ _ (by omega)]; exact p1, by rw [g _ _ (by omega)]; exact p2, by rw [g _ _ (by omega)]; exact p3, ⟨by rw [g _ _ (by omega)]; exact p4, by rw [g _ _ (by omega)]; exact p5⟩, ⟨by rw [g _ _ (by omega)]; exact p6, by rw [g _ _ (by omega)]; exact p7⟩, by rw [g _ _ (by omega)]; exact p8⟩, ⟨by rw [g _ _ (by omega)]; exact h7, by rw [g _ _ (by omega)]; exact q1, by rw [g _ _ (by omega)]; exact q2, ⟨by rw [g _ _ (by omega)]; exact q3, by rw [g _ _ (by omega)]; exact q4⟩, by rw [g _ _ (by omega)]; exact q5⟩, by rw [g _ _ (by omega)]; exact h8, by rw [g _ _ (by omega)]; exact h9⟩
/-- one word is read -/
theorem zs_Y_readWord (h : LTp c T) (s : tS) : zrun zTab (d + 5) 81 [T] (zps c T s) = some (if (tEnd (c (T + 1)) (c T 1) (tWrd (c (T + 1)) (c T 1) True (0, -1, s.2.2)).2).2.1 = -1 then 1 else 0, zps (zup (zup c T 8 (tWrd (c (T + 1)) (c T 1) True (0, -1, s.2.2)).1) T 1 0) T (tEnd (c (T + 1)) (c T 1) (tWrd (c (T + 1)) (c T 1) True (0, -1, s.2.2)).2)) := by
  have h1 := h.2.1
  have hw := zs_Y_word d h True (0, -1, s.2.2)
  rw [if_pos trivial] at hw
  have h8 : LTp (zup c T 8 (tWrd (c (T + 1)) (c T 1) True (0, -1, s.2.2)).1) T := h.far (fun b k q => zup_ne (by omega))
  have hB : zup c T 8 (tWrd (c (T + 1)) (c T 1) True (0, -1, s.2.2)).1 (T + 1) = c (T + 1) := by funext k; rw [zup_ne (by omega)]
  have hN : zup c T 8 (tWrd (c (T + 1)) (c T 1) True (0, -1, s.2.2)).1 T 1 = c T 1 := zup_ne (by omega)
  have he := zs_Y_demandEnd (d + 1) h8 (tWrd (c (T + 1)) (c T 1) True (0, -1, s.2.2)).2
  rw [hB, hN] at he
  rw [ze_X9_readWord, zps_o (b := T) (k := -1) (by omega), if_pos h1, zs_Y_start (d + 3) h, zbnd_some, zps_o (b := T) (k := -1) (by omega), if_pos h1, hw, zbnd_some, zps_o (b := T) (k := -1) (by omega), if_pos h1, zps_up (by omega), zps_o (b := T) (k := -1) (by omega), if_pos h8.2.1, he, zbnd_some, zps_o (b := T) (k := -1) (by omega), if_pos h8.2.1, zs_Y_finish (d + 3) h8, zbnd_some]
  by_cases e : (tEnd (c (T + 1)) (c T 1) (tWrd (c (T + 1)) (c T 1) True (0, -1, s.2.2)).2).2.1 = -1
  · rw [if_pos e, if_pos (Or.inr rfl)]
  · rw [if_neg e, if_pos (Or.inl rfl)]
end
