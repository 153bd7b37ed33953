/-! The class's edits. -/
def LEd (c : zC) (E : Int) : Prop := 0 < E ∧ c E (-1) = 2 ∧ c E 0 = E + 1 ∧ c E 1 = E + 2 ∧ LArr c (E + 1) 100 20 ∧ LArr c (E + 2) 100 20
/-- where a word stands on the other side of an edit -/
def ePl (i a m n : Int) : Int := if i < a then i else if i < a + m then -5 else i - m + n
/-- a link of the one side that the other has not -/
abbrev eOn (f : Int → Int) (i : Int) (g : Int → Int) (j : Int) : Prop := f i ≠ -5 ∧ (j < 0 ∨ 20 ≤ j ∨ g j ≠ f i)
def eFst (f : Int → Prop) [DecidablePred f] : Nat → Int
  | 0 => -5
  | n + 1 => if f (n : Int) then (if eFst f n = -5 then (n : Int) else eFst f n) else eFst f n
def EFr (c c' : zC) (E : Int) : Prop := ∀ b k, (b ≠ E ∨ k < 2 ∨ 4 < k) → c' b k = c b k
theorem EFr.rf (c : zC) (E : Int) : EFr c c E := fun _ _ _ => rfl
theorem EFr.tr {c c1 c2 : zC} {E : Int} (h : EFr c c1 E) (g : EFr c1 c2 E) : EFr c c2 E := fun b k q => (g b k q).trans (h b k q)
theorem EFr.up {c c' : zC} {E k v : Int} (h : EFr c c' E) (h1 : 2 ≤ k) (h2 : k ≤ 4) : EFr c (zup c' E k v) E := fun b j q => by rw [zup_ne (by omega)]; exact h b j q
theorem EFr.ed {c c' : zC} {E : Int} (h : EFr c c' E) (g : LEd c E) : LEd c' E := by
  obtain ⟨g0, g1, g2, g3, ⟨g4, g5⟩, g6, g7⟩ := g
  exact ⟨g0, by rw [h _ _ (by omega)]; exact g1, by rw [h _ _ (by omega)]; exact g2, by rw [h _ _ (by omega)]; exact g3, ⟨by rw [h _ _ (by omega)]; exact g4, by rw [h _ _ (by omega)]; exact g5⟩, by rw [h _ _ (by omega)]; exact g6, by rw [h _ _ (by omega)]; exact g7⟩
section
variable {c : zC} {E i a m n : Int} (d : Nat)
theorem zs_E_placeOf (hi : 0 ≤ i ∧ i < 1000) (ha : 0 ≤ a ∧ a < 1000) (hm : 0 ≤ m ∧ m < 1000) (hn : 0 ≤ n ∧ n < 1000) : zrun zTab (d + 1) 8 [i, a, m, n] c = some (ePl i a m n, c) := by
  rw [ze_X1_placeOf, zadd_id (x := a) (y := m) (by omega) (by omega), zsub_id (x := i) (y := m) (by omega) (by omega), zadd_id (by omega) (by omega)]
  unfold ePl
  by_cases e1 : i < a
  · rw [if_pos e1, if_pos e1]
  · rw [if_neg e1, if_neg e1]
    by_cases e2 : i < a + m
    · rw [if_pos e2, if_pos e2]
    · rw [if_neg e2, if_neg e2]
theorem zs_E_only {f g j : Int} (h0 : 0 ≤ i ∧ i < 20) (hf : LArr c f 100 20) (hg : LArr c g 100 20) : zrun zTab (d + 1) 9 [f, i, g, j] c = some (if eOn (c f) i (c g) j then 1 else 0, c) := by
  obtain ⟨f1, f2⟩ := hf
  obtain ⟨g1, g2⟩ := hg
  rw [ze_X1_isLinkOnlyHere, if_neg (by omega), if_pos f1, f2, if_pos h0.2, if_pos (show c f (-1) = 100 ∧ (0 : Int) ≤ i ∧ i < 20 from ⟨f1, h0⟩)]
  by_cases e1 : c f i = -5
  · rw [if_pos e1, if_neg (fun q => q.1 e1)]
  · rw [if_neg e1]
    by_cases e2 : j < 0
    · rw [if_pos e2, if_pos ⟨e1, Or.inl e2⟩]
    · rw [if_neg e2, if_pos g1, g2]
      by_cases e3 : j < 20
      · rw [if_pos e3, if_pos (show c g (-1) = 100 ∧ (0 : Int) ≤ j ∧ j < 20 from ⟨g1, by omega, e3⟩), if_pos (show c f (-1) = 100 ∧ (0 : Int) ≤ i ∧ i < 20 from ⟨f1, h0⟩)]
        by_cases e4 : c g j = c f i
        · rw [if_pos e4, if_neg (fun q => by omega)]
        · rw [if_neg e4, if_pos ⟨e1, Or.inr (Or.inr e4)⟩]
      · rw [if_neg e3, if_pos ⟨e1, Or.inr (Or.inl (by omega))⟩]
theorem zs_E_cmp_l (ha : 0 ≤ a ∧ a < 1000) (hm : 0 ≤ m ∧ m < 1000) (hn : 0 ≤ n ∧ n < 1000) (fb fa : Int → Int) : ∀ (t F i : Nat) (c : zC), LEd c E → c (E + 1) = fb → c (E + 2) = fa → 2 * t ≤ F → i + t = 20 → c E 2 = zcnt (fun i => eOn fa i fb (ePl i a n m)) i → c E 3 = zcnt (fun i => eOn fb i fa (ePl i a m n)) i → c E 4 = eFst (fun i => eOn fa i fb (ePl i a n m)) i →
    ∃ c', zex zc_X1_compare zk_X1_compare (zrun zTab (d + 1)) (F + 1) 19 [(2, E), (0, a), (0, m), (0, n), (0, (i : Int))] [] c = some (0, c') ∧ EFr c c' E ∧ c' E 2 = zcnt (fun i => eOn fa i fb (ePl i a n m)) 20 ∧ c' E 3 = zcnt (fun i => eOn fb i fa (ePl i a m n)) 20 ∧ c' E 4 = eFst (fun i => eOn fa i fb (ePl i a n m)) 20 := by
  intro t
  induction t with
  | zero =>
    intro F i c h hb hf hF hi h2 h3 h4
    have : i = 20 := by omega
    subst this
    refine ⟨c, ?_, EFr.rf c E, h2, h3, h4⟩
    rw [ze_X1_compare_19, if_neg (by omega)]
  | succ t ih =>
    intro F i c h hb hf hF hi h2 h3 h4
    obtain ⟨F, rfl⟩ : ∃ G, F = G + 2 := ⟨F - 2, by omega⟩
    obtain ⟨g0, g1, g2, g3, g4, g5⟩ := id h
    have hc1 := zcnt_le (fun i => eOn fa i fb (ePl i a n m)) i
    have hc2 := zcnt_le (fun i => eOn fb i fa (ePl i a m n)) i
    have s2 : zcnt (fun i => eOn fa i fb (ePl i a n m)) (i + 1) = zcnt (fun i => eOn fa i fb (ePl i a n m)) i + (if eOn fa i fb (ePl i a n m) then 1 else 0) := rfl
    have s3 : zcnt (fun i => eOn fb i fa (ePl i a m n)) (i + 1) = zcnt (fun i => eOn fb i fa (ePl i a m n)) i + (if eOn fb i fa (ePl i a m n) then 1 else 0) := rfl
    have s4 : eFst (fun i => eOn fa i fb (ePl i a n m)) (i + 1) = if eOn fa i fb (ePl i a n m) then (if eFst (fun i => eOn fa i fb (ePl i a n m)) i = -5 then (i : Int) else eFst (fun i => eOn fa i fb (ePl i a n m)) i) else eFst (fun i => eOn fa i fb (ePl i a n m)) i := rfl
    -- the second half
    have half : ∀ c4 : zC, EFr c c4 E → c4 E 2 = zcnt (fun i => eOn fa i fb (ePl i a n m)) (i + 1) → c4 E 3 = zcnt (fun i => eOn fb i fa (ePl i a m n)) i → c4 E 4 = eFst (fun i => eOn fa i fb (ePl i a n m)) (i + 1) → ∃ c', zex zc_X1_compare zk_X1_compare (zrun zTab (d + 1)) (F + 2) 82 [(2, E), (0, a), (0, m), (0, n), (0, (i : Int))] [] c4 = some (0, c') ∧ EFr c c' E ∧ c' E 2 = zcnt (fun i => eOn fa i fb (ePl i a n m)) 20 ∧ c' E 3 = zcnt (fun i => eOn fb i fa (ePl i a m n)) 20 ∧ c' E 4 = eFst (fun i => eOn fa i fb (ePl i a n m)) 20 := by
      intro c4 k4 v2 v3 v4
      obtain ⟨q0, q1, q2, q3, q4, q5⟩ := k4.ed h
      have hb4 : c4 (E + 1) = fb := by rw [← hb]; funext k; exact k4 _ _ (Or.inl (by omega))
      have hf4 : c4 (E + 2) = fa := by rw [← hf]; funext k; exact k4 _ _ (Or.inl (by omega))
      rw [show F + 2 = (F + 1) + 1 by omega, ze_X1_compare_82, if_pos q1, if_pos q1, zs_E_placeOf d (by omega) ha hm hn, zbnd_some, q2, q3, zs_E_only d (by omega) q4 q5, zbnd_some, hb4, hf4, zw_id' (by omega) (by omega), show (i : Int) + 1 = ((i + 1 : Nat) : Int) by omega]
      by_cases e : eOn fb i fa (ePl i a m n)
      · rw [if_pos e] at s3
        rw [if_pos e, if_neg (by decide), if_pos q1, if_pos q1, v3, zadd_id (by omega) (by omega)]
        have k5 : EFr c (zup c4 E 3 (zcnt (fun i => eOn fb i fa (ePl i a m n)) i + 1)) E := k4.up (by omega) (by omega)
        obtain ⟨c', r1, r2, r3⟩ := ih F (i + 1) _ (k5.ed h) (by funext k; exact (k5 (E + 1) k (Or.inl (by omega))).trans (congrFun hb k)) (by funext k; exact (k5 (E + 2) k (Or.inl (by omega))).trans (congrFun hf k)) (by omega) (by omega) (by rw [zup_ne (by omega)]; exact v2) (by rw [zup_eq ⟨rfl, rfl⟩, s3]) (by rw [zup_ne (by omega)]; exact v4)
        exact ⟨c', r1, k5.tr r2, r3⟩
      · rw [if_neg e] at s3
        rw [if_neg e, if_pos rfl]
        obtain ⟨c', r1, r2, r3⟩ := ih F (i + 1) _ (k4.ed h) hb4 hf4 (by omega) (by omega) v2 (by rw [s3, v3]; omega) v4
        exact ⟨c', r1, k4.tr r2, r3⟩
    rw [ze_X1_compare_19, if_pos (by omega), if_pos g1, if_pos g1, zs_E_placeOf d (by omega) ha hn hm, zbnd_some, g3, g2, zs_E_only d (by omega) g5 g4, zbnd_some, hb, hf]
    by_cases e : eOn fa i fb (ePl i a n m)
    · rw [if_pos e] at s2 s4
      rw [if_pos e, if_neg (by decide), if_pos g1, if_pos g1, zup_ne (by omega), if_pos g1, zup_ne (by omega), h2, h4, zadd_id (by omega) (by omega)]
      by_cases e2 : eFst (fun i => eOn fa i fb (ePl i a n m)) i = -5
      · rw [if_pos e2] at s4
        rw [if_pos e2, if_pos g1]
        refine half _ ?_ ?_ ?_ ?_
        · exact ((EFr.rf c E).up (by omega) (by omega)).up (by omega) (by omega)
        · rw [zup_ne (by omega), zup_eq ⟨rfl, rfl⟩, s2]
        · rw [zup_ne (by omega), zup_ne (by omega)]; exact h3
        · rw [zup_eq ⟨rfl, rfl⟩, s4]
      · rw [if_neg e2] at s4
        rw [if_neg e2, if_pos g1, if_pos g1]
        refine half _ ?_ ?_ ?_ ?_
        · exact ((EFr.rf c E).up (by omega) (by omega)).up (by omega) (by omega)
        · rw [zup_ne (by omega), zup_eq ⟨rfl, rfl⟩, s2]
        · rw [zup_ne (by omega), zup_ne (by omega)]; exact h3
        · rw [zup_eq ⟨rfl, rfl⟩, s4]
    · rw [if_neg e] at s2 s4
      rw [if_neg e, if_pos rfl]
      exact half c (EFr.rf c E) (by rw [s2, h2]; omega) h3 (by rw [s4]; exact h4)
theorem zs_E_compare (h : LEd c E) (ha : 0 ≤ a ∧ a < 1000) (hm : 0 ≤ m ∧ m < 1000) (hn : 0 ≤ n ∧ n < 1000) : ∃ c', zrun zTab (d + 2) 7 [E, a, m, n] c = some (0, c') ∧ EFr c c' E ∧ c' E 2 = zcnt (fun i => eOn (c (E + 2)) i (c (E + 1)) (ePl i a n m)) 20 ∧ c' E 3 = zcnt (fun i => eOn (c (E + 1)) i (c (E + 2)) (ePl i a m n)) 20 ∧ c' E 4 = eFst (fun i => eOn (c (E + 2)) i (c (E + 1)) (ePl i a n m)) 20 := by
  obtain ⟨g0, g1, g2, g3, g4, g5⟩ := id h
  have k : EFr c (zup (zup (zup c E 2 0) E 3 0) E 4 (-5)) E := ((EFr.rf c E).up (by omega) (by omega) |>.up (by omega) (by omega)).up (by omega) (by omega)
  rw [ze_X1_compare, if_pos g1, zup_ne (by omega), if_pos g1, zup_ne (by omega), zup_ne (by omega), if_pos g1]
  obtain ⟨c', r1, r2, r3⟩ := zs_E_cmp_l d ha hm hn (c (E + 1)) (c (E + 2)) 20 19998 0 _ (k.ed h) (by funext j; exact k _ _ (Or.inl (by omega))) (by funext j; exact k _ _ (Or.inl (by omega))) (by omega) (by omega) (by rw [zup_ne (by omega), zup_ne (by omega), zup_eq ⟨rfl, rfl⟩]; rfl) (by rw [zup_ne (by omega), zup_eq ⟨rfl, rfl⟩]; rfl) (by rw [zup_eq ⟨rfl, rfl⟩]; rfl)
  exact ⟨c', r1, k.tr r2, r3⟩
end
