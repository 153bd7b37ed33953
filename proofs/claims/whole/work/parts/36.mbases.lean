/-! The bases of a word, as mathematics: the class's way (each base in its order is extended) and the reference's (each rule, then each pair) give the same list. -/
abbrev zBL : Type := List (Int × Int)
def mhas (l : zBL) (w : Int) : Bool := l.any (fun q => decide (q.1 = w))
theorem mhas_iff {l : zBL} {w : Int} : mhas l w = true ↔ ∃ q ∈ l, q.1 = w := by
  unfold mhas; simp
def madd (l : zBL) (w v : Int) : zBL := if w = 0 then l else if mhas l w = true then l else l ++ [(w, v)]
def mrow (ap : Nat → Int → Int) (l : zBL) (w v : Int) : Nat → zBL
  | 0 => l
  | n + 1 => madd (mrow ap l w v n) (ap n w) v
/-- the class's loop -/
def mcl (ap : Nat → Int → Int) (rn : Nat) : Nat → Nat → zBL → zBL
  | 0, _, l => l
  | f + 1, b, l => if b < l.length then mcl ap rn f (b + 1) (if (l.getD b (0, 0)).2 < 2 then mrow ap l (l.getD b (0, 0)).1 ((l.getD b (0, 0)).2 + 1) rn else l) else l
/-- the reference's second loop -/
def mm2 (ap : Nat → Int → Int) (rn : Nat) (w : Int) : Nat → zBL
  | 0 => mrow ap [(w, 0)] w 1 rn
  | r + 1 => if ap r w = 0 then mm2 ap rn w r else mrow ap (mm2 ap rn w r) (ap r w) 2 rn
def mbas (ap : Nat → Int → Int) (rn : Nat) (w : Int) : zBL := mm2 ap rn w rn
theorem madd_pre (l : zBL) (w v : Int) : ∃ t, madd l w v = l ++ t ∧ t.length ≤ 1 ∧ ∀ q ∈ t, q = (w, v) := by
  unfold madd
  split
  · exact ⟨[], by simp, by simp, by simp⟩
  · split
    · exact ⟨[], by simp, by simp, by simp⟩
    · exact ⟨[(w, v)], rfl, by simp, by simp⟩
theorem mrow_pre (ap : Nat → Int → Int) (l : zBL) (w v : Int) (n : Nat) : ∃ t, mrow ap l w v n = l ++ t ∧ t.length ≤ n ∧ ∀ q ∈ t, q.2 = v := by
  induction n with
  | zero => exact ⟨[], by simp [mrow], by simp, by simp⟩
  | succ n ih =>
    obtain ⟨t, e1, e2, e3⟩ := ih
    obtain ⟨u, f1, f2, f3⟩ := madd_pre (mrow ap l w v n) (ap n w) v
    refine ⟨t ++ u, ?_, by simp; omega, fun q hq => ?_⟩
    · show madd (mrow ap l w v n) (ap n w) v = _
      rw [f1, e1, List.append_assoc]
    · rcases List.mem_append.mp hq with h | h
      · exact e3 q h
      · rw [f3 q h]
theorem mhas_app {l t : zBL} {w : Int} (h : mhas l w = true) : mhas (l ++ t) w = true := by
  obtain ⟨q, h1, h2⟩ := mhas_iff.mp h
  exact mhas_iff.mpr ⟨q, List.mem_append_left _ h1, h2⟩
theorem mrow_mono {ap : Nat → Int → Int} {l : zBL} {w v y : Int} {n : Nat} (h : mhas l y = true) : mhas (mrow ap l w v n) y = true := by
  obtain ⟨t, e, -⟩ := mrow_pre ap l w v n
  rw [e]; exact mhas_app h
theorem madd_has (l : zBL) (w v : Int) : w = 0 ∨ mhas (madd l w v) w = true := by
  unfold madd
  by_cases h : w = 0
  · exact Or.inl h
  · refine Or.inr ?_
    rw [if_neg h]
    split
    · assumption
    · exact mhas_iff.mpr ⟨(w, v), by simp, rfl⟩
theorem mrow_has (ap : Nat → Int → Int) (l : zBL) (w v : Int) (n : Nat) : ∀ q, q < n → ap q w = 0 ∨ mhas (mrow ap l w v n) (ap q w) = true := by
  induction n with
  | zero => intro q h; omega
  | succ n ih =>
    intro q hq
    show ap q w = 0 ∨ mhas (madd (mrow ap l w v n) (ap n w) v) (ap q w) = true
    by_cases e : q = n
    · subst e; exact madd_has _ _ _
    · rcases ih q (by omega) with h | h
      · exact Or.inl h
      · obtain ⟨t, e, -⟩ := madd_pre (mrow ap l w v n) (ap n w) v
        rw [e]; exact Or.inr (mhas_app h)
theorem mrow_same {ap : Nat → Int → Int} {l : zBL} {w v : Int} {n : Nat} (h : ∀ q, q < n → ap q w = 0 ∨ mhas l (ap q w) = true) : mrow ap l w v n = l := by
  induction n with
  | zero => rfl
  | succ n ih =>
    show madd (mrow ap l w v n) (ap n w) v = l
    rw [ih (fun q hq => h q (by omega))]
    unfold madd
    rcases h n (by omega) with e | e
    · rw [if_pos e]
    · split
      · rfl
      · rfl
/-- one step of extending: by the words of a list -/
def mfold (ap : Nat → Int → Int) (rn : Nat) (l : zBL) : List Int → zBL
  | [] => l
  | x :: r => mfold ap rn (mrow ap l x 2 rn) r
theorem mfold_app (ap : Nat → Int → Int) (rn : Nat) (l : zBL) (a b : List Int) : mfold ap rn l (a ++ b) = mfold ap rn (mfold ap rn l a) b := by
  induction a generalizing l with
  | nil => rfl
  | cons x a ih => exact ih _
theorem mfold_pre (ap : Nat → Int → Int) (rn : Nat) (l : zBL) (a : List Int) : ∃ t, mfold ap rn l a = l ++ t ∧ ∀ q ∈ t, q.2 = 2 := by
  induction a generalizing l with
  | nil => exact ⟨[], by simp [mfold], by simp⟩
  | cons x a ih =>
    obtain ⟨t, e1, -, e3⟩ := mrow_pre ap l x 2 rn
    obtain ⟨u, f1, f3⟩ := ih (mrow ap l x 2 rn)
    refine ⟨t ++ u, by show mfold ap rn (mrow ap l x 2 rn) a = _; rw [f1, e1, List.append_assoc], fun q hq => ?_⟩
    rcases List.mem_append.mp hq with h | h
    · exact e3 q h
    · exact f3 q h
/-- the words that come by one rule, in their order, without those that came before -/
theorem mlev1 (ap : Nat → Int → Int) (rn : Nat) (w : Int) (hw : w ≠ 0) : ∀ r, r ≤ rn → ∃ t : zBL, mrow ap [(w, 0)] w 1 r = (w, 0) :: t ∧ (∀ q ∈ t, q.2 = 1) ∧
    mm2 ap rn w r = mfold ap rn (mrow ap [(w, 0)] w 1 rn) (t.map (·.1)) ∧ (∀ x, (x = w ∨ x ∈ t.map (·.1)) → ∀ q, q < rn → ap q x = 0 ∨ mhas (mm2 ap rn w r) (ap q x) = true) := by
  intro r
  induction r with
  | zero =>
    intro _
    refine ⟨[], rfl, by simp, rfl, ?_⟩
    rintro x (rfl | h) q hq
    · exact mrow_has ap _ _ 1 rn q hq
    · simp at h
  | succ r ih =>
    intro hr
    obtain ⟨t, e1, e2, e3, e4⟩ := ih (by omega)
    have es : mrow ap [(w, 0)] w 1 (r + 1) = madd ((w, 0) :: t) (ap r w) 1 := by show madd (mrow ap [(w, 0)] w 1 r) (ap r w) 1 = _; rw [e1]
    have em : mm2 ap rn w (r + 1) = if ap r w = 0 then mm2 ap rn w r else mrow ap (mm2 ap rn w r) (ap r w) 2 rn := rfl
    by_cases h0 : ap r w = 0
    · refine ⟨t, by rw [es]; unfold madd; rw [if_pos h0], e2, by rw [em, if_pos h0]; exact e3, by rw [em, if_pos h0]; exact e4⟩
    · rw [em, if_neg h0]
      by_cases h1 : mhas ((w, 0) :: t) (ap r w) = true
      · have hx : ap r w = w ∨ ap r w ∈ t.map (·.1) := by
          obtain ⟨q, q1, q2⟩ := mhas_iff.mp h1
          rcases List.mem_cons.mp q1 with rfl | q1
          · exact Or.inl q2.symm
          · exact Or.inr (List.mem_map.mpr ⟨q, q1, q2⟩)
        have hs : mrow ap (mm2 ap rn w r) (ap r w) 2 rn = mm2 ap rn w r := mrow_same (e4 _ hx)
        rw [hs]
        exact ⟨t, by rw [es]; unfold madd; rw [if_neg h0, if_pos h1], e2, e3, e4⟩
      · refine ⟨t ++ [(ap r w, 1)], by rw [es]; unfold madd; rw [if_neg h0, if_neg h1]; rfl, fun q hq => ?_, ?_, ?_⟩
        · rcases List.mem_append.mp hq with h | h
          · exact e2 q h
          · rw [List.mem_singleton.mp h]
        · rw [List.map_append, mfold_app, ← e3]; rfl
        · rintro x hx q hq
          have hx : (x = w ∨ x ∈ t.map (·.1)) ∨ x = ap r w := by
            rcases hx with h | h
            · exact Or.inl (Or.inl h)
            · rw [List.map_append] at h
              rcases List.mem_append.mp h with h | h
              · exact Or.inl (Or.inr h)
              · exact Or.inr (by simpa using h)
          rcases hx with hx | rfl
          · rcases e4 x hx q hq with h | h
            · exact Or.inl h
            · exact Or.inr (mrow_mono h)
          · exact mrow_has ap _ _ 2 rn q hq
/-- extended by level 1 words that stand from b on -/
theorem mcl_two (ap : Nat → Int → Int) (rn : Nat) : ∀ (f : Nat) (b : Nat) (l : zBL), (∀ i, b ≤ i → i < l.length → (l.getD i (0, 0)).2 = 2) → l.length ≤ b + f → mcl ap rn f b l = l := by
  intro f
  induction f with
  | zero => intro b l _ _; rfl
  | succ f ih =>
    intro b l h hl
    show (if b < l.length then mcl ap rn f (b + 1) (if (l.getD b (0, 0)).2 < 2 then _ else l) else l) = l
    by_cases hb : b < l.length
    · rw [if_pos hb, if_neg (by rw [h b (Nat.le_refl _) hb]; decide)]
      exact ih (b + 1) l (fun i i1 i2 => h i (by omega) i2) (by omega)
    · rw [if_neg hb]
theorem mcl_one (ap : Nat → Int → Int) (rn : Nat) : ∀ (t : zBL) (pre u : zBL) (f : Nat), (∀ q ∈ t, q.2 = 1) → (∀ q ∈ u, q.2 = 2) → (mfold ap rn (pre ++ t ++ u) (t.map (·.1))).length ≤ pre.length + f → mcl ap rn f pre.length (pre ++ t ++ u) = mfold ap rn (pre ++ t ++ u) (t.map (·.1)) := by
  intro t
  induction t with
  | nil =>
    intro pre u f _ hu hl
    refine mcl_two ap rn f _ _ (fun i i1 i2 => ?_) hl
    rw [List.append_nil] at i2 ⊢
    rw [List.getD_eq_getElem?_getD, List.getElem?_append_right i1]
    have h2 : i - pre.length < u.length := by rw [List.length_append] at i2; omega
    rw [List.getElem?_eq_getElem h2]
    exact hu _ (List.getElem_mem h2)
  | cons x t ih =>
    intro pre u f ht hu hl
    have hx : x.2 = 1 := ht x List.mem_cons_self
    have hpre := mfold_pre ap rn (pre ++ (x :: t) ++ u) ((x :: t).map (·.1))
    obtain ⟨z, z1, -⟩ := hpre
    have hlen : pre.length < (pre ++ (x :: t) ++ u).length := by simp
    match f with
    | 0 => rw [z1] at hl; simp at hl; omega
    | f + 1 =>
      have hg : (pre ++ (x :: t) ++ u).getD pre.length (0, 0) = x := by
        rw [List.getD_eq_getElem?_getD, List.append_assoc, List.getElem?_append_right (Nat.le_refl _)]
        simp
      show (if pre.length < (pre ++ (x :: t) ++ u).length then _ else _) = _
      rw [if_pos hlen, hg, hx, if_pos (by decide)]
      obtain ⟨v, v1, -, v3⟩ := mrow_pre ap (pre ++ (x :: t) ++ u) x.1 2 rn
      have e1 : mrow ap (pre ++ (x :: t) ++ u) x.1 (1 + 1) rn = (pre ++ [x]) ++ t ++ (u ++ v) := by
        show mrow ap (pre ++ (x :: t) ++ u) x.1 2 rn = _
        rw [v1]; simp
      have e2 : mfold ap rn (pre ++ (x :: t) ++ u) ((x :: t).map (·.1)) = mfold ap rn ((pre ++ [x]) ++ t ++ (u ++ v)) (t.map (·.1)) := by
        show mfold ap rn (mrow ap (pre ++ (x :: t) ++ u) x.1 2 rn) _ = _
        rw [← e1]; rfl
      rw [e2] at hl ⊢
      rw [e1]
      have := ih (pre ++ [x]) (u ++ v) f (fun q hq => ht q (List.mem_cons_of_mem _ hq)) (fun q hq => by
        rcases List.mem_append.mp hq with h | h
        · exact hu q h
        · exact v3 q h) (by rw [List.length_append, List.length_singleton]; omega)
      rw [List.length_append, List.length_singleton] at this
      exact this
theorem mm2_len (ap : Nat → Int → Int) (rn : Nat) (w : Int) : ∀ r, (mm2 ap rn w r).length ≤ 1 + rn + r * rn := by
  intro r
  induction r with
  | zero =>
    obtain ⟨t, e1, e2, -⟩ := mrow_pre ap [(w, 0)] w 1 rn
    show (mrow ap [(w, 0)] w 1 rn).length ≤ _
    rw [e1]; simp; omega
  | succ r ih =>
    show (if ap r w = 0 then mm2 ap rn w r else mrow ap (mm2 ap rn w r) (ap r w) 2 rn).length ≤ _
    obtain ⟨t, e1, e2, -⟩ := mrow_pre ap (mm2 ap rn w r) (ap r w) 2 rn
    rw [Nat.succ_mul]
    split
    · omega
    · rw [e1, List.length_append]; omega
theorem mbas_len (ap : Nat → Int → Int) {rn : Nat} (w : Int) (h : rn ≤ 6) : (mbas ap rn w).length ≤ 43 := by
  have h1 := mm2_len ap rn w rn
  have h2 : rn * rn ≤ 6 * 6 := Nat.mul_le_mul h h
  unfold mbas
  omega
/-- the class's loop gives the reference's list -/
theorem mcl_bas (ap : Nat → Int → Int) {rn : Nat} {w : Int} (hw : w ≠ 0) (h : rn ≤ 6) : mcl ap rn 44 0 [(w, 0)] = mbas ap rn w := by
  obtain ⟨t, e1, e2, e3, -⟩ := mlev1 ap rn w hw rn (Nat.le_refl _)
  have hlen := mbas_len ap w h
  unfold mbas at hlen ⊢
  show (if 0 < [(w, (0 : Int))].length then mcl ap rn 43 1 (if ((w, (0 : Int)) : Int × Int).2 < 2 then mrow ap [(w, 0)] w (0 + 1) rn else _) else _) = _
  rw [if_pos (by simp), if_pos (show (0 : Int) < 2 by decide)]
  have e4 := mcl_one ap rn t [(w, 0)] [] 43 e2 (by simp)
  rw [List.append_nil, List.singleton_append, ← e1, ← e3] at e4
  rw [e3] at hlen
  rw [show (0 : Int) + 1 = 1 from rfl]
  rw [e3] at e4 ⊢
  exact e4 (by simp; omega)
