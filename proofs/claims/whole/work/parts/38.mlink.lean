/-! A page's links, as mathematics over a view of a state. -/
abbrev zA2 : Type := Int → Int → Int
def apV (A : zA2) (r : Nat) (w : Int) : Int := mapp (A 5 r) (A 6 r) (A 7 r).toNat (A 8 r).toNat w
def mBL (A : zA2) (p i : Int) : zBL := mbas (apV A) (A 4 0).toNat (A 3 (20 * p + i))
def mIsH (A : zA2) (w : Int) : Bool := (List.range (A 9 0).toNat).any (fun s => decide (A 10 (s : Int) = w))
theorem mIsH_iff {A : zA2} {w : Int} : mIsH A w = true ↔ ∃ s : Int, 0 ≤ s ∧ s < A 9 0 ∧ A 10 s = w := by
  unfold mIsH
  rw [List.any_eq_true]
  constructor
  · rintro ⟨s, h1, h2⟩
    have := List.mem_range.mp h1
    exact ⟨s, by omega, by omega, by simpa using h2⟩
  · rintro ⟨s, h1, h2, h3⟩
    refine ⟨s.toNat, List.mem_range.mpr (by omega), ?_⟩
    rw [show ((s.toNat : Nat) : Int) = s by omega]
    simpa using h3
/-- the head's base: its word and level -/
def mHd (A : zA2) (p i : Int) : Int × Int := ((mBL A p i).find? (fun q => mIsH A q.1)).getD (0, -5)
/-- a word stands ahead of i, in its section, within the window -/
def mSt (A : zA2) (p i w : Int) : Bool := (List.range i.toNat).any (fun j => decide (i - A 14 0 ≤ (j : Int) ∧ A 2 (20 * p + j) = A 2 (20 * p + i)) && mhas (mBL A p j) w)
def mScN (A : zA2) (p i s : Int) : Nat → Int
  | 0 => 0
  | h + 1 => mScN A p i s h + (if mSt A p i (A 12 (4 * s + h)) = true then 1 else 0)
def mSc (A : zA2) (p i s : Int) : Int := mScN A p i s (A 11 s).toNat
/-- how many senses have the head, the best one so far and its score -/
def mCh (A : zA2) (p i : Int) : Nat → Int × Int × Int
  | 0 => (0, -5, -5)
  | s + 1 => if A 10 (s : Int) = (mHd A p i).1 then ((mCh A p i s).1 + 1, if (mCh A p i s).2.2 < mSc A p i s then ((s : Int), mSc A p i s) else (mCh A p i s).2) else mCh A p i s
def mMe (A : zA2) (p i : Int) : Int × Int := if 1 < (mCh A p i (A 9 0).toNat).1 ∧ (mCh A p i (A 9 0).toNat).2.2 = 0 then (-5, -5) else (mCh A p i (A 9 0).toNat).2
theorem mScN_le (A : zA2) (p i s : Int) (n : Nat) : 0 ≤ mScN A p i s n ∧ mScN A p i s n ≤ n := by
  induction n with
  | zero => exact ⟨Int.le_refl _, Int.le_refl _⟩
  | succ n ih =>
    show 0 ≤ mScN A p i s n + _ ∧ mScN A p i s n + _ ≤ _
    split <;> constructor <;> omega
theorem mCh_ok (A : zA2) (p i : Int) (n : Nat) : 0 ≤ (mCh A p i n).1 ∧ (mCh A p i n).1 ≤ n ∧ ((mCh A p i n).2.1 = -5 ∧ (mCh A p i n).2.2 = -5 ∧ (mCh A p i n).1 = 0 ∨ 0 ≤ (mCh A p i n).2.1 ∧ (mCh A p i n).2.1 < n ∧ 0 ≤ (mCh A p i n).2.2 ∧ 1 ≤ (mCh A p i n).1 ∧ A 10 (mCh A p i n).2.1 = (mHd A p i).1) := by
  induction n with
  | zero => exact ⟨Int.le_refl _, Int.le_refl _, Or.inl ⟨rfl, rfl, rfl⟩⟩
  | succ n ih =>
    have hs := (mScN_le A p i n (A 11 n).toNat).1
    have hs : 0 ≤ mSc A p i n := hs
    have es : mCh A p i (n + 1) = if A 10 (n : Int) = (mHd A p i).1 then ((mCh A p i n).1 + 1, if (mCh A p i n).2.2 < mSc A p i n then ((n : Int), mSc A p i n) else (mCh A p i n).2) else mCh A p i n := rfl
    rw [es]
    by_cases e : A 10 (n : Int) = (mHd A p i).1
    · simp only [if_pos e]
      by_cases e2 : (mCh A p i n).2.2 < mSc A p i n
      · simp only [if_pos e2]
        refine ⟨by omega, by omega, Or.inr ⟨by omega, by omega, hs, by omega, e⟩⟩
      · simp only [if_neg e2]
        refine ⟨by omega, by omega, ?_⟩
        rcases ih.2.2 with h | h
        · omega
        · exact Or.inr ⟨h.1, by omega, h.2.2.1, by omega, h.2.2.2.2⟩
    · simp only [if_neg e]
      refine ⟨ih.1, by omega, ?_⟩
      rcases ih.2.2 with h | h
      · exact Or.inl h
      · exact Or.inr ⟨h.1, by omega, h.2.2⟩
/-- what of a reason follows from the word alone; 0: nothing hinders -/
def mSta (A : zA2) (p i : Int) : Int := if (mHd A p i).2 = -5 then 1 else if (mMe A p i).1 = -5 then 2 else if A 13 (mMe A p i).1 = p then 3 else 0
/-- of a list of reasons: is i linked (and not left out) -/
def mLk (l : List Int) (left : Int) (i : Nat) : Bool := decide (i < l.length) && decide (l.getD i 1 = 0) && decide ((i : Int) ≠ left)
def mCnt (l : List Int) (left : Int) : Nat → Int
  | 0 => 0
  | n + 1 => mCnt l left n + (if mLk l left n = true then 1 else 0)
def mLast (l : List Int) (left : Int) : Nat → Int
  | 0 => -5
  | n + 1 => if mLk l left n = true then (n : Int) else mLast l left n
def mTwin (A : zA2) (p : Int) (l : List Int) (left : Int) (i : Nat) : Bool := (List.range i).any (fun j => mLk l left j && decide ((mMe A p j).1 = (mMe A p i).1 ∧ A 2 (20 * p + j) = A 2 (20 * p + i)))
def mRe (A : zA2) (p bud left : Int) (l : List Int) (i : Nat) : Int :=
  if mSta A p i ≠ 0 then mSta A p i else if mTwin A p l left i = true then 4 else if mLast l left i ≠ -5 ∧ (i : Int) - mLast l left i - 1 < A 15 0 then 5 else if bud ≤ mCnt l left i then 6 else 0
def mRs (A : zA2) (p bud left : Int) : Nat → List Int
  | 0 => []
  | i + 1 => mRs A p bud left i ++ [mRe A p bud left (mRs A p bud left i) i]
theorem mRs_len (A : zA2) (p bud left : Int) (n : Nat) : (mRs A p bud left n).length = n := by
  induction n with
  | zero => rfl
  | succ n ih => show (mRs A p bud left n ++ _).length = _; rw [List.length_append, ih]; rfl
theorem mRs_get (A : zA2) (p bud left : Int) {n m i : Nat} (h : n ≤ m) (hi : i < n) (x : Int) : (mRs A p bud left m).getD i x = (mRs A p bud left n).getD i x := by
  induction m with
  | zero => omega
  | succ m ih =>
    by_cases e : n = m + 1
    · rw [e]
    · rw [← ih (by omega)]
      show (mRs A p bud left m ++ _).getD i x = _
      rw [List.getD_eq_getElem?_getD, List.getElem?_append_left (by rw [mRs_len]; omega), ← List.getD_eq_getElem?_getD]
/-- the reason of a word -/
def mR (A : zA2) (p bud left : Int) (i : Nat) : Int := (mRs A p bud left (i + 1)).getD i 1
theorem mR_eq (A : zA2) (p bud left : Int) (i : Nat) : mR A p bud left i = mRe A p bud left (mRs A p bud left i) i := by
  show (mRs A p bud left i ++ [_]).getD i 1 = _
  rw [List.getD_eq_getElem?_getD, List.getElem?_append_right (by rw [mRs_len]; omega), mRs_len]
  simp
theorem mLk_iff {A : zA2} {p bud left : Int} {n i : Nat} : mLk (mRs A p bud left n) left i = true ↔ i < n ∧ mR A p bud left i = 0 ∧ (i : Int) ≠ left := by
  unfold mLk
  rw [mRs_len]
  simp only [Bool.and_eq_true, decide_eq_true_eq]
  constructor
  · rintro ⟨⟨h1, h2⟩, h3⟩
    refine ⟨h1, ?_, h3⟩
    unfold mR
    rw [mRs_get A p bud left (show i + 1 ≤ n from h1) (Nat.lt_succ_self i)] at h2
    exact h2
  · rintro ⟨h1, h2, h3⟩
    refine ⟨⟨h1, ?_⟩, h3⟩
    unfold mR at h2
    rw [mRs_get A p bud left (show i + 1 ≤ n from h1) (Nat.lt_succ_self i)]
    exact h2
