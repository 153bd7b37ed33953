/-! The calls as mathematics: what a change makes of a view; what a call answers and leaves. -/
/-- a page with other words: n of them, sections f, words g -/
def uPg (A : zA2) (p n : Int) (f g : Int → Int) : zA2 := vcut (fun t k => if t = 0 then (if k = p then n else A 0 k) else if t = 2 then (if k / 20 = p then f (k % 20) else A 2 k) else if t = 3 then (if k / 20 = p then g (k % 20) else A 3 k) else A t k)
/-- other senses: m of them, heads, numbers of hints, hints, own pages -/
def uSn (A : zA2) (m : Int) (f10 f11 : Int → Int) (f12 : Int → Int → Int) (f13 : Int → Int) : zA2 := vcut (fun t k => if t = 9 then m else if t = 10 then f10 k else if t = 11 then f11 k else if t = 12 then f12 (k / 4) (k % 4) else if t = 13 then f13 k else A t k)
/-- other rules -/
def uRl (A : zA2) (m : Int) (f5 f6 f7 f8 : Int → Int) : zA2 := vcut (fun t k => if t = 4 then m else if t = 5 then f5 k else if t = 6 then f6 k else if t = 7 then f7 k else if t = 8 then f8 k else A t k)
def uNum (A : zA2) (tag v : Int) : zA2 := vcut (fun t k => if t = tag then v else A t k)
def uBud (A : zA2) (p v : Int) : zA2 := vcut (fun t k => if t = 1 then (if k = p then v else A 1 k) else A t k)
def uPage (A : zA2) (p : Int) (l : zBL) : zA2 := uPg A p l.length (fun i => (l.getD i.toNat (0, 0)).2) (fun i => (l.getD i.toNat (0, 0)).1)
def mSecIns (A : zA2) (p i : Int) : Int := if i < A 0 p then A 2 (20 * p + i) else if A 0 p = 0 then 0 else A 2 (20 * p + (A 0 p - 1))
def uIns (A : zA2) (p i w : Int) : zA2 := uPg A p (A 0 p + 1) (fun k => if k < i then A 2 (20 * p + k) else if k = i then mSecIns A p i else A 2 (20 * p + (k - 1))) (fun k => if k < i then A 3 (20 * p + k) else if k = i then w else A 3 (20 * p + (k - 1)))
def uRep (A : zA2) (p i w : Int) : zA2 := uPg A p (A 0 p) (fun k => A 2 (20 * p + k)) (fun k => if k = i then w else A 3 (20 * p + k))
/-- no other word of the page stands in the section of word i -/
def mAl (A : zA2) (p i : Int) : Prop := ∀ k, 0 ≤ k → k < A 0 p → k ≠ i → A 2 (20 * p + k) ≠ A 2 (20 * p + i)
noncomputable def uCut (A : zA2) (p i : Int) : zA2 := by
  classical
  exact uPg A p (A 0 p - 1) (fun k => if mAl A p i ∧ A 2 (20 * p + i) < (if k < i then A 2 (20 * p + k) else A 2 (20 * p + (k + 1))) then (if k < i then A 2 (20 * p + k) else A 2 (20 * p + (k + 1))) - 1 else (if k < i then A 2 (20 * p + k) else A 2 (20 * p + (k + 1)))) (fun k => if k < i then A 3 (20 * p + k) else A 3 (20 * p + (k + 1)))
def uAddS (A : zA2) (h : Int) (l : List Int) (o : Int) : zA2 := uSn A (A 9 0 + 1) (fun k => if k = A 9 0 then h else A 10 k) (fun k => if k = A 9 0 then (l.length : Int) else A 11 k) (fun s h => if s = A 9 0 then l.getD h.toNat 0 else A 12 (4 * s + h)) (fun k => if k = A 9 0 then o else A 13 k)
def uAddR (A : zA2) (e r : Int) : zA2 := uRl A (A 4 0 + 1) (fun k => if k = A 4 0 then e else A 5 k) (fun k => if k = A 4 0 then r else A 6 k) (fun k => if k = A 4 0 then mlen e else A 7 k) (fun k => if k = A 4 0 then mlen r else A 8 k)
def mSk (i k : Int) : Int := if k < i then k else k + 1
def uDelS (A : zA2) (i : Int) : zA2 := uSn A (A 9 0 - 1) (fun k => A 10 (mSk i k)) (fun k => A 11 (mSk i k)) (fun s h => A 12 (4 * mSk i s + h)) (fun k => A 13 (mSk i k))
def uDelR (A : zA2) (i : Int) : zA2 := uRl A (A 4 0 - 1) (fun k => A 5 (mSk i k)) (fun k => A 6 (mSk i k)) (fun k => A 7 (mSk i k)) (fun k => A 8 (mSk i k))
/-- the present view; the snapshot; the views ahead of the changes; the tape: its length, bytes, the cause; what the edit told -/
abbrev aS : Type := zA2 × (Int × zA2) × (Int × (Int → zA2)) × (Int × (Int → Int) × Int) × (Int × Int × Int)
abbrev aR : Type := Int × aS
def hPush (h : Int × (Int → zA2)) (A : zA2) : Int × (Int → zA2) := (if h.1 < 8 then h.1 + 1 else 8, fun j => if j < (if h.1 < 8 then h.1 else 7) then h.2 (if h.1 < 8 then j else j + 1) else A)
/-- a change -/
def aPut (σ : aS) (A : zA2) : aS := (A, σ.2.1, hPush σ.2.2.1 σ.1, σ.2.2.2.1, σ.2.2.2.2)
def aTp (σ : aS) (tp : Int × (Int → Int) × Int) : aS := (σ.1, σ.2.1, σ.2.2.1, tp, σ.2.2.2.2)
/-- what an edit tells: from A to A', at word a of page p, m words gone, n words come -/
def aTell (A A' : zA2) (p a m n : Int) : Int × Int × Int := (zcnt (fun i => eOn (mTo A' p) i (mTo A p) (ePl i a n m)) 20, zcnt (fun i => eOn (mTo A p) i (mTo A' p) (ePl i a m n)) 20, eFst (fun i => eOn (mTo A' p) i (mTo A p) (ePl i a n m)) 20)
def aEd (σ : aS) (A : zA2) (p a m n : Int) : aS := (A, σ.2.1, hPush σ.2.2.1 σ.1, σ.2.2.2.1, aTell σ.1 A p a m n)
def bup (B : Int → Int) (k v : Int) : Int → Int := fun j => if j = k then v else B j
def bApp : List Int → Int → (Int → Int) → Int → Int
  | [], _, B => B
  | v :: r, n, B => bApp r (n + 1) (bup B n v)
abbrev isB (x : Int) : Prop := 0 ≤ x ∧ x ≤ 127
def aFeed (σ : aS) (n a b c d e : Int) : aR :=
  if ¬ ((1 ≤ n ∧ n ≤ 5) ∧ isB a ∧ isB b ∧ isB c ∧ isB d ∧ isB e) then (-2, σ)
  else if 80 < σ.2.2.2.1.1 + n then (-4, σ)
  else (σ.2.2.2.1.1 + n, aTp σ (σ.2.2.2.1.1 + n, bApp ([a, b, c, d, e].take n.toNat) σ.2.2.2.1.1 σ.2.2.2.1.2.1, σ.2.2.2.1.2.2))
/-- the tape is read: it is empty then -/
def aRd (σ : aS) (s : tS) : aS := aTp σ (0, σ.2.2.2.1.2.1, s.2.2)
abbrev isP (p : Int) : Prop := 0 ≤ p ∧ p < 4
def aPage (σ : aS) (p : Int) : aR :=
  if ¬ isP p then (-1, σ)
  else if (tPag σ.2.2.2.1.2.1 σ.2.2.2.1.1 σ.2.2.2.1.2.2).2.2.1 = -1 then (((tPag σ.2.2.2.1.2.1 σ.2.2.2.1.1 σ.2.2.2.1.2.2).1.length : Int), aPut (aRd σ (tPag σ.2.2.2.1.2.1 σ.2.2.2.1.1 σ.2.2.2.1.2.2).2) (uPage σ.1 p (tPag σ.2.2.2.1.2.1 σ.2.2.2.1.1 σ.2.2.2.1.2.2).1))
  else (zsub (-100) ((tPag σ.2.2.2.1.2.1 σ.2.2.2.1.1 σ.2.2.2.1.2.2).2.2.1), aRd σ (tPag σ.2.2.2.1.2.1 σ.2.2.2.1.1 σ.2.2.2.1.2.2).2)
def aSense (σ : aS) : aR :=
  if 8 ≤ σ.1 9 0 then (-4, σ)
  else if (tS5 σ.2.2.2.1.2.1 σ.2.2.2.1.1 σ.2.2.2.1.2.2).2.1 = -1 then (σ.1 9 0, aPut (aRd σ (tS5 σ.2.2.2.1.2.1 σ.2.2.2.1.1 σ.2.2.2.1.2.2)) (uAddS σ.1 (tS1 σ.2.2.2.1.2.1 σ.2.2.2.1.1 σ.2.2.2.1.2.2).1 (tS3 σ.2.2.2.1.2.1 σ.2.2.2.1.1 σ.2.2.2.1.2.2).1 (tS4 σ.2.2.2.1.2.1 σ.2.2.2.1.1 σ.2.2.2.1.2.2).1))
  else (zsub (-100) ((tS5 σ.2.2.2.1.2.1 σ.2.2.2.1.1 σ.2.2.2.1.2.2).2.1), aRd σ (tS5 σ.2.2.2.1.2.1 σ.2.2.2.1.1 σ.2.2.2.1.2.2))
def aRule (σ : aS) : aR :=
  if 6 ≤ σ.1 4 0 then (-4, σ)
  else if (tRul σ.2.2.2.1.2.1 σ.2.2.2.1.1 σ.2.2.2.1.2.2).2.2.2.1 = -1 then (σ.1 4 0, aPut (aRd σ (tRul σ.2.2.2.1.2.1 σ.2.2.2.1.1 σ.2.2.2.1.2.2).2.2) (uAddR σ.1 (tRul σ.2.2.2.1.2.1 σ.2.2.2.1.1 σ.2.2.2.1.2.2).1 (tRul σ.2.2.2.1.2.1 σ.2.2.2.1.1 σ.2.2.2.1.2.2).2.1))
  else (zsub (-100) ((tRul σ.2.2.2.1.2.1 σ.2.2.2.1.1 σ.2.2.2.1.2.2).2.2.2.1), aRd σ (tRul σ.2.2.2.1.2.1 σ.2.2.2.1.1 σ.2.2.2.1.2.2).2.2)
def aRmS (σ : aS) (s : Int) : aR := if 0 ≤ s ∧ s < σ.1 9 0 then (σ.1 9 0 - 1, aPut σ (uDelS σ.1 s)) else (-1, σ)
def aRmR (σ : aS) (r : Int) : aR := if 0 ≤ r ∧ r < σ.1 4 0 then (σ.1 4 0 - 1, aPut σ (uDelR σ.1 r)) else (-1, σ)
def aPar (σ : aS) (what v : Int) : aR :=
  if ¬ (0 ≤ what ∧ what ≤ 1) then (-1, σ) else if ¬ (0 ≤ v ∧ v ≤ (if what = 0 then 8 else 9)) then (-2, σ) else (σ.1 (14 + what) 0, aPut σ (uNum σ.1 (14 + what) v))
def aBud (σ : aS) (p v : Int) : aR := if ¬ isP p then (-1, σ) else if ¬ (0 ≤ v ∧ v ≤ 20) then (-2, σ) else (σ.1 1 p, aPut σ (uBud σ.1 p v))
/-- one word is read -/
def tOne (B : Int → Int) (n ca : Int) : Int × tS := ((tWrd B n True (0, -1, ca)).1, tEnd B n (tWrd B n True (0, -1, ca)).2)
def aIns (σ : aS) (p i : Int) : aR :=
  if ¬ (isP p ∧ 0 ≤ i ∧ i ≤ σ.1 0 p) then (-1, σ) else if 20 ≤ σ.1 0 p then (-4, σ)
  else if (tOne σ.2.2.2.1.2.1 σ.2.2.2.1.1 σ.2.2.2.1.2.2).2.2.1 = -1 then (σ.1 0 p + 1, aEd (aRd σ (tOne σ.2.2.2.1.2.1 σ.2.2.2.1.1 σ.2.2.2.1.2.2).2) (uIns σ.1 p i (tOne σ.2.2.2.1.2.1 σ.2.2.2.1.1 σ.2.2.2.1.2.2).1) p i 0 1)
  else (zsub (-100) ((tOne σ.2.2.2.1.2.1 σ.2.2.2.1.1 σ.2.2.2.1.2.2).2.2.1), aRd σ (tOne σ.2.2.2.1.2.1 σ.2.2.2.1.1 σ.2.2.2.1.2.2).2)
abbrev isW (A : zA2) (p i : Int) : Prop := isP p ∧ 0 ≤ i ∧ i < A 0 p
def aRep (σ : aS) (p i : Int) : aR :=
  if ¬ isW σ.1 p i then (-1, σ)
  else if (tOne σ.2.2.2.1.2.1 σ.2.2.2.1.1 σ.2.2.2.1.2.2).2.2.1 = -1 then (σ.1 0 p, aEd (aRd σ (tOne σ.2.2.2.1.2.1 σ.2.2.2.1.1 σ.2.2.2.1.2.2).2) (uRep σ.1 p i (tOne σ.2.2.2.1.2.1 σ.2.2.2.1.1 σ.2.2.2.1.2.2).1) p i 1 1)
  else (zsub (-100) ((tOne σ.2.2.2.1.2.1 σ.2.2.2.1.1 σ.2.2.2.1.2.2).2.2.1), aRd σ (tOne σ.2.2.2.1.2.1 σ.2.2.2.1.1 σ.2.2.2.1.2.2).2)
noncomputable def aCut (σ : aS) (p i : Int) : aR := if ¬ isW σ.1 p i then (-1, σ) else (σ.1 0 p - 1, aEd σ (uCut σ.1 p i) p i 1 0)
def aEdited (σ : aS) (w : Int) : Int := if w = 0 then σ.2.2.2.2.1 else if w = 1 then σ.2.2.2.2.2.1 else if w = 2 then σ.2.2.2.2.2.2 else -1
def lOL (w k : Int) : Int := if k = -1 then mlen w else if k < 0 then -5 else if k < mlen w then w / 32 ^ (mlen w - 1 - k).toNat % 32 + 96 else -5
def aWord (A : zA2) (p i k : Int) : Int := if ¬ isW A p i ∨ k < -1 then -1 else lOL (A 3 (20 * p + i)) k
def aTold (A : zA2) (p i w : Int) : Int :=
  if ¬ isW A p i then -1 else if w = 0 then A 2 (20 * p + i) else if w = 1 then mR A p (A 1 p) (-1) i.toNat else if w = 2 then mTo A p i else if w = 3 then (mMe A p i).1 else if w = 4 then (mMe A p i).2 else if w = 5 then (mHd A p i).2
  else if w = 6 then zcnt (fun j => mR A p (A 1 p) (-1) j.toNat = 0) i.toNat else if w = 7 then ((mBL A p i).length : Int) else -1
def aBase (A : zA2) (p i b k : Int) : Int := if ¬ isW A p i ∨ b < 0 ∨ k < -1 then -1 else if b < (mBL A p i).length then lOL ((mBL A p i).getD b.toNat (0, 0)).1 k else -5
def mLT (A : zA2) (p s : Int) : Int := zcnt (fun j => mTo A p j = s) (A 0 p).toNat
def mMT (A : zA2) (p s : Int) : Int := zcnt (fun j => (mMe A p j).1 = s) (A 0 p).toNat
def aOfS (A : zA2) (s w : Int) : Int :=
  if ¬ (0 ≤ s ∧ s < A 9 0) then -1 else if 10 ≤ w ∧ w < 14 then mLT A (w - 10) s else if w = 0 then mlen (A 10 s) else if w = 1 then A 11 s else if w = 2 then A 13 s
  else if w = 3 then mLT A 0 s + mLT A 1 s + mLT A 2 s + mLT A 3 s else if w = 4 then mMT A 0 s + mMT A 1 s + mMT A 2 s + mMT A 3 s else -1
def mRC (A : zA2) (p r : Int) : Int := zcnt (fun j => mR A p (A 1 p) (-1) j.toNat = r) (A 0 p).toNat
def aOfP (A : zA2) (p w : Int) : Int :=
  if ¬ isP p then -1 else if 10 ≤ w ∧ w ≤ 16 then mRC A p (w - 10) else if w = 0 then A 0 p else if w = 1 then (if A 0 p < 1 then 0 else A 2 (20 * p + (A 0 p - 1)) + 1) else if w = 2 then A 1 p
  else if w = 3 then mRC A p 0 else if w = 4 then A 0 p - mRC A p 1 else if w = 5 then mCnt (mRs A p 20 (-1) (A 0 p).toNat) (-1) (A 0 p).toNat else -1
def aLink (A : zA2) (p k : Int) : Int := if ¬ isP p ∨ k < 0 then -1 else mLw A p k (A 0 p).toNat 0 0
def aWo (A : zA2) (p k : Int) : Int :=
  if ¬ isP p ∨ mLw A p k (A 0 p).toNat 0 0 = -5 then -1 else mFw A p (mLw A p k (A 0 p).toNat 0 0) ((A 0 p).toNat - ((mLw A p k (A 0 p).toNat 0 0).toNat + 1)) ((mLw A p k (A 0 p).toNat 0 0).toNat + 1)
def aAgain (A : zA2) (p : Int) : Int := if ¬ isP p then -1 else mRC A p 0
def aBack (σ : aS) : aR := if σ.2.2.1.1 < 1 then (-3, σ) else (σ.2.2.1.1 - 1, (σ.2.2.1.2 (σ.2.2.1.1 - 1), σ.2.1, (σ.2.2.1.1 - 1, σ.2.2.1.2), σ.2.2.2.1, σ.2.2.2.2))
def aImage (σ : aS) : aR := (σ.1 9 0, (σ.1, (1, σ.1), σ.2.2.1, σ.2.2.2.1, σ.2.2.2.2))
def aUndo (σ : aS) : aR := if σ.2.1.1 = 0 then (-3, σ) else (σ.2.1.2 9 0, (σ.2.1.2, σ.2.1, (0, σ.2.2.1.2), σ.2.2.2.1, σ.2.2.2.2))
def aCount (σ : aS) (w : Int) : Int :=
  if w = 0 then σ.1 9 0 else if w = 1 then σ.1 4 0 else if w = 2 then σ.2.2.2.1.1 else if w = 3 then σ.2.2.1.1 else if w = 4 then σ.1 14 0 else if w = 5 then σ.1 15 0
  else if w = 6 then σ.1 0 0 + σ.1 0 1 + σ.1 0 2 + σ.1 0 3 else if w = 7 then mRC σ.1 0 0 + mRC σ.1 1 0 + mRC σ.1 2 0 + mRC σ.1 3 0
  else if w = 8 then ziand (zsub (zishl 1 (σ.1 9 0)) 1) (zixor (zior (zior (zior (zior 0 (mLS σ.1 0 (σ.1 0 0).toNat)) (mLS σ.1 1 (σ.1 0 1).toNat)) (mLS σ.1 2 (σ.1 0 2).toNat)) (mLS σ.1 3 (σ.1 0 3).toNat)) (-1)) else -1
/-- a view is as views are -/
def VOK (A : zA2) : Prop :=
  (∀ p, 0 ≤ p → p < 4 → (0 ≤ A 0 p ∧ A 0 p ≤ 20) ∧ (0 ≤ A 1 p ∧ A 1 p ≤ 20) ∧ (∀ i, 0 ≤ i → i < A 0 p → (0 ≤ A 2 (20 * p + i) ∧ A 2 (20 * p + i) ≤ 3) ∧ ∃ n : Nat, 1 ≤ n ∧ n ≤ 10 ∧ mwf n (A 3 (20 * p + i))) ∧ ∀ i j, 0 ≤ i → i ≤ j → j < A 0 p → A 2 (20 * p + i) ≤ A 2 (20 * p + j)) ∧
  ((0 ≤ A 4 0 ∧ A 4 0 ≤ 6) ∧ ∀ r, 0 ≤ r → r < A 4 0 → ∃ e f : Nat, 1 ≤ e ∧ e ≤ 4 ∧ f ≤ 3 ∧ mwf e (A 5 r) ∧ mwf f (A 6 r) ∧ A 7 r = e ∧ A 8 r = f) ∧
  ((0 ≤ A 9 0 ∧ A 9 0 ≤ 8) ∧ ∀ s, 0 ≤ s → s < A 9 0 → (∃ n : Nat, 1 ≤ n ∧ n ≤ 10 ∧ mwf n (A 10 s)) ∧ (0 ≤ A 11 s ∧ A 11 s ≤ 4) ∧ (∀ h, 0 ≤ h → h < A 11 s → ∃ n : Nat, 1 ≤ n ∧ n ≤ 10 ∧ mwf n (A 12 (4 * s + h))) ∧ (A 13 s = -5 ∨ 0 ≤ A 13 s ∧ A 13 s ≤ 3)) ∧
  (0 ≤ A 14 0 ∧ A 14 0 ≤ 8) ∧ (0 ≤ A 15 0 ∧ A 15 0 ≤ 9)
theorem VOK.pg {A : zA2} (h : VOK A) {p : Int} (hp : isP p) : PgOK A p := by
  obtain ⟨a1, -, a3, a4⟩ := h.1 p hp.1 hp.2
  refine ⟨a1, fun i hi => ?_, fun j k jk hk => a4 j k (by omega) (by omega) hk⟩
  obtain ⟨-, n, n1, n2, n3⟩ := a3 i (by omega) hi
  obtain ⟨m, rfl⟩ : ∃ m, n = m + 1 := ⟨n - 1, by omega⟩
  exact ⟨by have := mwf_pos n3; omega, mwf_63 n3 n2⟩
theorem VOK.sn {A : zA2} (h : VOK A) : SnOK A := by
  obtain ⟨-, -, ⟨-, h3⟩, h4, -⟩ := h
  refine ⟨⟨h4.1, by omega⟩, fun s s0 s1 => ?_⟩
  obtain ⟨⟨n, n1, n2, n3⟩, -⟩ := h3 s s0 s1
  obtain ⟨m, rfl⟩ : ∃ m, n = m + 1 := ⟨n - 1, by omega⟩
  have := mwf_pos n3; omega
theorem VOK.n8 {A : zA2} (h : VOK A) : A 9 0 ≤ 8 := h.2.2.1.1.2
