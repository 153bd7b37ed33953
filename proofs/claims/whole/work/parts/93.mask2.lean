/-! The reference: senses, pages, links, counts asked. -/
section
variable {c : zC} {σ : aS} {p k w s : Int} (d : Nat)
theorem M_ofSense (h : RM c σ) : MAk c σ (zrun zTab (d + 40) 197 [681, s, w] c) (aOfS σ.1 s w) := by
  have n9 := h.ok.1.n9
  rw [ze_X12_ofSense, if_pos h.1.k, zm_senses (d + 38) h.1, zbnd_some, zsub_id (by omega) (by omega), zm_in, zbnd_some]
  unfold aOfS
  rw [h.a9]
  by_cases e : 0 ≤ s ∧ s < c 682 1023
  · have ok := h.ok
    rw [if_pos (show 0 ≤ s ∧ s ≤ c 682 1023 - 1 by omega), if_neg (by decide), if_neg (show ¬ ¬ (0 ≤ s ∧ s < c 682 1023) from fun q => q e), zm_in, zbnd_some]
    have big : 3 ≤ w ∧ w ≤ 13 → MAk c σ (zex zc_X12_ofSense zk_X12_ofSense (zrun zTab (d + 39)) 19999 36 [(2, 681), (0, s), (0, w), (3, 0), (3, 0), (3, 0)] [] c) (sm4 (fun p => if mSel w p then mPp σ.1 s w p else 0) 4) := fun hw => by
      rw [ze_X12_ofSense_36, if_neg (by omega)]
      exact M_os_81 (d + 31) e.1 hw 4 19997 0 c (by omega) (by omega) h
    by_cases e1 : 0 ≤ w ∧ w ≤ 4
    · rw [if_pos e1, if_neg (by decide), if_neg (by omega)]
      by_cases e3 : w < 3
      · refine MAk.rf h ?_
        rw [ze_X12_ofSense_36, if_pos e3]
        by_cases y0 : w = 0
        · obtain ⟨q1, -⟩ := ok.1.sn e.1 e.2
          rw [if_pos y0, if_pos y0, if_pos h.1.k, zm_senseAt (d + 38) (by omega), zbnd_some, h.1.f.1, if_pos (h.1.r682 (by omega) (by omega)), ← ok.2, mw_10 e.1 e.2, mlen_of q1.wf (by have := q1.2.1; omega), Int.toNat_of_nonneg (by have := q1.1; omega)]
        rw [if_neg y0, if_neg y0]
        by_cases y1 : w = 1
        · rw [if_pos y1, if_pos y1, if_pos h.1.k, zm_hints (d + 37) h.1 (by omega), zbnd_some, ← ok.2, mw_11 e.1 e.2, show 1024 + 57 * s + 11 = 1035 + 57 * s by omega]
        rw [if_neg y1, if_neg y1, if_pos (show w = 2 by omega), if_pos h.1.k, zm_own (d + 37) h.1 (by omega), zbnd_some, ← ok.2, mw_13 e.1 e.2, show 1024 + 57 * s + 56 = 1080 + 57 * s by omega]
      · have b := big (by omega)
        rw [if_neg (by omega), if_neg (by omega), if_neg (by omega)]
        by_cases y3 : w = 3
        · subst y3
          have e4 : sm4 (fun p => if mSel 3 p then mPp σ.1 s 3 p else 0) 4 = mLT σ.1 0 s + mLT σ.1 1 s + mLT σ.1 2 s + mLT σ.1 3 s := by
            show 0 + mLT σ.1 0 s + mLT σ.1 1 s + mLT σ.1 2 s + mLT σ.1 3 s = _
            omega
          rw [if_pos rfl, ← e4]
          exact b
        · obtain rfl : w = 4 := by omega
          have e4 : sm4 (fun p => if mSel 4 p then mPp σ.1 s 4 p else 0) 4 = mMT σ.1 0 s + mMT σ.1 1 s + mMT σ.1 2 s + mMT σ.1 3 s := by
            show 0 + mMT σ.1 0 s + mMT σ.1 1 s + mMT σ.1 2 s + mMT σ.1 3 s = _
            omega
          rw [if_neg (by decide), if_pos rfl, ← e4]
          exact b
    · rw [if_neg e1, if_pos rfl, zm_in, zbnd_some]
      by_cases e2 : 10 ≤ w ∧ w ≤ 13
      · have b := big (by omega)
        rw [if_pos e2, if_neg (by decide), if_pos (show 10 ≤ w ∧ w < 14 by omega)]
        have e4 : sm4 (fun p => if mSel w p then mPp σ.1 s w p else 0) 4 = mLT σ.1 (w - 10) s := by
          rcases (show w = 10 ∨ w = 11 ∨ w = 12 ∨ w = 13 by omega) with rfl | rfl | rfl | rfl
          · show 0 + mLT σ.1 0 s + 0 + 0 + 0 = mLT σ.1 0 s
            omega
          · show 0 + 0 + mLT σ.1 1 s + 0 + 0 = mLT σ.1 1 s
            omega
          · show 0 + 0 + 0 + mLT σ.1 2 s + 0 = mLT σ.1 2 s
            omega
          · show 0 + 0 + 0 + 0 + mLT σ.1 3 s = mLT σ.1 3 s
            omega
        rw [← e4]
        exact b
      · refine MAk.rf h ?_
        rw [if_neg e2, if_pos rfl, if_neg (by omega), if_neg (by omega), if_neg (by omega), if_neg (by omega), if_neg (by omega), if_neg (by omega)]
  · refine MAk.rf h ?_
    rw [if_neg (show ¬ (0 ≤ s ∧ s ≤ c 682 1023 - 1) by omega), if_pos rfl, if_pos e]
theorem mCnt_zcnt (A : zA2) (p bud : Int) {m : Nat} : ∀ n : Nat, n ≤ m → mCnt (mRs A p bud (-1) m) (-1) n = zcnt (fun j => mR A p bud (-1) j.toNat = 0) n := by
  intro n
  induction n with
  | zero => intro _; rfl
  | succ n ih =>
    intro hn
    show mCnt (mRs A p bud (-1) m) (-1) n + (if mLk (mRs A p bud (-1) m) (-1) n = true then 1 else 0) = zcnt (fun j => mR A p bud (-1) j.toNat = 0) n + (if mR A p bud (-1) ((n : Int)).toNat = 0 then 1 else 0)
    rw [ih (by omega), Int.toNat_natCast]
    have lk := mLk_iff (A := A) (p := p) (bud := bud) (left := -1) (n := m) (i := n)
    by_cases e : mR A p bud (-1) n = 0
    · rw [if_pos e, if_pos (lk.mpr ⟨by omega, e, by omega⟩)]
    · rw [if_neg e, if_neg (fun q => e (lk.mp q).2.1)]
theorem zm_reasonsOf (h : MO c) {A : zA2} {bud r : Int} (hp : isP p) (hA : A 0 p = c 682 (242 * p)) (hn : 0 ≤ A 0 p ∧ A 0 p ≤ 20) (hl : ML c A p bud (-1)) : zrun zTab (d + 2) 198 [681, p, r] c = some (zcnt (fun j => mR A p bud (-1) j.toNat = r) (A 0 p).toNat, c) := by
  have key : ∀ (t F k : Nat), t ≤ F → (k : Int) + t = A 0 p → zex zc_X12_reasonsOf zk_X12_reasonsOf (zrun zTab (d + 1)) (F + 1) 5 [(2, 681), (0, p), (0, r), (0, zcnt (fun j => mR A p bud (-1) j.toNat = r) k), (0, (k : Int))] [] c = some (zcnt (fun j => mR A p bud (-1) j.toNat = r) (A 0 p).toNat, c) := by
    intro t
    induction t with
    | zero =>
      intro F k hF hk
      rw [ze_X12_reasonsOf_5, if_pos h.k, zm_words d h hp, zbnd_some, ← hA, if_neg (by omega), show (A 0 p).toNat = k by omega]
    | succ t ih =>
      intro F k hF hk
      obtain ⟨F, rfl⟩ : ∃ G, F = G + 1 := ⟨F - 1, by omega⟩
      have zc := zcnt_le (fun j => mR A p bud (-1) j.toNat = r) k
      have st : zcnt (fun j => mR A p bud (-1) j.toNat = r) (k + 1) = zcnt (fun j => mR A p bud (-1) j.toNat = r) k + (if mR A p bud (-1) k = r then 1 else 0) := by
        show zcnt (fun j => mR A p bud (-1) j.toNat = r) k + (if mR A p bud (-1) ((k : Int)).toNat = r then 1 else 0) = _
        rw [Int.toNat_natCast]
      have nx := ih F (k + 1) (by omega) (by omega)
      rw [st] at nx
      rw [ze_X12_reasonsOf_5, if_pos h.k, zm_words d h hp, zbnd_some, ← hA, if_pos (by omega), if_pos h.k, h.f.2.2.2.2.2.2.2.2.2.2.2.2.2.1, if_pos (h.r695 (by omega) (by omega)), hl.r (i := k) (by omega) (by omega), zadd_id (by omega) (by omega), zadd_id (by omega) (by omega), zw_id' (x := (k : Int) + 1) (by omega) (by omega), show (k : Int) + 1 = ((k + 1 : Nat) : Int) by omega]
      by_cases e : mR A p bud (-1) k = r
      · rw [if_pos e] at nx ⊢; exact nx
      · rw [if_neg e] at nx ⊢; exact nx
  rw [ze_X12_reasonsOf]
  exact key (A 0 p).toNat 19998 0 (by omega) (by omega)
theorem M_ofPage (h : RM c σ) : MAk c σ (zrun zTab (d + 40) 199 [681, p, w] c) (aOfP σ.1 p w) := by
  rw [ze_X12_ofPage, zm_isPage, zbnd_some]
  unfold aOfP
  by_cases hp : isP p
  · have p0 := hp.1
    have p1 := hp.2
    have ok := h.ok
    have n20 := h.bn p hp
    have a0 := h.a0 hp
    rw [if_pos hp, if_neg (by decide), if_neg (show ¬ ¬ isP p from fun q => q hp), zm_in, zbnd_some]
    have big : 3 ≤ w ∧ w ≤ 16 → MAk c σ (zex zc_X12_ofPage zk_X12_ofPage (zrun zTab (d + 39)) 19999 29 [(2, 681), (0, p), (0, w)] [] c) (if w = 3 then mRC σ.1 p 0 else if w = 5 then mCnt (mRs σ.1 p 20 (-1) (σ.1 0 p).toNat) (-1) (σ.1 0 p).toNat else if w = 4 then σ.1 0 p - mRC σ.1 p 1 else mRC σ.1 p (w - 10)) := fun hw => by
      rw [ze_X12_ofPage_29, if_neg (by omega)]
      by_cases y5 : w = 5
      · subst y5
        obtain ⟨c2, q1, q2, q3, q4⟩ := M_linksB (d + 33) h hp 20 (-1)
        rw [if_pos rfl, ze_X12_ofPage_83, if_pos h.1.k, q1, zbnd_some, if_neg (by decide), if_pos rfl, if_pos q4.1.k, q3.2, if_neg (by decide), if_pos rfl]
        exact ⟨c2, rfl, q4, q2.lo⟩
      · obtain ⟨c2, q1, q2, q3, q4⟩ := M_linksB (d + 33) h hp (σ.1 1 p) (-1)
        rw [if_neg y5, if_pos h.1.k, zm_budgetOf (d + 38) h.1 hp, zbnd_some, ← h.a1 hp, ze_X12_ofPage_83, if_pos h.1.k, q1, zbnd_some, if_neg y5, if_neg y5]
        by_cases y3 : w = 3
        · rw [if_pos y3, if_pos y3, if_pos q4.1.k, q3.2, mCnt_zcnt σ.1 p (σ.1 1 p) _ (Nat.le_refl _)]
          exact ⟨c2, rfl, q4, q2.lo⟩
        rw [if_neg y3, if_neg y3]
        by_cases y4 : w = 4
        · have := mRC_le σ.1 p 1 (by omega)
          have rs := zm_reasonsOf (d + 37) (r := 1) q4.1 hp (q4.a0 hp) (by omega) q3
          rw [if_pos y4, if_pos y4, if_pos q4.1.k, zm_words (d + 38) q4.1 hp, zbnd_some, if_pos q4.1.k, rs, zbnd_some, ← q4.a0 hp]
          have e : zcnt (fun j => mR σ.1 p (σ.1 1 p) (-1) j.toNat = 1) (σ.1 0 p).toNat = mRC σ.1 p 1 := rfl
          rw [e, zsub_id (by omega) (by omega)]
          exact ⟨c2, rfl, q4, q2.lo⟩
        have rs := zm_reasonsOf (d + 37) (r := w - 10) q4.1 hp (q4.a0 hp) (by omega) q3
        rw [if_neg y4, if_neg y4, if_pos q4.1.k, zsub_id (by omega) (by omega), rs, zbnd_some]
        exact ⟨c2, rfl, q4, q2.lo⟩
    by_cases e1 : 0 ≤ w ∧ w ≤ 5
    · rw [if_pos e1, if_neg (by decide), if_neg (by omega)]
      by_cases e3 : w < 3
      · refine MAk.rf h ?_
        rw [ze_X12_ofPage_29, if_pos e3]
        by_cases y0 : w = 0
        · rw [if_pos y0, if_pos y0, if_pos h.1.k, zm_words (d + 38) h.1 hp, zbnd_some, a0]
        rw [if_neg y0, if_neg y0]
        by_cases y1 : w = 1
        · have pg := ok.1.pg hp
          rw [if_pos y1, if_pos y1, if_pos h.1.k, zm_sections (d + 36) h.1 hp n20 (fun q => (pg.2.2.1 _ (by omega) (by omega)).1), zbnd_some, a0]
          by_cases z : c 682 (242 * p) < 1
          · rw [if_pos z, if_pos z]
          · rw [if_neg z, if_neg z, ← ok.2, mw_2 hp (by omega) (by omega) (by omega)]
        rw [if_neg y1, if_neg y1, if_pos (show w = 2 by omega), if_pos h.1.k, zm_budgetOf (d + 38) h.1 hp, zbnd_some, h.a1 hp]
      · have b := big (by omega)
        rw [if_neg (by omega), if_neg (by omega), if_neg (by omega)]
        by_cases y3 : w = 3
        · rw [if_pos y3] at b ⊢; exact b
        rw [if_neg y3] at b ⊢
        by_cases y5 : w = 5
        · rw [if_pos y5] at b
          rw [if_neg (by omega), if_pos y5]; exact b
        · rw [if_neg y5, if_pos (show w = 4 by omega)] at b
          rw [if_pos (show w = 4 by omega)]; exact b
    · rw [if_neg e1, if_pos rfl, zm_in, zbnd_some]
      by_cases e2 : 10 ≤ w ∧ w ≤ 16
      · have b := big (by omega)
        rw [if_neg (by omega), if_neg (by omega), if_neg (by omega)] at b
        rw [if_pos e2, if_neg (by decide), if_pos e2]
        exact b
      · refine MAk.rf h ?_
        rw [if_neg e2, if_pos rfl, if_neg e2, if_neg (by omega), if_neg (by omega), if_neg (by omega), if_neg (by omega), if_neg (by omega), if_neg (by omega)]
  · refine MAk.rf h ?_
    rw [if_neg hp, if_pos rfl, if_pos hp]
theorem M_linkAt (h : RM c σ) (hp : isP p) (hk : 0 ≤ k) (hk2 : k < 2147483648) : ∃ c', zrun zTab (d + 8) 200 [681, p, k] c = some (if mLw σ.1 p k (σ.1 0 p).toNat 0 0 = -5 then -1 else mLw σ.1 p k (σ.1 0 p).toNat 0 0, c') ∧ LFr c c' ∧ ML c' σ.1 p (σ.1 1 p) (-1) ∧ RM c' σ := by
  obtain ⟨c2, q1, q2, q3, q4⟩ := M_links d h hp
  have mo := q4.1
  have n20 := h.bn p hp
  have a0 := h.a0 hp
  have a2 := q4.a0 hp
  refine ⟨c2, ?_, q2, q3, q4⟩
  rw [ze_X12_linkAt, if_pos h.1.k, q1, zbnd_some]
  have key : ∀ (t F j : Nat) (x : Int), t ≤ F → (j : Int) + t = σ.1 0 p → 0 ≤ x → x ≤ k → zex zc_X12_linkAt zk_X12_linkAt (zrun zTab (d + 7)) (F + 1) 10 [(2, 681), (0, p), (3, 0), (0, k - x), (0, (j : Int))] [] c2 = some (if mLw σ.1 p k t j x = -5 then -1 else mLw σ.1 p k t j x, c2) := by
    intro t
    induction t with
    | zero =>
      intro F j x hF hj hx hxk
      rw [ze_X12_linkAt_10, if_pos mo.k, zm_words (d + 6) mo hp, zbnd_some, ← a2, if_neg (by omega)]
      rfl
    | succ t ih =>
      intro F j x hF hj hx hxk
      obtain ⟨F, rfl⟩ : ∃ G, F = G + 1 := ⟨F - 1, by omega⟩
      have st : mLw σ.1 p k (t + 1) j x = if mR σ.1 p (σ.1 1 p) (-1) j = 0 then (if x = k then (j : Int) else mLw σ.1 p k t (j + 1) (x + 1)) else mLw σ.1 p k t (j + 1) x := rfl
      rw [ze_X12_linkAt_10, if_pos mo.k, zm_words (d + 6) mo hp, zbnd_some, ← a2, if_pos (by omega), if_pos mo.k, mo.f.2.2.2.2.2.2.2.2.2.2.2.2.2.1, if_pos (mo.r695 (by omega) (by omega)), q3.r (i := j) (by omega) (by omega), zw_id' (x := (j : Int) + 1) (by omega) (by omega), show (j : Int) + 1 = ((j + 1 : Nat) : Int) by omega, st]
      by_cases e : mR σ.1 p (σ.1 1 p) (-1) j = 0
      · rw [if_pos e, if_pos e]
        by_cases e2 : x = k
        · rw [if_pos (by omega), if_pos e2, if_neg (by omega)]
        · rw [if_neg (by omega), if_neg e2, zw_id' (by omega) (by omega), show k - x + -1 = k - (x + 1) by omega]
          exact ih F (j + 1) (x + 1) (by omega) (by omega) (by omega) (by omega)
      · rw [if_neg e, if_neg e]
        exact ih F (j + 1) x (by omega) (by omega) hx hxk
  have := key (σ.1 0 p).toNat 19998 0 0 (by omega) (by omega) (Int.le_refl 0) hk
  rw [Int.sub_zero] at this
  exact this
theorem M_link (h : RM c σ) (hk2 : k < 2147483648) : MAk c σ (zrun zTab (d + 40) 201 [681, p, k] c) (aLink σ.1 p k) := by
  rw [ze_X12_link, zm_isPage, zbnd_some]
  unfold aLink
  by_cases hp : isP p
  · rw [if_pos hp, if_neg (by decide)]
    by_cases e : k < 0
    · refine MAk.rf h ?_
      rw [if_pos e, if_pos (Or.inr e)]
    · obtain ⟨c2, q1, q2, q3, q4⟩ := M_linkAt (d + 31) h hp (by omega) hk2
      have ok := mLw_ok σ.1 p k (σ.1 0 p).toNat 0 0
      rw [if_neg e, if_pos h.1.k, q1, zbnd_some, if_neg (show ¬ (¬ isP p ∨ k < 0) from fun q => q.elim (fun q => q hp) e)]
      refine ⟨c2, ?_, q4, q2.lo⟩
      by_cases y : mLw σ.1 p k (σ.1 0 p).toNat 0 0 = -5
      · rw [if_pos y, if_pos (by decide), y]
      · rw [if_neg y, if_neg (by omega)]
  · refine MAk.rf h ?_
    rw [if_neg hp, if_pos rfl, if_pos (Or.inl hp)]
theorem mLw_neg (A : zA2) (p : Int) {k : Int} (hk : k < 0) : ∀ (t j : Nat) (x : Int), 0 ≤ x → mLw A p k t j x = -5 := by
  intro t
  induction t with
  | zero => intro j x hx; rfl
  | succ t ih =>
    intro j x hx
    show (if mR A p (A 1 p) (-1) j = 0 then (if x = k then (j : Int) else mLw A p k t (j + 1) (x + 1)) else mLw A p k t (j + 1) x) = -5
    rw [if_neg (show ¬ x = k by omega), ih (j + 1) (x + 1) (by omega), ih (j + 1) x hx]
    split <;> rfl
/-- reasons set aside -/
def zrw (c : zC) (n : Int) : zC := fun b k => if b = 697 ∧ 0 ≤ k ∧ k < n then c 695 k else c b k
theorem zrw_o {n b k : Int} (h : b ≠ 697 ∨ k < 0 ∨ n ≤ k) : zrw c n b k = c b k := by unfold zrw; rw [if_neg (by omega)]
theorem zrw_up {n : Int} (h : 0 ≤ n) : zup (zrw c n) 697 n (c 695 n) = zrw c (n + 1) := by
  funext b k
  unfold zrw
  by_cases e : b = 697 ∧ k = n
  · rw [zup_eq e, if_pos (by omega), e.2]
  · rw [zup_ne (by omega)]
    by_cases e2 : b = 697 ∧ 0 ≤ k ∧ k < n
    · rw [if_pos e2, if_pos (by omega)]
    · rw [if_neg e2, if_neg (by omega)]
theorem zrw_ms {n : Int} : MS c (zrw c n) := ⟨fun b k hk => zrw_o (by omega), fun k hk => zrw_o (Or.inl (by decide))⟩
theorem M_wo (h : RM c σ) (hk2 : k < 2147483648) : MAk c σ (zrun zTab (d + 40) 202 [681, p, k] c) (aWo σ.1 p k) := by
  rw [ze_X12_without, zm_isPage, zbnd_some]
  unfold aWo
  by_cases hp : isP p
  · have n20 := h.bn p hp
    have a0 := h.a0 hp
    rw [if_pos hp, if_neg (by decide)]
    by_cases e : k < 0
    · refine MAk.rf h ?_
      rw [if_pos e, if_pos (Or.inr (mLw_neg σ.1 p e _ 0 0 (Int.le_refl 0)))]
    · obtain ⟨c2, q1, q2, q3, q4⟩ := M_linkAt (d + 31) h hp (by omega) hk2
      have ok := mLw_ok σ.1 p k (σ.1 0 p).toNat 0 0
      rw [if_neg e, if_pos h.1.k, q1, zbnd_some]
      generalize mLw σ.1 p k (σ.1 0 p).toNat 0 0 = v at ok ⊢
      by_cases y : v = -5
      · rw [if_pos y, if_pos (by decide), if_pos (Or.inr y)]
        exact ⟨c2, rfl, q4, q2.lo⟩
      · obtain ⟨x, rfl⟩ : ∃ x : Nat, v = (x : Int) := ⟨v.toNat, by omega⟩
        have x20 : (x : Int) < σ.1 0 p := by omega
        rw [if_neg y, if_neg (by omega), if_neg (show ¬ (¬ isP p ∨ (x : Int) = -5) from fun q => q.elim (fun q => q hp) y), Int.toNat_natCast]
        -- the reasons are set aside
        have m2 := q4.1
        have cp : ∀ (t F j : Nat), t ≤ F → (j : Int) + t = σ.1 0 p → zex zc_X12_without zk_X12_without (zrun zTab (d + 39)) (F + 1) 31 [(2, 681), (0, p), (3, 0), (0, (x : Int)), (0, (j : Int))] [] (zrw c2 j) = zex zc_X12_without zk_X12_without (zrun zTab (d + 39)) (F - t + 1) 31 [(2, 681), (0, p), (3, 0), (0, (x : Int)), (0, σ.1 0 p)] [] (zrw c2 (σ.1 0 p)) := by
          intro t
          induction t with
          | zero => intro F j hF hj; rw [show (j : Int) = σ.1 0 p by omega]; rfl
          | succ t ih =>
            intro F j hF hj
            obtain ⟨F, rfl⟩ : ∃ G, F = G + 1 := ⟨F - 1, by omega⟩
            have mo := m2.ms (zrw_ms (n := (j : Int)))
            have e682 : zrw c2 j 682 (242 * p) = c2 682 (242 * p) := zrw_o (Or.inl (by decide))
            rw [ze_X12_without_31, if_pos mo.k, zm_words (d + 38) mo hp, zbnd_some, e682, ← q4.a0 hp, if_pos (by omega), if_pos mo.k, if_pos mo.k, mo.f.2.2.2.2.2.2.2.2.2.2.2.2.2.1, if_pos (mo.r695 (by omega) (by omega)), mo.f.2.2.2.2.2.2.2.2.2.2.2.2.2.2.2, if_pos (mo.r697 (by omega) (by omega)), zrw_o (b := 695) (Or.inl (by decide)), zrw_up (by omega), zw_id' (by omega) (by omega), show (j : Int) + 1 = ((j + 1 : Nat) : Int) by omega, ih F (j + 1) (by omega) (by omega), show F + 1 - (t + 1) = F - t by omega]
        have run := cp (σ.1 0 p).toNat 19998 0 (by omega) (by omega)
        have z0 : zrw c2 ((0 : Nat) : Int) = c2 := by funext b k; exact zrw_o (by omega)
        rw [z0] at run
        have run : zex zc_X12_without zk_X12_without (zrun zTab (d + 39)) 19999 31 [(2, 681), (0, p), (3, 0), (0, (x : Int)), (0, 0)] [] c2 = _ := run
        have h3 : RM (zrw c2 (σ.1 0 p)) σ := q4.sc zrw_ms (fun k hk => zrw_o (Or.inl (by decide))) (fun k => zrw_o (Or.inl (by decide))) (fun k => zrw_o (Or.inl (by decide)))
        have lo3 : zlo c (zrw c2 (σ.1 0 p)) := q2.lo.tr (fun b hb k => zrw_o (by omega))
        have e697 : ∀ j : Nat, (j : Int) < σ.1 0 p → zrw c2 (σ.1 0 p) 697 j = mR σ.1 p (σ.1 1 p) (-1) j := fun j hj => by
          unfold zrw; rw [if_pos ⟨rfl, by omega, hj⟩]; exact q3.r hj (by omega)
        obtain ⟨c4, r1, r2, r3, r4⟩ := M_linksB (d + 33) h3 hp (σ.1 1 p) (x : Int)
        have m4 := r4.1
        have f697 : ∀ j : Nat, (j : Int) < σ.1 0 p → c4 697 j = mR σ.1 p (σ.1 1 p) (-1) j := fun j hj => by rw [r2.2.1 697 (by decide) (by decide)]; exact e697 j hj
        have e682 : zrw c2 (σ.1 0 p) 682 (242 * p) = σ.1 0 p := (h3.a0 hp).symm
        refine ⟨c4, ?_, r4, lo3.tr r2.lo⟩
        rw [run, ze_X12_without_31, if_pos h3.1.k, zm_words (d + 38) h3.1 hp, zbnd_some, e682, if_neg (by omega), if_pos h3.1.k, zm_budgetOf (d + 38) h3.1 hp, zbnd_some, ← h3.a1 hp, if_pos h3.1.k, r1, zbnd_some, zadd_id (by omega) (by omega), show (x : Int) + 1 = ((x + 1 : Nat) : Int) by omega]
        have last : ∀ (t F j : Nat), t ≤ F → (j : Int) + t = σ.1 0 p → x < j → zex zc_X12_without zk_X12_without (zrun zTab (d + 39)) (F + 1) 77 [(2, 681), (0, p), (3, 0), (3, 0), (0, (j : Int))] [] c4 = some (mFw σ.1 p x t j, c4) := by
          intro t
          induction t with
          | zero =>
            intro F j hF hj hx
            rw [ze_X12_without_77, if_pos m4.k, zm_words (d + 38) m4 hp, zbnd_some, ← r4.a0 hp, if_neg (by omega)]
            rfl
          | succ t ih =>
            intro F j hF hj hx
            obtain ⟨F, rfl⟩ : ∃ G, F = G + 1 := ⟨F - 1, by omega⟩
            have st : mFw σ.1 p x (t + 1) j = if mR σ.1 p (σ.1 1 p) x j = mR σ.1 p (σ.1 1 p) (-1) j then mFw σ.1 p x t (j + 1) else (j : Int) := rfl
            rw [ze_X12_without_77, if_pos m4.k, zm_words (d + 38) m4 hp, zbnd_some, ← r4.a0 hp, if_pos (by omega), if_pos m4.k, m4.f.2.2.2.2.2.2.2.2.2.2.2.2.2.1, if_pos (m4.r695 (by omega) (by omega)), if_pos m4.k, m4.f.2.2.2.2.2.2.2.2.2.2.2.2.2.2.2, if_pos (m4.r697 (by omega) (by omega)), r3.r (i := j) (by omega) (by omega), f697 j (by omega), st, zw_id' (by omega) (by omega), show (j : Int) + 1 = ((j + 1 : Nat) : Int) by omega]
            by_cases z : mR σ.1 p (σ.1 1 p) x j = mR σ.1 p (σ.1 1 p) (-1) j
            · rw [if_pos z, if_pos z]
              exact ih F (j + 1) (by omega) (by omega) (by omega)
            · rw [if_neg z, if_neg z]
        obtain ⟨F, hF⟩ : ∃ F, 19998 - (σ.1 0 p).toNat = F + 1 := ⟨19998 - (σ.1 0 p).toNat - 1, by omega⟩
        rw [hF]
        exact last ((σ.1 0 p).toNat - (x + 1)) F (x + 1) (by omega) (by omega) (by omega)
  · refine MAk.rf h ?_
    rw [if_neg hp, if_pos rfl, if_pos (Or.inl hp)]
theorem M_again (h : RM c σ) : MAk c σ (zrun zTab (d + 40) 203 [681, p] c) (aAgain σ.1 p) := by
  rw [ze_X12_again, zm_isPage, zbnd_some]
  unfold aAgain
  by_cases hp : isP p
  · obtain ⟨c2, q1, q2, q3, q4⟩ := M_links (d + 32) h hp
    rw [if_pos hp, if_neg (by decide), if_pos h.1.k, q1, zbnd_some, if_pos q4.1.k, q3.2, if_neg (show ¬ ¬ isP p from fun q => q hp), mCnt_zcnt σ.1 p (σ.1 1 p) _ (Nat.le_refl _)]
    exact ⟨c2, rfl, q4, q2.lo⟩
  · refine MAk.rf h ?_
    rw [if_neg hp, if_pos rfl, if_pos hp]
/-- the set while a page is counted -/
def mSet (σ : aS) (S : Int) : Int := ziand (zsub (zishl 1 (σ.1 9 0)) 1) (zixor S (-1))
theorem zm_ct_141 (h : RM c σ) (hp : isP p) (hl : ML c σ.1 p (σ.1 1 p) (-1)) (n S : Int) : ∀ (t F j : Nat), t ≤ F → (j : Int) + t = σ.1 0 p → zex zc_X12_count zk_X12_count (zrun zTab (d + 1)) (F + 1) 141 [(2, 681), (0, w), (0, n), (0, mSet σ (zior S (mLS σ.1 p j))), (0, p), (0, (j : Int))] [] c = zex zc_X12_count zk_X12_count (zrun zTab (d + 1)) (F - t) 104 [(2, 681), (0, w), (0, n), (0, mSet σ (zior S (mLS σ.1 p (σ.1 0 p).toNat))), (0, p + 1), (3, 0)] [] c := by
  have p0 := hp.1
  have p1 := hp.2
  have n20 := h.bn p hp
  have a0 := h.a0 hp
  have mo := h.1
  intro t
  induction t with
  | zero =>
    intro F j hF hj
    rw [ze_X12_count_141, if_pos mo.k, zm_words d mo hp, zbnd_some, ← a0, if_neg (by omega), zw_id' (by omega) (by omega), show (σ.1 0 p).toNat = j by omega]
    rfl
  | succ t ih =>
    intro F j hF hj
    obtain ⟨F, rfl⟩ : ∃ G, F = G + 1 := ⟨F - 1, by omega⟩
    have ji : (j : Int) < σ.1 0 p := by omega
    have st : mLS σ.1 p (j + 1) = if mR σ.1 p (σ.1 1 p) (-1) j = 0 then zior (mLS σ.1 p j) (zishl 1 (mMe σ.1 p j).1) else mLS σ.1 p j := rfl
    have nx := ih F (j + 1) (by omega) (by omega)
    rw [st] at nx
    rw [ze_X12_count_141, if_pos mo.k, zm_words d mo hp, zbnd_some, ← a0, if_pos ji, if_pos mo.k, mo.f.2.2.2.2.2.2.2.2.2.2.2.2.2.1, if_pos (mo.r695 (by omega) (by omega)), hl.r (i := j) ji (by omega), zw_id' (by omega) (by omega), show (j : Int) + 1 = ((j + 1 : Nat) : Int) by omega, show F + 1 - (t + 1) = F - t by omega]
    by_cases e : mR σ.1 p (σ.1 1 p) (-1) j = 0
    · rw [if_pos e, zior_as] at nx
      have e2 : ziand (mSet σ (zior S (mLS σ.1 p j))) (zixor (zishl 1 (mMe σ.1 p j).1) (-1)) = mSet σ (zior (zior S (mLS σ.1 p j)) (zishl 1 (mMe σ.1 p j).1)) := zand_not _ _ _
      rw [if_pos e, if_pos mo.k, mo.f.2.2.2.2.2.2.2.2.2.2.2.1, if_pos (mo.r693 (by omega) (by omega)), hl.m ji, if_neg (mR_me h.v.sn e), e2]
      exact nx
    · rw [if_neg e] at nx
      have e2 : ziand (mSet σ (zior S (mLS σ.1 p j))) (-1) = mSet σ (zior S (mLS σ.1 p j)) := zand_m1 _ _
      rw [if_neg e, e2]
      exact nx
theorem or4_S (A : zA2) (k : Nat) : zior (or4 A k) (mLS A k 0) = or4 A k ∨ k = 0 := by
  cases k with
  | zero => exact Or.inr rfl
  | succ k => exact Or.inl (zior_0 _ _)
theorem M_ct_104 (hw : 6 ≤ w ∧ w ≤ 8) : ∀ (t F k : Nat) (c : zC), 100 * t ≤ F → k + t = 4 → RM c σ → MAk c σ (zex zc_X12_count zk_X12_count (zrun zTab (d + 8)) (F + 1) 104 [(2, 681), (0, w), (0, sm4 (fun p => if w = 6 then σ.1 0 p else mRC σ.1 p 0) k), (0, mSet σ (or4 σ.1 k)), (0, (k : Int)), (3, 0)] [] c) (if w = 8 then mSet σ (or4 σ.1 4) else sm4 (fun p => if w = 6 then σ.1 0 p else mRC σ.1 p 0) 4) := by
  intro t
  induction t with
  | zero =>
    intro F k c hF hk h
    refine MAk.rf h ?_
    rw [ze_X12_count_104, if_neg (by omega), show k = 4 by omega]
    by_cases e : w = 8
    · rw [if_pos e, if_pos e]
    · rw [if_neg e, if_neg e]
  | succ t ih =>
    intro F k c hF hk h
    obtain ⟨F, rfl⟩ : ∃ G, F = G + 1 := ⟨F - 1, by omega⟩
    have hp : isP (k : Int) := ⟨by omega, by omega⟩
    have a20 := fun p (hp : isP p) => ((h.v.1 p hp.1 hp.2).1)
    have r20 := mRC_le σ.1 k 0 (a20 k hp).2
    have b1 := sm4_le (f := fun p => if w = 6 then σ.1 0 p else mRC σ.1 p 0) (fun p hp => by
      show 0 ≤ (if w = 6 then σ.1 0 p else mRC σ.1 p 0) ∧ (if w = 6 then σ.1 0 p else mRC σ.1 p 0) ≤ 20
      split
      · exact a20 p hp
      · exact mRC_le _ _ _ (a20 p hp).2) k (by omega)
    have st : sm4 (fun p => if w = 6 then σ.1 0 p else mRC σ.1 p 0) (k + 1) = sm4 (fun p => if w = 6 then σ.1 0 p else mRC σ.1 p 0) k + (if w = 6 then σ.1 0 k else mRC σ.1 k 0) := rfl
    obtain ⟨c2, q1, q2, q3, q4⟩ := M_links (d + 1) h hp
    have a02 := q4.a0 hp
    have k20 := a20 k hp
    have go : ∀ n : Int, n = sm4 (fun p => if w = 6 then σ.1 0 p else mRC σ.1 p 0) (k + 1) → MAk c σ (zex zc_X12_count zk_X12_count (zrun zTab (d + 8)) (F + 1) 141 [(2, 681), (0, w), (0, n), (0, mSet σ (or4 σ.1 k)), (0, (k : Int)), (0, 0)] [] c2) (if w = 8 then mSet σ (or4 σ.1 4) else sm4 (fun p => if w = 6 then σ.1 0 p else mRC σ.1 p 0) 4) := fun n hn => by
      have run := zm_ct_141 (d + 7) (w := w) q4 hp q3 n (or4 σ.1 k) (σ.1 0 k).toNat F 0 (by omega) (by omega)
      have e0 : zior (or4 σ.1 k) (mLS σ.1 k 0) = or4 σ.1 k := by
        rcases or4_S σ.1 k with q | q
        · exact q
        · subst q; show zior 0 0 = 0; decide
      rw [e0] at run
      have run : zex zc_X12_count zk_X12_count (zrun zTab (d + 8)) (F + 1) 141 [(2, 681), (0, w), (0, n), (0, mSet σ (or4 σ.1 k)), (0, (k : Int)), (0, 0)] [] c2 = _ := run
      obtain ⟨G, hG⟩ : ∃ G, F - (σ.1 0 k).toNat = G + 1 := ⟨F - (σ.1 0 k).toNat - 1, by omega⟩
      have nx := ih G (k + 1) c2 (by omega) (by omega) q4
      rw [← hn] at nx
      rw [run, hG, show (k : Int) + 1 = ((k + 1 : Nat) : Int) by omega]
      obtain ⟨c3, x1, x2, x3⟩ := nx
      exact ⟨c3, x1, x2, q2.lo.tr x3⟩
    rw [ze_X12_count_104, if_pos (by omega), if_pos h.1.k, q1, zbnd_some]
    by_cases e6 : w = 6
    · rw [if_pos e6, if_pos q4.1.k, zm_words (d + 7) q4.1 hp, zbnd_some, ← a02, zadd_id (by omega) (by omega)]
      exact go _ (by rw [st, if_pos e6])
    · have ec : c2 681 22 = mRC σ.1 k 0 := by rw [q3.2, mCnt_zcnt σ.1 k (σ.1 1 k) _ (Nat.le_refl _)]; rfl
      rw [if_neg e6, if_pos q4.1.k, ec, zadd_id (by omega) (by omega)]
      exact go _ (by rw [st, if_neg e6])
theorem M_count (h : RM c σ) : MAk c σ (zrun zTab (d + 40) 207 [681, w] c) (aCount σ w) := by
  have mo := h.1
  have n9 := h.ok.1.n9
  rw [ze_X12_count, zm_in, zbnd_some]
  unfold aCount
  by_cases e : 0 ≤ w ∧ w ≤ 8
  · rw [if_pos e, if_neg (by decide)]
    by_cases e6 : w < 6
    · refine MAk.rf h ?_
      rw [if_pos e6]
      by_cases y : w = 0
      · rw [if_pos y, if_pos y, if_pos mo.k, zm_senses (d + 38) mo, zbnd_some, h.a9]
      rw [if_neg y, if_neg y]
      by_cases y : w = 1
      · rw [if_pos y, if_pos y, if_pos mo.k, zm_rules (d + 38) mo, zbnd_some, h.a4]
      rw [if_neg y, if_neg y]
      by_cases y : w = 2
      · rw [if_pos y, if_pos y, if_pos mo.k, h.2.2.1.1]
      rw [if_neg y, if_neg y]
      by_cases y : w = 3
      · rw [if_pos y, if_pos y, if_pos mo.k, h.2.1.2.1.1]
      rw [if_neg y, if_neg y]
      by_cases y : w = 4
      · rw [if_pos y, if_pos y, if_pos mo.k, mo.f.1, if_pos (mo.r682 (by omega) (by omega)), h.a14]
      rw [if_neg y, if_neg y, if_pos (show w = 5 by omega), if_pos mo.k, mo.f.1, if_pos (mo.r682 (by omega) (by omega)), h.a15]
    · have b := M_ct_104 (d + 31) (w := w) (σ := σ) (by omega) 4 19998 0 c (by omega) (by omega) h
      have e0 : mSet σ (or4 σ.1 0) = zsub (zishl 1 (c 682 1023)) 1 := by
        unfold mSet
        rw [h.a9]
        have := zall_1 ⟨(c 682 1023).toNat, by omega⟩
        rw [show (((⟨(c 682 1023).toNat, by omega⟩ : Fin 9) : Nat) : Int) = c 682 1023 by show ((c 682 1023).toNat : Int) = _; omega] at this
        exact this
      rw [e0] at b
      rw [if_neg e6, if_pos mo.k, zm_senses (d + 38) mo, zbnd_some, if_neg (by omega), if_neg (by omega), if_neg (by omega), if_neg (by omega), if_neg (by omega), if_neg (by omega)]
      by_cases y6 : w = 6
      · subst y6
        rw [if_pos rfl]
        have e4 : σ.1 0 0 + σ.1 0 1 + σ.1 0 2 + σ.1 0 3 = sm4 (fun p => if (6 : Int) = 6 then σ.1 0 p else mRC σ.1 p 0) 4 := by show _ = 0 + σ.1 0 0 + σ.1 0 1 + σ.1 0 2 + σ.1 0 3; omega
        rw [e4]; exact b
      rw [if_neg y6]
      by_cases y7 : w = 7
      · subst y7
        rw [if_pos rfl]
        have e4 : mRC σ.1 0 0 + mRC σ.1 1 0 + mRC σ.1 2 0 + mRC σ.1 3 0 = sm4 (fun p => if (7 : Int) = 6 then σ.1 0 p else mRC σ.1 p 0) 4 := by show _ = 0 + mRC σ.1 0 0 + mRC σ.1 1 0 + mRC σ.1 2 0 + mRC σ.1 3 0; omega
        rw [e4]; exact b
      obtain rfl : w = 8 := by omega
      rw [if_neg y7, if_pos rfl]
      exact b
  · refine MAk.rf h ?_
    rw [if_neg e, if_pos rfl, if_neg (by omega), if_neg (by omega), if_neg (by omega), if_neg (by omega), if_neg (by omega), if_neg (by omega), if_neg (by omega), if_neg (by omega), if_neg (by omega)]
end
