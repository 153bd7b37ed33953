/-! The class's links: asked from the last word. -/
theorem mbas_lev (ap : Nat → Int → Int) (rn : Nat) (w : Int) : ∀ q ∈ mbas ap rn w, 0 ≤ q.2 ∧ q.2 ≤ 2 := by
  have : ∀ r, ∀ q ∈ mm2 ap rn w r, 0 ≤ q.2 ∧ q.2 ≤ 2 := by
    intro r
    induction r with
    | zero =>
      intro q hq
      obtain ⟨t, e, -, h⟩ := mrow_pre ap [(w, 0)] w 1 rn
      have hq : q ∈ mrow ap [(w, 0)] w 1 rn := hq
      rw [e, List.mem_append] at hq
      rcases hq with hq | hq
      · rw [List.mem_singleton] at hq
        rw [hq]; exact ⟨Int.le_refl 0, show (0 : Int) ≤ 2 by decide⟩
      · rw [h q hq]; decide
    | succ r ih =>
      intro q hq
      have hq : q ∈ (if ap r w = 0 then mm2 ap rn w r else mrow ap (mm2 ap rn w r) (ap r w) 2 rn) := hq
      split at hq
      · exact ih q hq
      · obtain ⟨t, e, -, h⟩ := mrow_pre ap (mm2 ap rn w r) (ap r w) 2 rn
        rw [e, List.mem_append] at hq
        rcases hq with hq | hq
        · exact ih q hq
        · rw [h q hq]; decide
  exact this rn
theorem mHd_ok (A : zA2) (p i : Int) : mHd A p i = (0, -5) ∨ 0 ≤ (mHd A p i).2 ∧ (mHd A p i).2 ≤ 2 ∧ mIsH A (mHd A p i).1 = true := by
  unfold mHd
  cases e : (mBL A p i).find? (fun q => mIsH A q.1) with
  | none => exact Or.inl rfl
  | some q =>
    have h1 := mbas_lev _ _ _ q (List.mem_of_find?_eq_some e)
    have h2 := List.find?_some e
    exact Or.inr ⟨h1.1, h1.2, h2⟩
theorem mCh_zero {A : zA2} {p i : Int} {n : Nat} (h : ∀ s : Nat, s < n → A 10 (s : Int) ≠ (mHd A p i).1) : mCh A p i n = (0, -5, -5) := by
  induction n with
  | zero => rfl
  | succ n ih =>
    show (if A 10 (n : Int) = (mHd A p i).1 then _ else mCh A p i n) = _
    rw [if_neg (h n (by omega)), ih (fun s hs => h s (by omega))]
theorem mSta_iff {A : zA2} {p i : Int} (hs : SnOK A) : mSta A p i = 0 ↔ ¬ (mMe A p i).1 = -5 ∧ ¬ (0 ≤ (mMe A p i).1 ∧ A 13 (mMe A p i).1 = p) := by
  have hl : (mHd A p i).2 = -5 → (mMe A p i).1 = -5 := by
    intro e
    rcases mHd_ok A p i with h | h
    · have : mCh A p i (A 9 0).toNat = (0, -5, -5) := mCh_zero (fun s hs2 => by rw [h]; exact hs.2 s (by omega) (by omega))
      unfold mMe
      rw [this]; rfl
    · omega
  have hm := mMe_ok A p i
  unfold mSta
  by_cases e1 : (mHd A p i).2 = -5
  · rw [if_pos e1]
    exact ⟨fun q => absurd q (by decide), fun q => absurd (hl e1) q.1⟩
  · rw [if_neg e1]
    by_cases e2 : (mMe A p i).1 = -5
    · rw [if_pos e2]
      exact ⟨fun q => absurd q (by decide), fun q => absurd e2 q.1⟩
    · rw [if_neg e2]
      by_cases e3 : A 13 (mMe A p i).1 = p
      · rw [if_pos e3]
        exact ⟨fun q => absurd q (by decide), fun q => absurd ⟨by omega, e3⟩ q.2⟩
      · rw [if_neg e3]
        exact ⟨fun _ => ⟨e2, fun q => e3 q.2⟩, fun _ => rfl⟩
def KM (c : zC) (K : Int) (A : zA2) (p : Int) : Prop := ∀ j : Nat, (j : Int) < A 0 p → c (K + 9) j = 0 ∨ c (K + 9) j = (if mR A p (A 1 p) (-1) j = 0 then 1 else 2)
section
variable {K p : Int} {A : zA2} (d : Nat)
theorem zs_K_as_l (hpg : PgOK A p) {i : Nat} (hi : (i : Int) < A 0 p) {dep : Int} (hdep : 0 ≤ dep ∧ dep + i ≤ 20)
    (IH : ∀ j : Nat, j < i → ∀ c, KOK c K A p → KM c K A p → ∃ c', zrun zTab (d + i + 1) 40 [K, (j : Int), dep + 1] c = some (if mR A p (A 1 p) (-1) j = 0 then 1 else 0, c') ∧ KP c c' K (K + 9) ∧ KM c' K A p)
    (h0 : Int) (hh0 : h0 = 0 ∨ h0 = 1) : ∀ (m F : Nat) (c : zC) (links latest hin : Int), KOK c K A p → KM c K A p → m ≤ i → m + 2 ≤ F → links + mCnt (mRs A p (A 1 p) (-1) i) (-1) m = mCnt (mRs A p (A 1 p) (-1) i) (-1) i → 0 ≤ links →
    (latest = -5 ∧ mLast (mRs A p (A 1 p) (-1) i) (-1) i = mLast (mRs A p (A 1 p) (-1) i) (-1) m ∨ latest = mLast (mRs A p (A 1 p) (-1) i) (-1) i ∧ (m : Int) ≤ latest ∧ latest < i) →
    (hin = 0 ∨ hin = 1) → (hin = 1 ↔ h0 = 1 ∨ ∃ k : Nat, m ≤ k ∧ k < i ∧ mLk (mRs A p (A 1 p) (-1) i) (-1) k = true ∧ (mMe A p k).1 = (mMe A p i).1 ∧ A 2 (20 * p + k) = A 2 (20 * p + i)) →
    ∃ c' v, zex zc_X3_asksAhead zk_X3_asksAhead (zrun zTab (d + i + 1)) (F + 1) 94 [(2, K), (0, (i : Int)), (0, dep), (0, links), (0, latest), (0, hin), (0, (m : Int) - 1), (3, 0)] [] c = some (v, zup c' (K + 9) i (if v = 1 then 1 else 2)) ∧ (v = 0 ∨ v = 1) ∧ (v = 1 ↔ h0 = 0 ∧ mTwin A p (mRs A p (A 1 p) (-1) i) (-1) i = false ∧ ¬ (mLast (mRs A p (A 1 p) (-1) i) (-1) i ≠ -5 ∧ (i : Int) - mLast (mRs A p (A 1 p) (-1) i) (-1) i - 1 < A 15 0) ∧ ¬ (A 1 p ≤ mCnt (mRs A p (A 1 p) (-1) i) (-1) i)) ∧ KP c c' K (K + 9) ∧ KM c' K A p := by
  intro m
  induction m with
  | zero =>
    intro F c links latest hin hk hM hm hF hl hl0 hla hh hhi
    have hla' : latest = mLast (mRs A p (A 1 p) (-1) i) (-1) i := by
      rcases hla with q | q
      · rw [q.1, q.2]; rfl
      · exact q.1
    have hl' : links = mCnt (mRs A p (A 1 p) (-1) i) (-1) i := by
      have : mCnt (mRs A p (A 1 p) (-1) i) (-1) 0 = 0 := rfl
      omega
    have htw : (hin = 1 ↔ h0 = 1 ∨ mTwin A p (mRs A p (A 1 p) (-1) i) (-1) i = true) := by
      rw [hhi, mTwin_iff (Nat.le_refl i)]
      constructor
      · rintro (q | ⟨k, -, k2, k3, k4, k5⟩)
        · exact Or.inl q
        · exact Or.inr ⟨k, k2, k3, k4, k5⟩
      · rintro (q | ⟨k, k2, k3, k4, k5⟩)
        · exact Or.inl q
        · exact Or.inr ⟨k, by omega, k2, k3, k4, k5⟩
    obtain ⟨F, rfl⟩ : ∃ G, F = G + 1 + 1 := ⟨F - 2, by omega⟩
    have h1 := hk.1.2.1
    have hn := hk.1.2.2.2.2.2
    have f8 := hk.1.2.2.1.2.2.2.2.2.2.2.2.1
    have a9 := hk.1.2.2.2.1.2.2.2.2.2.2.2.2.1
    have hlr := mLast_le (mRs A p (A 1 p) (-1) i) (-1) i
    have hx : c (K + 9) (-1) = 100 ∧ (0 : Int) ≤ (i : Int) ∧ (i : Int) < c (K + 9) (-2) := ⟨a9.1, by omega, by rw [a9.2]; omega⟩
    have fin : ∀ s1 : Int, (s1 = 0 ∨ s1 = 1) → (s1 = 1 ↔ (mLast (mRs A p (A 1 p) (-1) i) (-1) i ≠ -5 ∧ (i : Int) - mLast (mRs A p (A 1 p) (-1) i) (-1) i - 1 < A 15 0)) → ∃ c' v, zex zc_X3_asksAhead zk_X3_asksAhead (zrun zTab (d + i + 1)) (F + 1 + 1) 206 [(2, K), (0, (i : Int)), (3, 0), (0, links), (3, 0), (0, hin), (3, 0), (3, 0)] [(0, s1)] c = some (v, zup c' (K + 9) i (if v = 1 then 1 else 2)) ∧ (v = 0 ∨ v = 1) ∧ (v = 1 ↔ h0 = 0 ∧ mTwin A p (mRs A p (A 1 p) (-1) i) (-1) i = false ∧ ¬ (mLast (mRs A p (A 1 p) (-1) i) (-1) i ≠ -5 ∧ (i : Int) - mLast (mRs A p (A 1 p) (-1) i) (-1) i - 1 < A 15 0) ∧ ¬ (A 1 p ≤ mCnt (mRs A p (A 1 p) (-1) i) (-1) i)) ∧ KP c c' K (K + 9) ∧ KM c' K A p := by
      intro s1 hs1 hs1'
      have out : zex zc_X3_asksAhead zk_X3_asksAhead (zrun zTab (d + i + 1)) (F + 1) 226 [(2, K), (0, (i : Int)), (3, 0), (3, 0), (3, 0), (3, 0), (3, 0), (3, 0)] [] c = some (0, zup c (K + 9) i 2) := by
        rw [ze_X3_asksAhead_226, if_pos h1, f8, if_pos hx]
      rw [hl', ← hs1']
      refine ⟨c, if hin = 0 ∧ s1 = 0 ∧ mCnt (mRs A p (A 1 p) (-1) i) (-1) i < A 1 p then 1 else 0, ?_, ?_, ?_, KP.rf c K _, hM⟩
      · rw [ze_X3_asksAhead_206]
        by_cases q1 : hin = 0
        · rw [if_pos q1]
          by_cases q2 : s1 = 0
          · rw [if_pos q2, if_pos h1, hk.2.2.2.2.2.2.1]
            by_cases e : mCnt (mRs A p (A 1 p) (-1) i) (-1) i < A 1 p
            · rw [if_pos e, if_pos h1, f8, if_pos hx, if_pos ⟨q1, q2, e⟩, if_pos rfl]
            · rw [if_neg e, out, if_neg (fun q => e q.2.2), if_neg (by decide)]
          · rw [if_neg q2, out, if_neg (fun q => q2 q.2.1), if_neg (by decide)]
        · rw [if_neg q1, out, if_neg (fun q => q1 q.1), if_neg (by decide)]
      · split
        · exact Or.inr rfl
        · exact Or.inl rfl
      · have ht : mTwin A p (mRs A p (A 1 p) (-1) i) (-1) i = true ∨ mTwin A p (mRs A p (A 1 p) (-1) i) (-1) i = false := by
          cases mTwin A p (mRs A p (A 1 p) (-1) i) (-1) i <;> simp
        split
        · rename_i q
          refine ⟨fun _ => ⟨?_, ?_, by omega, by omega⟩, fun _ => rfl⟩
          · rcases hh0 with r | r
            · exact r
            · exact absurd (htw.mpr (Or.inl r)) (by omega)
          · rcases ht with r | r
            · exact absurd (htw.mpr (Or.inr r)) (by omega)
            · exact r
        · rename_i q
          refine ⟨fun q2 => absurd q2 (by decide), fun q2 => ?_⟩
          exfalso
          apply q
          refine ⟨?_, by omega, by omega⟩
          rcases hh with r | r
          · exact r
          · exfalso
            rcases htw.mp r with r | r
            · omega
            · rw [q2.2.1] at r; exact absurd r (by decide)
    rw [ze_X3_asksAhead_94, if_pos (by omega)]
    by_cases e1 : latest = -5
    · rw [if_pos e1]
      exact fin 0 (Or.inl rfl) ⟨fun q => absurd q (by decide), fun q => absurd (hla'.symm.trans e1) q.1⟩
    · rw [if_neg e1, if_pos h1, hk.2.2.2.2.2.1, zsub_id (x := (i : Int)) (y := latest) (by omega) (by omega), zsub_id (by omega) (by omega)]
      by_cases e2 : (i : Int) - latest - 1 < A 15 0
      · rw [if_pos e2]
        exact fin 1 (Or.inr rfl) ⟨fun _ => by rw [← hla']; exact ⟨e1, e2⟩, fun _ => rfl⟩
      · rw [if_neg e2]
        exact fin 0 (Or.inl rfl) ⟨fun q => absurd q (by decide), fun q => by rw [← hla'] at q; exact absurd q.2 e2⟩
  | succ m ih =>
    intro F c links latest hin hk hM hm hF hl hl0 hla hh hhi
    obtain ⟨F, rfl⟩ : ∃ G, F = G + 1 := ⟨F - 1, by omega⟩
    obtain ⟨c2, r1, r2, r3⟩ := IH m (by omega) c hk hM
    have hk2 := r2.ok hk
    have hn := hk.1.2.2.2.2.2
    have h1 := hk2.1.2.1
    have hlk : mLk (mRs A p (A 1 p) (-1) i) (-1) m = true ↔ mR A p (A 1 p) (-1) m = 0 := by
      rw [mLk_iff]
      exact ⟨fun q => q.2.1, fun q => ⟨by omega, q, by omega⟩⟩
    have hc : mCnt (mRs A p (A 1 p) (-1) i) (-1) (m + 1) = mCnt (mRs A p (A 1 p) (-1) i) (-1) m + (if mLk (mRs A p (A 1 p) (-1) i) (-1) m = true then 1 else 0) := rfl
    have hL : mLast (mRs A p (A 1 p) (-1) i) (-1) (m + 1) = if mLk (mRs A p (A 1 p) (-1) i) (-1) m = true then (m : Int) else mLast (mRs A p (A 1 p) (-1) i) (-1) m := rfl
    have hcl := mCnt_le (mRs A p (A 1 p) (-1) i) (-1) m
    have hci := mCnt_le (mRs A p (A 1 p) (-1) i) (-1) i
    rw [ze_X3_asksAhead_94, if_neg (by omega), show ((m + 1 : Nat) : Int) - 1 = (m : Int) by omega, zadd_id (by omega) (by omega), r1, zbnd_some]
    by_cases e : mR A p (A 1 p) (-1) m = 0
    · have el := hlk.mpr e
      rw [if_pos el] at hc hL
      have w := hk2.wd.2.2
      have hmx : zmax latest m = (if latest = -5 then (m : Int) else latest) := by unfold zmax; grind
      rw [if_pos e, if_neg (by decide), if_pos h1, zs_K_sectionAt (d + i) hk2.1, zbnd_some, if_pos (show 0 ≤ (m : Int) ∧ (m : Int) < A 0 p by omega), if_pos h1, zs_K_sectionAt (d + i) hk2.1, zbnd_some, if_pos (show 0 ≤ (i : Int) ∧ (i : Int) < A 0 p by omega), (w m (by omega)).1, (w i (by omega)).1, zw_id' (by omega) (by omega), zw_id' (by omega) (by omega), hmx, show (m : Int) + -1 = (m : Int) - 1 by omega]
      have hla2 : ((if latest = -5 then (m : Int) else latest) = -5 ∧ mLast (mRs A p (A 1 p) (-1) i) (-1) i = mLast (mRs A p (A 1 p) (-1) i) (-1) m ∨ (if latest = -5 then (m : Int) else latest) = mLast (mRs A p (A 1 p) (-1) i) (-1) i ∧ (m : Int) ≤ (if latest = -5 then (m : Int) else latest) ∧ (if latest = -5 then (m : Int) else latest) < i) := by
        right
        rcases hla with q | q
        · rw [if_pos q.1]; exact ⟨by rw [q.2, hL], by omega, by omega⟩
        · rw [if_neg (by omega)]; exact ⟨q.1, by omega, q.2.2⟩
      have step : ∀ h2 : Int, (h2 = 0 ∨ h2 = 1) → (h2 = 1 ↔ hin = 1 ∨ (A 2 (20 * p + m) = A 2 (20 * p + i) ∧ (mMe A p m).1 = (mMe A p i).1)) → ∃ c' v, zex zc_X3_asksAhead zk_X3_asksAhead (zrun zTab (d + i + 1)) (F + 1) 94 [(2, K), (0, (i : Int)), (0, dep), (0, links + 1), (0, if latest = -5 then (m : Int) else latest), (0, h2), (0, (m : Int) - 1), (3, 0)] [] c2 = some (v, zup c' (K + 9) i (if v = 1 then 1 else 2)) ∧ (v = 0 ∨ v = 1) ∧ (v = 1 ↔ h0 = 0 ∧ mTwin A p (mRs A p (A 1 p) (-1) i) (-1) i = false ∧ ¬ (mLast (mRs A p (A 1 p) (-1) i) (-1) i ≠ -5 ∧ (i : Int) - mLast (mRs A p (A 1 p) (-1) i) (-1) i - 1 < A 15 0) ∧ ¬ (A 1 p ≤ mCnt (mRs A p (A 1 p) (-1) i) (-1) i)) ∧ KP c c' K (K + 9) ∧ KM c' K A p := by
        intro h2 hb hq
        obtain ⟨c', v, a1, a2, a3, a4, a5⟩ := ih F c2 (links + 1) _ h2 hk2 r3 (by omega) (by omega) (by omega) (by omega) hla2 hb (by
          rw [hq]
          constructor
          · rintro (q | q)
            · rcases hhi.mp q with q | ⟨k, k1, k2⟩
              · exact Or.inl q
              · exact Or.inr ⟨k, by omega, k2⟩
            · exact Or.inr ⟨m, by omega, by omega, el, q.2, q.1⟩
          · rintro (q | ⟨k, k1, k2⟩)
            · exact Or.inl (hhi.mpr (Or.inl q))
            · by_cases e3 : k = m
              · subst e3; exact Or.inr ⟨k2.2.2.2, k2.2.2.1⟩
              · exact Or.inl (hhi.mpr (Or.inr ⟨k, by omega, k2⟩)))
        exact ⟨c', v, a1, a2, a3, r2.tr a4, a5⟩
      by_cases e3 : A 2 (20 * p + m) = A 2 (20 * p + i)
      · rw [if_pos e3]
        by_cases q0 : hin = 0
        · rw [if_pos q0, if_pos h1, zs_K_meantAt (d + i) hk2.1, zbnd_some, if_pos (show 0 ≤ (m : Int) ∧ (m : Int) < A 0 p by omega), if_pos h1, zs_K_meantAt (d + i) hk2.1, zbnd_some, if_pos (show 0 ≤ (i : Int) ∧ (i : Int) < A 0 p by omega), (w m (by omega)).2.2.1, (w i (by omega)).2.2.1]
          by_cases e4 : (mMe A p m).1 = (mMe A p i).1
          · rw [if_pos e4]
            exact step 1 (Or.inr rfl) ⟨fun _ => Or.inr ⟨e3, e4⟩, fun _ => rfl⟩
          · rw [if_neg e4]
            exact step 0 (Or.inl rfl) ⟨fun q => absurd q (by decide), fun q => by
              rcases q with q | q
              · omega
              · exact absurd q.2 e4⟩
        · rw [if_neg q0]
          exact step 1 (Or.inr rfl) ⟨fun _ => Or.inl (hh.resolve_left q0), fun _ => rfl⟩
      · rw [if_neg e3]
        by_cases q0 : hin = 0
        · rw [if_pos q0]
          exact step 0 (Or.inl rfl) ⟨fun q => absurd q (by decide), fun q => by
            rcases q with q | q
            · omega
            · exact absurd q.1 e3⟩
        · rw [if_neg q0]
          exact step 1 (Or.inr rfl) ⟨fun _ => Or.inl (hh.resolve_left q0), fun _ => rfl⟩
    · have el : ¬ mLk (mRs A p (A 1 p) (-1) i) (-1) m = true := fun q => e (hlk.mp q)
      rw [if_neg el] at hc hL
      rw [if_neg e, if_pos rfl, zw_id' (by omega) (by omega), show (m : Int) + -1 = (m : Int) - 1 by omega]
      obtain ⟨c', v, a1, a2, a3, a4, a5⟩ := ih F c2 links latest hin hk2 r3 (by omega) (by omega) (by omega) (by omega) (by
        rcases hla with q | q
        · exact Or.inl ⟨q.1, by rw [q.2, hL]⟩
        · exact Or.inr ⟨q.1, by omega, q.2.2⟩) hh (by
        rw [hhi]
        constructor
        · rintro (q | ⟨k, k1, k2⟩)
          · exact Or.inl q
          · exact Or.inr ⟨k, by omega, k2⟩
        · rintro (q | ⟨k, k1, k2⟩)
          · exact Or.inl q
          · by_cases e3 : k = m
            · subst e3; exact absurd k2.2.1 el
            · exact Or.inr ⟨k, by omega, k2⟩)
      exact ⟨c', v, a1, a2, a3, r2.tr a4, a5⟩
theorem zs_K_asksAhead (hpg : PgOK A p) (hsn : SnOK A) : ∀ (i : Nat), (i : Int) < A 0 p → ∀ (d : Nat) (dep : Int) (c : zC), 0 ≤ dep → dep + i ≤ 20 → KOK c K A p → KM c K A p → ∃ c', zrun zTab (d + i + 2) 40 [K, (i : Int), dep] c = some (if mR A p (A 1 p) (-1) i = 0 then 1 else 0, c') ∧ KP c c' K (K + 9) ∧ KM c' K A p := by
  intro i
  induction i using Nat.strongRecOn with
  | _ i IH =>
    intro hi d dep c d0 d1 hk hM
    have hK0 := hk.1.1
    have h1 := hk.1.2.1
    have hn := hk.1.2.2.2.2.2
    have f8 := hk.1.2.2.1.2.2.2.2.2.2.2.2.1
    have a9 := hk.1.2.2.2.1.2.2.2.2.2.2.2.2.1
    have w := hk.wd.2.2 i hi
    have hm := mMe_ok A p i
    have hi2 : 0 ≤ (i : Int) ∧ (i : Int) < A 0 p := ⟨by omega, hi⟩
    have hx : c (K + 9) (-1) = 100 ∧ (0 : Int) ≤ (i : Int) ∧ (i : Int) < 20 := ⟨a9.1, by omega, by omega⟩
    rw [show d + i + 2 = (d + i + 1) + 1 by omega, ze_X3_asksAhead, if_neg (by omega), if_pos (by omega), if_neg (by omega), if_pos h1, hk.1.2.2.2.2.1, if_pos hi, if_pos h1, f8, if_pos a9.1, a9.2, if_pos (by omega), if_pos h1, if_pos hx]
    by_cases e : c (K + 9) i = 0
    · have key : ∀ h0 : Int, (h0 = 0 ∨ h0 = 1) → (h0 = 0 ↔ mSta A p i = 0) → ∃ c', zex zc_X3_asksAhead zk_X3_asksAhead (zrun zTab (d + i + 1)) 19999 94 [(2, K), (0, (i : Int)), (0, dep), (0, 0), (0, -5), (0, h0), (0, (i : Int) - 1), (3, 0)] [] c = some (if mR A p (A 1 p) (-1) i = 0 then 1 else 0, c') ∧ KP c c' K (K + 9) ∧ KM c' K A p := by
        intro h0 hh0 hs0
        obtain ⟨c', v, r1, r2, r3, r4, r5⟩ := zs_K_as_l d hpg hi ⟨d0, d1⟩ (fun j hj c hk hM => by
          have := IH j hj (by omega) (d + (i - 1 - j)) (dep + 1) c (by omega) (by omega) hk hM
          rw [show d + (i - 1 - j) + j + 2 = d + i + 1 by omega] at this
          exact this) h0 hh0 i 19998 c 0 (-5) h0 hk hM (Nat.le_refl i) (by omega) (by omega) (by omega) (Or.inl ⟨rfl, rfl⟩) hh0 ⟨fun q => Or.inl q, fun q => by
          rcases q with q | ⟨k, k1, k2, -⟩
          · exact q
          · omega⟩
        have hv : v = 1 ↔ mR A p (A 1 p) (-1) i = 0 := by
          rw [r3, mR_eq, hs0]
          unfold mRe
          by_cases e1 : mSta A p i = 0
          · rw [if_neg (not_not_intro e1)]
            cases e2 : mTwin A p (mRs A p (A 1 p) (-1) i) (-1) i with
            | true => simp
            | false =>
              rw [if_neg (by decide)]
              by_cases e3 : mLast (mRs A p (A 1 p) (-1) i) (-1) i ≠ -5 ∧ (i : Int) - mLast (mRs A p (A 1 p) (-1) i) (-1) i - 1 < A 15 0
              · rw [if_pos e3]
                exact ⟨fun q => absurd e3 q.2.2.1, fun q => absurd q (by decide)⟩
              · rw [if_neg e3]
                by_cases e4 : A 1 p ≤ mCnt (mRs A p (A 1 p) (-1) i) (-1) i
                · rw [if_pos e4]
                  exact ⟨fun q => absurd e4 q.2.2.2, fun q => absurd q (by decide)⟩
                · rw [if_neg e4]
                  exact ⟨fun _ => rfl, fun _ => ⟨e1, rfl, e3, e4⟩⟩
          · rw [if_pos e1]
            exact ⟨fun q => absurd q.1 e1, fun q => absurd q e1⟩
        have k : KP c (zup c' (K + 9) i (if v = 1 then 1 else 2)) K (K + 9) := r4.up (Or.inl rfl) (by omega)
        refine ⟨_, r1.trans ?_, k, fun j hj => ?_⟩
        · have : v = (if mR A p (A 1 p) (-1) i = 0 then 1 else 0) := by
            by_cases q : mR A p (A 1 p) (-1) i = 0
            · rw [if_pos q]; exact hv.mpr q
            · rw [if_neg q]
              rcases r2 with r | r
              · exact r
              · exact absurd (hv.mp r) q
          rw [← this]
        · by_cases q : j = i
          · subst q
            rw [zup_eq ⟨rfl, rfl⟩]
            right
            by_cases q : mR A p (A 1 p) (-1) j = 0
            · rw [if_pos q, if_pos (hv.mpr q)]
            · rw [if_neg q, if_neg (fun r => q (hv.mp r))]
          · rw [zup_ne (by omega)]
            exact r5 j hj
      rw [if_pos e, if_pos h1, zs_K_meantAt (d + i) hk.1, zbnd_some, if_pos hi2, w.2.2.1, zsub_id (by omega) (by omega)]
      by_cases e2 : (mMe A p i).1 = -5
      · rw [if_pos e2]
        exact key 1 (Or.inr rfl) ⟨fun q => absurd q (by decide), fun q => absurd e2 ((mSta_iff hsn).mp q).1⟩
      · rw [if_neg e2, if_pos h1, zs_K_own (d + i) hk.1 (fun j j0 j1 => by
          have := (hk.wd.2.2 j.toNat (by omega)).2.2.2
          rw [show ((j.toNat : Nat) : Int) = j by omega] at this
          rw [this]; split
          · exact Or.inr rfl
          · exact Or.inl rfl), zbnd_some, if_pos hi2, w.2.2.2]
        by_cases e3 : 0 ≤ (mMe A p i).1 ∧ A 13 (mMe A p i).1 = p
        · rw [if_pos e3, if_neg (by decide)]
          exact key 1 (Or.inr rfl) ⟨fun q => absurd q (by decide), fun q => absurd e3 ((mSta_iff hsn).mp q).2⟩
        · rw [if_neg e3, if_pos rfl]
          exact key 0 (Or.inl rfl) ⟨fun _ => (mSta_iff hsn).mpr ⟨e2, e3⟩, fun _ => rfl⟩
    · have hv := (hM i hi).resolve_left e
      refine ⟨c, ?_, KP.rf c K _, hM⟩
      rw [if_neg e, if_pos h1, if_pos hx, hv]
      by_cases q : mR A p (A 1 p) (-1) i = 0
      · rw [if_pos q, if_pos rfl, if_pos q]
      · rw [if_neg q, if_neg (by decide), if_neg q]
theorem zs_K_lf_2 (hpg : PgOK A p) : ∀ (t F x : Nat) (c : zC), KOK c K A p → t ≤ F → x + t = 20 → (∀ j : Nat, j < x → c (K + 9) j = 0) → ∃ c', zex zc_X3_linksFromTheLast zk_X3_linksFromTheLast (zrun zTab d) (F + 1) 2 [(2, K), (0, (x : Int)), (3, 0)] [] c = zex zc_X3_linksFromTheLast zk_X3_linksFromTheLast (zrun zTab d) (F - t) 33 [(2, K), (0, 0), (0, A 0 p - 1)] [] c' ∧ KP c c' K (K + 9) ∧ ∀ j : Nat, j < 20 → c' (K + 9) j = 0 := by
  intro t
  induction t with
  | zero =>
    intro F x c hk hF hx hz
    have f8 := hk.1.2.2.1.2.2.2.2.2.2.2.2.1
    have a9 := hk.1.2.2.2.1.2.2.2.2.2.2.2.2.1
    have hpg1 := hpg.1
    refine ⟨c, ?_, KP.rf c K _, fun j hj => hz j (by omega)⟩
    rw [ze_X3_linksFromTheLast_2, if_pos hk.1.2.1, f8, if_pos a9.1, a9.2, if_neg (by omega), if_pos hk.1.2.1, hk.1.2.2.2.2.1, zsub_id (by omega) (by omega)]
    rfl
  | succ t ih =>
    intro F x c hk hF hx hz
    obtain ⟨F, rfl⟩ : ∃ G, F = G + 1 := ⟨F - 1, by omega⟩
    have f8 := hk.1.2.2.1.2.2.2.2.2.2.2.2.1
    have a9 := hk.1.2.2.2.1.2.2.2.2.2.2.2.2.1
    have k : KP c (zup c (K + 9) x 0) K (K + 9) := (KP.rf c K _).up (Or.inl rfl) (by omega)
    obtain ⟨c', r1, r2, r3⟩ := ih F (x + 1) _ (k.ok hk) (by omega) (by omega) (fun j hj => by
      by_cases e : j = x
      · rw [e, zup_eq ⟨rfl, rfl⟩]
      · rw [zup_ne (by omega)]; exact hz j (by omega))
    refine ⟨c', ?_, k.tr r2, r3⟩
    rw [ze_X3_linksFromTheLast_2, if_pos hk.1.2.1, f8, if_pos a9.1, a9.2, if_pos (by omega), if_pos hk.1.2.1, if_pos (show c (K + 9) (-1) = 100 ∧ (0 : Int) ≤ (x : Int) ∧ (x : Int) < 20 from ⟨a9.1, by omega, by omega⟩), zw_id' (by omega) (by omega), show (x : Int) + 1 = ((x + 1 : Nat) : Int) by omega, r1, show F + 1 - (t + 1) = F - t by omega]
theorem zs_K_lf_33 (hpg : PgOK A p) (hsn : SnOK A) : ∀ (m F : Nat) (c : zC) (s : Int), KOK c K A p → KM c K A p → m ≤ F → (m : Int) ≤ A 0 p → s + zcnt (fun j => mR A p (A 1 p) (-1) j.toNat = 0) m = zcnt (fun j => mR A p (A 1 p) (-1) j.toNat = 0) (A 0 p).toNat → 0 ≤ s → ∃ c', zex zc_X3_linksFromTheLast zk_X3_linksFromTheLast (zrun zTab (d + 22)) (F + 1) 33 [(2, K), (0, s), (0, (m : Int) - 1)] [] c = some (zcnt (fun j => mR A p (A 1 p) (-1) j.toNat = 0) (A 0 p).toNat, c') ∧ KP c c' K (K + 9) := by
  intro m
  induction m with
  | zero =>
    intro F c s hk hM hF hm hs hs0
    refine ⟨c, ?_, KP.rf c K _⟩
    have : zcnt (fun j => mR A p (A 1 p) (-1) j.toNat = 0) 0 = 0 := rfl
    rw [ze_X3_linksFromTheLast_33, if_pos (by omega), show s = zcnt (fun j => mR A p (A 1 p) (-1) j.toNat = 0) (A 0 p).toNat by omega]
  | succ m ih =>
    intro F c s hk hM hF hm hs hs0
    obtain ⟨F, rfl⟩ : ∃ G, F = G + 1 := ⟨F - 1, by omega⟩
    have hpg1 := hpg.1
    have hz : zcnt (fun j => mR A p (A 1 p) (-1) j.toNat = 0) (m + 1) = zcnt (fun j => mR A p (A 1 p) (-1) j.toNat = 0) m + (if mR A p (A 1 p) (-1) m = 0 then 1 else 0) := rfl
    have hz2 := zcnt_le (fun j => mR A p (A 1 p) (-1) j.toNat = 0) (A 0 p).toNat
    have hz3 := zcnt_le (fun j => mR A p (A 1 p) (-1) j.toNat = 0) m
    obtain ⟨c', r1, r2, r3⟩ := zs_K_asksAhead hpg hsn m (by omega) (d + 20 - m) 0 c (by omega) (by omega) hk hM
    rw [show d + 20 - m + m + 2 = d + 22 by omega] at r1
    rw [ze_X3_linksFromTheLast_33, if_neg (by omega), show ((m + 1 : Nat) : Int) - 1 = (m : Int) by omega, r1, zbnd_some, zw_id' (by omega) (by omega), show (m : Int) + -1 = (m : Int) - 1 by omega]
    by_cases e : mR A p (A 1 p) (-1) m = 0
    · rw [if_pos e] at hz
      rw [if_pos e, if_neg (by decide), zadd_id (by omega) (by omega)]
      obtain ⟨c2, q1, q2⟩ := ih F c' (s + 1) (r2.ok hk) r3 (by omega) (by omega) (by omega) (by omega)
      exact ⟨c2, q1, r2.tr q2⟩
    · rw [if_neg e] at hz
      rw [if_neg e, if_pos rfl, zadd_id (by omega) (by omega)]
      obtain ⟨c2, q1, q2⟩ := ih F c' (s + 0) (r2.ok hk) r3 (by omega) (by omega) (by omega) (by omega)
      exact ⟨c2, q1, r2.tr q2⟩
theorem zs_K_linksFromTheLast {c : zC} (hpg : PgOK A p) (hsn : SnOK A) (hk : KOK c K A p) : ∃ c', zrun zTab (d + 23) 39 [K] c = some (zcnt (fun j => mR A p (A 1 p) (-1) j.toNat = 0) (A 0 p).toNat, c') ∧ KP c c' K (K + 9) ∧ KOK c' K A p := by
  have hpg1 := hpg.1
  obtain ⟨c1, q1, q2, q3⟩ := zs_K_lf_2 (d + 22) hpg 20 19998 0 c hk (by omega) (by omega) (fun j hj => by omega)
  have hk1 := q2.ok hk
  obtain ⟨c2, r1, r2⟩ := zs_K_lf_33 d hpg hsn (A 0 p).toNat 19977 c1 0 hk1 (fun j hj => Or.inl (q3 j (by omega))) (by omega) (by omega) (by omega) (by omega)
  rw [show (((A 0 p).toNat : Nat) : Int) - 1 = A 0 p - 1 by omega] at r1
  exact ⟨c2, (ze_X3_linksFromTheLast (d + 22) K c).trans (q1.trans r1), q2.tr r2, (q2.tr r2).ok hk⟩
end
