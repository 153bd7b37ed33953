/-! The class itself: the calls that ask of senses, pages, links, counts. -/
section
variable {c : zC} {σ : aS} {p i k w s : Int} (d : Nat)
theorem KOK.lt {K : Int} {A : zA2} (h : KOK c K A p) (s : Int) : zcnt (fun j => (if c (K + 8) j = 0 then c (K + 5) j else -5) = s) (A 0 p).toNat = mLT A p s := by
  have hn := h.1.2.2.2.2.2
  refine zcnt_congr (fun j hj => ?_)
  have hj2 : (j : Int) < A 0 p := by omega
  unfold mTo
  rw [h.2.2.2.2.1 j hj2, (h.2.2.2.1 j hj).2.2.1, Int.toNat_natCast]
  by_cases e : mR A p (A 1 p) (-1) j = 0
  · rw [if_pos e, if_pos ⟨by omega, hj2, e⟩]
  · rw [if_neg e, if_neg (fun q => e q.2.2)]
theorem KOK.mt {K : Int} {A : zA2} (h : KOK c K A p) (s : Int) : zcnt (fun j => c (K + 5) j = s) (A 0 p).toNat = mMT A p s :=
  zcnt_congr (fun j hj => by rw [(h.2.2.2.1 j hj).2.2.1])
theorem KOK.rc {K : Int} {A : zA2} (h : KOK c K A p) (r : Int) : zcnt (fun j => c (K + 8) j = r) (A 0 p).toNat = mRC A p r := by
  have hn := h.1.2.2.2.2.2
  exact zcnt_congr (fun j hj => by rw [h.2.2.2.2.1 j (by omega), Int.toNat_natCast])
theorem mRC_le (A : zA2) (p r : Int) (h : A 0 p ≤ 20) : 0 ≤ mRC A p r ∧ mRC A p r ≤ 20 := by have := zcnt_le (fun j => mR A p (A 1 p) (-1) j.toNat = r) (A 0 p).toNat; unfold mRC; omega
theorem mLT_le (A : zA2) (p r : Int) (h : A 0 p ≤ 20) : 0 ≤ mLT A p r ∧ mLT A p r ≤ 20 := by have := zcnt_le (fun j => mTo A p j = r) (A 0 p).toNat; unfold mLT; omega
theorem mMT_le (A : zA2) (p r : Int) (h : A 0 p ≤ 20) : 0 ≤ mMT A p r ∧ mMT A p r ≤ 20 := by have := zcnt_le (fun j => (mMe A p j).1 = r) (A 0 p).toNat; unfold mMT; omega
/-- sums over the pages -/
def sm4 (f : Int → Int) : Nat → Int
  | 0 => 0
  | n + 1 => sm4 f n + f n
theorem sm4_le {f : Int → Int} (h : ∀ p, isP p → 0 ≤ f p ∧ f p ≤ 20) : ∀ n : Nat, n ≤ 4 → 0 ≤ sm4 f n ∧ sm4 f n ≤ 20 * n := by
  intro n
  induction n with
  | zero => intro _; exact ⟨Int.le_refl _, Int.le_refl _⟩
  | succ n ih =>
    intro hn
    have a := ih (by omega)
    have b := h n ⟨by omega, by omega⟩
    show 0 ≤ sm4 f n + f n ∧ sm4 f n + f n ≤ 20 * ((n + 1 : Nat) : Int)
    omega
theorem G_lonp (h : RC c σ) (hv : VOK σ.1) (hp : isP p) : GQ c σ (zrun zTab (d + 8) 131 [2, s, p] c) (mLT σ.1 p s) := by
  obtain ⟨c2, r1, r2, r3, r4, -⟩ := G_link (d + 2) h hv hp
  refine ⟨c2, ?_, r2, r4⟩
  rw [ze_X11_linkedOnPage, if_pos h.1.1.1, r1, zbnd_some, if_neg (by have := hp.1; omega), if_pos r3.1.2.1, zs_K_wordsLinkedTo (d + 4) r3.1, zbnd_some, r3.lt]
theorem G_loap_l (hv : VOK σ.1) : ∀ (t F i : Nat) (c : zC), RC c σ → t ≤ F → i + t = 4 → GQ c σ (zex zc_X11_linkedOnAllPages zk_X11_linkedOnAllPages (zrun zTab (d + 7)) (F + 1) 4 [(2, 2), (0, s), (0, sm4 (fun p => mLT σ.1 p s) i), (0, (i : Int)), (3, 0)] [] c) (sm4 (fun p => mLT σ.1 p s) 4) := by
  intro t
  induction t with
  | zero =>
    intro F i c h hF hi
    refine GQ.rf h ?_
    rw [ze_X11_linkedOnAllPages_4, if_neg (by omega), show i = 4 by omega]
  | succ t ih =>
    intro F i c h hF hi
    obtain ⟨F, rfl⟩ : ∃ G, F = G + 1 := ⟨F - 1, by omega⟩
    have hp : isP (i : Int) := ⟨by omega, by omega⟩
    obtain ⟨c2, r1, r2, r3, r4, -⟩ := G_link (d + 2) h hv hp
    have b1 := sm4_le (f := fun p => mLT σ.1 p s) (fun p hp => mLT_le _ _ _ (hv.1 p hp.1 hp.2).1.2) i (by omega)
    have b2 := mLT_le σ.1 i s (hv.1 i hp.1 hp.2).1.2
    obtain ⟨c3, q1, q2, q3⟩ := ih F (i + 1) c2 r2 (by omega) (by omega)
    refine ⟨c3, ?_, q2, r4.tr q3⟩
    rw [ze_X11_linkedOnAllPages_4, if_pos (by omega), if_pos h.1.1.1, r1, zbnd_some, if_neg (by omega), if_pos r3.1.2.1, zs_K_wordsLinkedTo (d + 4) r3.1, zbnd_some, r3.lt, zadd_id (by omega) (by omega), zw_id' (by omega) (by omega), show (i : Int) + 1 = ((i + 1 : Nat) : Int) by omega]
    exact q1
theorem G_loap (h : RC c σ) (hv : VOK σ.1) : GQ c σ (zrun zTab (d + 8) 132 [2, s] c) (mLT σ.1 0 s + mLT σ.1 1 s + mLT σ.1 2 s + mLT σ.1 3 s) := by
  have := G_loap_l (s := s) d hv 4 19998 0 c h (by omega) (by omega)
  rw [show mLT σ.1 0 s + mLT σ.1 1 s + mLT σ.1 2 s + mLT σ.1 3 s = sm4 (fun p => mLT σ.1 p s) 4 by show _ = 0 + mLT σ.1 0 s + mLT σ.1 1 s + mLT σ.1 2 s + mLT σ.1 3 s; omega, ze_X11_linkedOnAllPages]
  exact this
theorem G_moap_l (hv : VOK σ.1) : ∀ (t F i : Nat) (c : zC), RC c σ → t ≤ F → i + t = 4 → GQ c σ (zex zc_X11_meantOnAllPages zk_X11_meantOnAllPages (zrun zTab (d + 7)) (F + 1) 4 [(2, 2), (0, s), (0, sm4 (fun p => mMT σ.1 p s) i), (0, (i : Int)), (3, 0)] [] c) (sm4 (fun p => mMT σ.1 p s) 4) := by
  intro t
  induction t with
  | zero =>
    intro F i c h hF hi
    refine GQ.rf h ?_
    rw [ze_X11_meantOnAllPages_4, if_neg (by omega), show i = 4 by omega]
  | succ t ih =>
    intro F i c h hF hi
    obtain ⟨F, rfl⟩ : ∃ G, F = G + 1 := ⟨F - 1, by omega⟩
    have hp : isP (i : Int) := ⟨by omega, by omega⟩
    obtain ⟨c2, r1, r2, r3, r4, -⟩ := G_link (d + 2) h hv hp
    have b1 := sm4_le (f := fun p => mMT σ.1 p s) (fun p hp => mMT_le _ _ _ (hv.1 p hp.1 hp.2).1.2) i (by omega)
    have b2 := mMT_le σ.1 i s (hv.1 i hp.1 hp.2).1.2
    obtain ⟨c3, q1, q2, q3⟩ := ih F (i + 1) c2 r2 (by omega) (by omega)
    refine ⟨c3, ?_, q2, r4.tr q3⟩
    rw [ze_X11_meantOnAllPages_4, if_pos (by omega), if_pos h.1.1.1, r1, zbnd_some, if_neg (by omega), if_pos r3.1.2.1, zs_K_wordsThatMean (d + 5) r3.1, zbnd_some, r3.mt, zadd_id (by omega) (by omega), zw_id' (by omega) (by omega), show (i : Int) + 1 = ((i + 1 : Nat) : Int) by omega]
    exact q1
theorem G_moap (h : RC c σ) (hv : VOK σ.1) : GQ c σ (zrun zTab (d + 8) 133 [2, s] c) (mMT σ.1 0 s + mMT σ.1 1 s + mMT σ.1 2 s + mMT σ.1 3 s) := by
  have := G_moap_l (s := s) d hv 4 19998 0 c h (by omega) (by omega)
  rw [show mMT σ.1 0 s + mMT σ.1 1 s + mMT σ.1 2 s + mMT σ.1 3 s = sm4 (fun p => mMT σ.1 p s) 4 by show _ = 0 + mMT σ.1 0 s + mMT σ.1 1 s + mMT σ.1 2 s + mMT σ.1 3 s; omega, ze_X11_meantOnAllPages]
  exact this
theorem G_lkap_l (hv : VOK σ.1) : ∀ (t F i : Nat) (c : zC), RC c σ → t ≤ F → i + t = 4 → GQ c σ (zex zc_X11_linksOfAllPages zk_X11_linksOfAllPages (zrun zTab (d + 7)) (F + 1) 4 [(2, 2), (0, sm4 (fun p => mRC σ.1 p 0) i), (0, (i : Int)), (3, 0)] [] c) (sm4 (fun p => mRC σ.1 p 0) 4) := by
  intro t
  induction t with
  | zero =>
    intro F i c h hF hi
    refine GQ.rf h ?_
    rw [ze_X11_linksOfAllPages_4, if_neg (by omega), show i = 4 by omega]
  | succ t ih =>
    intro F i c h hF hi
    obtain ⟨F, rfl⟩ : ∃ G, F = G + 1 := ⟨F - 1, by omega⟩
    have hp : isP (i : Int) := ⟨by omega, by omega⟩
    obtain ⟨c2, r1, r2, r3, r4, -⟩ := G_link (d + 2) h hv hp
    have b1 := sm4_le (f := fun p => mRC σ.1 p 0) (fun p hp => mRC_le _ _ _ (hv.1 p hp.1 hp.2).1.2) i (by omega)
    have b2 := mRC_le σ.1 i 0 (hv.1 i hp.1 hp.2).1.2
    obtain ⟨c3, q1, q2, q3⟩ := ih F (i + 1) c2 r2 (by omega) (by omega)
    refine ⟨c3, ?_, q2, r4.tr q3⟩
    rw [ze_X11_linksOfAllPages_4, if_pos (by omega), if_pos h.1.1.1, r1, zbnd_some, if_neg (by omega), if_pos r3.1.2.1, zs_K_wordsWithReason (d + 5) r3.1, zbnd_some, r3.rc, zadd_id (by omega) (by omega), zw_id' (by omega) (by omega), show (i : Int) + 1 = ((i + 1 : Nat) : Int) by omega]
    exact q1
theorem G_lkap (h : RC c σ) (hv : VOK σ.1) : GQ c σ (zrun zTab (d + 8) 135 [2] c) (mRC σ.1 0 0 + mRC σ.1 1 0 + mRC σ.1 2 0 + mRC σ.1 3 0) := by
  have := G_lkap_l d hv 4 19998 0 c h (by omega) (by omega)
  rw [show mRC σ.1 0 0 + mRC σ.1 1 0 + mRC σ.1 2 0 + mRC σ.1 3 0 = sm4 (fun p => mRC σ.1 p 0) 4 by show _ = 0 + mRC σ.1 0 0 + mRC σ.1 1 0 + mRC σ.1 2 0 + mRC σ.1 3 0; omega, ze_X11_linksOfAllPages]
  exact this
theorem G_wap_l (hv : VOK σ.1) (h : RC c σ) : ∀ (t F i : Nat), t ≤ F → i + t = 4 → zex zc_X11_wordsOfAllPages zk_X11_wordsOfAllPages (zrun zTab (d + 1)) (F + 1) 4 [(2, 2), (0, sm4 (σ.1 0) i), (0, (i : Int)), (3, 0)] [] c = some (sm4 (σ.1 0) 4, c) := by
  intro t
  induction t with
  | zero =>
    intro F i hF hi
    rw [ze_X11_wordsOfAllPages_4, if_neg (by omega), show i = 4 by omega]
  | succ t ih =>
    intro F i hF hi
    obtain ⟨F, rfl⟩ : ∃ G, F = G + 1 := ⟨F - 1, by omega⟩
    have hp : isP (i : Int) := ⟨by omega, by omega⟩
    obtain ⟨⟨⟨h1, f0, f1, -⟩, -, ⟨s1, -⟩, -⟩, ⟨v1, -⟩, -⟩ := id h
    have b1 := sm4_le (f := σ.1 0) (fun p hp => (hv.1 p hp.1 hp.2).1) i (by omega)
    have b2 := (hv.1 i hp.1 hp.2).1
    have hP := s1.pg hp
    rw [ze_X11_wordsOfAllPages_4, if_pos (by omega), if_pos h1, f1, if_pos s1.2.1, zs_T_pageAt d c s1, zbnd_some, if_pos (show 0 ≤ (i : Int) ∧ (i : Int) < 4 from hp), if_neg (by omega), if_pos hP.1, ← h.a0 hp, zadd_id (by omega) (by omega), zw_id' (by omega) (by omega), show (i : Int) + 1 = ((i + 1 : Nat) : Int) by omega]
    exact ih F (i + 1) (by omega) (by omega)
theorem G_wap (h : RC c σ) (hv : VOK σ.1) : zrun zTab (d + 2) 134 [2] c = some (σ.1 0 0 + σ.1 0 1 + σ.1 0 2 + σ.1 0 3, c) := by
  have := G_wap_l d hv h 4 19998 0 (by omega) (by omega)
  rw [show σ.1 0 0 + σ.1 0 1 + σ.1 0 2 + σ.1 0 3 = sm4 (σ.1 0) 4 by show _ = 0 + σ.1 0 0 + σ.1 0 1 + σ.1 0 2 + σ.1 0 3; omega, ze_X11_wordsOfAllPages]
  exact this
/-- the linked senses of the first pages -/
def or4 (A : zA2) : Nat → Int
  | 0 => 0
  | n + 1 => zior (or4 A n) (mLS A n (A 0 n).toNat)
theorem G_swl_l (hv : VOK σ.1) : ∀ (t F i : Nat) (c : zC), RC c σ → t ≤ F → i + t = 4 → GQ c σ (zex zc_X11_sensesWithoutLinks zk_X11_sensesWithoutLinks (zrun zTab (d + 7)) (F + 1) 4 [(2, 2), (0, or4 σ.1 i), (0, (i : Int)), (3, 0)] [] c) (ziand (zsub (zishl 1 (σ.1 9 0)) 1) (zixor (or4 σ.1 4) (-1))) := by
  intro t
  induction t with
  | zero =>
    intro F i c h hF hi
    refine GQ.rf h ?_
    rw [ze_X11_sensesWithoutLinks_4, if_neg (by omega), if_pos h.1.1.1, h.1.1.2.2.1, if_pos h.1.2.2.1.1.2.1, show i = 4 by omega, ← h.2.1.1, cv_9]
  | succ t ih =>
    intro F i c h hF hi
    obtain ⟨F, rfl⟩ : ∃ G, F = G + 1 := ⟨F - 1, by omega⟩
    have hp : isP (i : Int) := ⟨by omega, by omega⟩
    obtain ⟨c2, r1, r2, r3, r4, -⟩ := G_link (d + 2) h hv hp
    obtain ⟨c3, q1, q2, q3⟩ := ih F (i + 1) c2 r2 (by omega) (by omega)
    refine ⟨c3, ?_, q2, r4.tr q3⟩
    rw [ze_X11_sensesWithoutLinks_4, if_pos (by omega), if_pos h.1.1.1, r1, zbnd_some, if_neg (by omega), if_pos r3.1.2.1, zs_K_linkedSenses (d + 5) r3, zbnd_some, zw_id' (by omega) (by omega), show (i : Int) + 1 = ((i + 1 : Nat) : Int) by omega]
    exact q1
theorem G_swl (h : RC c σ) (hv : VOK σ.1) : GQ c σ (zrun zTab (d + 8) 136 [2] c) (ziand (zsub (zishl 1 (σ.1 9 0)) 1) (zixor (or4 σ.1 4) (-1))) := by
  have := G_swl_l d hv 4 19998 0 c h (by omega) (by omega)
  rw [ze_X11_sensesWithoutLinks]
  exact this
theorem GQ.bnd {r : zR} {v : Int} (h : GQ c σ r v) : GQ c σ (zbnd r (fun v c => some (v, c))) v := by
  obtain ⟨c', h1, h2⟩ := h
  exact ⟨c', by rw [h1, zbnd_some], h2⟩
theorem RC.a9 (h : RC c σ) : σ.1 9 0 = c 11 3 := by rw [← h.2.1.1, cv_9]
theorem G_ofSense (h : RC c σ) (hv : VOK σ.1) : GQ c σ (zrun zTab (d + 40) 115 [2, s, w] c) (aOfS σ.1 s w) := by
  obtain ⟨⟨⟨h1, f0, f1, -⟩, -, ⟨s1, -⟩, -⟩, ⟨v1, -⟩, -⟩ := id h
  rw [ze_X11_ofSense, if_pos h1, f1, if_pos s1.2.1, zs_T_senseAt (d + 38) c s1, zbnd_some, ← h.a9]
  unfold aOfS
  by_cases e1 : 0 ≤ s ∧ s < σ.1 9 0
  · have h8 := hv.n8
    have hs := s1.2.2.2.2.2.2.2.2.2.1 s e1.1 (by omega)
    have hs0 := s1.1
    have q10 : σ.1 10 s = c (c (11 + 2) s) 0 := by rw [← v1, cv_10 e1.1 (by rw [← h.a9]; exact e1.2)]
    have q11 : σ.1 11 s = c (c (11 + 2) s) 2 := by rw [← v1, cv_11 e1.1 (by rw [← h.a9]; exact e1.2)]
    have q13 : σ.1 13 s = c (c (11 + 2) s) 3 := by rw [← v1, cv_13 e1.1 (by rw [← h.a9]; exact e1.2)]
    rw [if_pos e1, if_neg (by omega), if_neg (show ¬ ¬ (0 ≤ s ∧ s < σ.1 9 0) from fun q => q e1)]
    have key : ¬ (10 ≤ w ∧ w < 14) → GQ c σ (zex zc_X11_ofSense zk_X11_ofSense (zrun zTab (d + 39)) 19999 37 [(2, 2), (0, s), (0, w), (2, c (11 + 2) s)] [] c) (if 10 ≤ w ∧ w < 14 then mLT σ.1 (w - 10) s else if w = 0 then mlen (σ.1 10 s) else if w = 1 then σ.1 11 s else if w = 2 then σ.1 13 s else if w = 3 then mLT σ.1 0 s + mLT σ.1 1 s + mLT σ.1 2 s + mLT σ.1 3 s else if w = 4 then mMT σ.1 0 s + mMT σ.1 1 s + mMT σ.1 2 s + mMT σ.1 3 s else -1) := by
      intro e2
      rw [if_neg e2, ze_X11_ofSense_37]
      by_cases e : w = 0
      · obtain ⟨⟨n, n1, n2, n3⟩, -⟩ := hv.2.2.1.2 s e1.1 e1.2
        rw [if_pos e, if_pos e, if_pos hs.2.1, ← q10, zs_lengthOf (d + 38) c (mwf_nn n3) (by have := mwf_63 n3 n2; omega), zbnd_some]
        exact GQ.rf h rfl
      rw [if_neg e, if_neg e]
      by_cases e : w = 1
      · rw [if_pos e, if_pos e, if_pos hs.2.1, q11]
        exact GQ.rf h rfl
      rw [if_neg e, if_neg e]
      by_cases e : w = 2
      · rw [if_pos e, if_pos e, if_pos hs.2.1, q13]
        exact GQ.rf h rfl
      rw [if_neg e, if_neg e]
      by_cases e : w = 3
      · rw [if_pos e, if_pos e, if_pos h1]
        exact (G_loap (d + 31) h hv).bnd
      rw [if_neg e, if_neg e]
      by_cases e : w = 4
      · rw [if_pos e, if_pos e, if_pos h1]
        exact (G_moap (d + 31) h hv).bnd
      rw [if_neg e, if_neg e]
      exact GQ.rf h rfl
    by_cases e2 : w < 10
    · rw [if_pos e2]; exact key (by omega)
    rw [if_neg e2]
    by_cases e3 : w < 14
    · rw [if_pos e3, if_pos h1, if_pos (show 10 ≤ w ∧ w < 14 from ⟨by omega, e3⟩), zsub_id (by omega) (by omega)]
      exact (G_lonp (d + 31) h hv ⟨by omega, by omega⟩).bnd
    · rw [if_neg e3]; exact key (by omega)
  · rw [if_neg e1, if_pos rfl, if_pos (show ¬ (0 ≤ s ∧ s < σ.1 9 0) from e1)]
    exact GQ.rf h rfl
theorem G_ofPage (h : RC c σ) (hv : VOK σ.1) : GQ c σ (zrun zTab (d + 40) 116 [2, p, w] c) (aOfP σ.1 p w) := by
  obtain ⟨⟨⟨h1, f0, f1, -⟩, -, ⟨s1, -⟩, -⟩, ⟨v1, -⟩, -⟩ := id h
  rw [ze_X11_ofPage, if_pos h1, f1, if_pos s1.2.1, zs_T_pageAt (d + 38) c s1, zbnd_some, if_pos h1]
  unfold aOfP
  by_cases hp : isP p
  · obtain ⟨c2, r1, r2, r3, r4, r5⟩ := G_link (d + 34) h hv hp
    have s1' := r2.1.2.2.1.1
    have hP := s1'.pg hp
    have e0 := r2.a0 hp
    have h20 := (hv.1 p hp.1 hp.2).1
    have hL := r3.1
    rw [if_pos (show 0 ≤ p ∧ p < 4 from hp), r1, zbnd_some, if_neg (by have := hp.1; omega), if_neg (by have := hp.1; omega), if_neg (show ¬ ¬ isP p from fun q => q hp)]
    have q1 : σ.1 1 p = c2 (11 + 4 + 3 * p) 3 := by rw [← r2.2.1.1, cv_1 hp.1 hp.2]
    have key : ¬ (10 ≤ w ∧ w ≤ 16) → GQ c σ (zex zc_X11_ofPage zk_X11_ofPage (zrun zTab (d + 39)) 19999 49 [(3, 0), (3, 0), (0, w), (2, 11 + 4 + 3 * p), (2, 397 + 71 * p)] [] c2) (if 10 ≤ w ∧ w ≤ 16 then mRC σ.1 p (w - 10) else if w = 0 then σ.1 0 p else if w = 1 then (if σ.1 0 p < 1 then 0 else σ.1 2 (20 * p + (σ.1 0 p - 1)) + 1) else if w = 2 then σ.1 1 p else if w = 3 then mRC σ.1 p 0 else if w = 4 then σ.1 0 p - mRC σ.1 p 1 else if w = 5 then mCnt (mRs σ.1 p 20 (-1) (σ.1 0 p).toNat) (-1) (σ.1 0 p).toNat else -1) := by
      intro e2
      rw [if_neg e2, ze_X11_ofPage_49]
      by_cases e : w = 0
      · rw [if_pos e, if_pos e, if_pos hP.1, e0]
        exact ⟨c2, rfl, r2, r4⟩
      rw [if_neg e, if_neg e]
      by_cases e : w = 1
      · have hb : ∀ i, 0 ≤ i → i < c2 (11 + 4 + 3 * p) 2 → 0 ≤ c2 (11 + 4 + 3 * p + 2) i ∧ c2 (11 + 4 + 3 * p + 2) i ≤ 3 := fun i i0 i1 => by
          have := ((hv.1 p hp.1 hp.2).2.2.1 i i0 (by rw [e0]; exact i1)).1
          rw [← r2.2.1.1, cv_2 hp.1 hp.2 i0 (by rw [← e0] at i1; omega) i1] at this
          exact this
        rw [if_pos e, if_pos e, if_pos hP.1, zs_P_sectionCount (d + 37) c2 hP hb, zbnd_some, ← e0]
        refine ⟨c2, ?_, r2, r4⟩
        by_cases e5 : σ.1 0 p < 1
        · rw [if_pos e5, if_pos e5]
        · rw [if_neg e5, if_neg e5]
          have : σ.1 2 (20 * p + (σ.1 0 p - 1)) = c2 (11 + 4 + 3 * p + 2) (σ.1 0 p - 1) := by
            rw [← r2.2.1.1, cv_2 hp.1 hp.2 (by rw [r2.2.1.1]; omega) (by rw [r2.2.1.1]; omega) (by rw [r2.2.1.1, ← e0]; omega)]
          rw [this]
      rw [if_neg e, if_neg e]
      by_cases e : w = 2
      · rw [if_pos e, if_pos e, if_pos hP.1, q1]
        exact ⟨c2, rfl, r2, r4⟩
      rw [if_neg e, if_neg e]
      by_cases e : w = 3
      · rw [if_pos e, if_pos e, if_pos hL.2.1, zs_K_wordsWithReason (d + 37) hL, zbnd_some, r3.rc]
        exact ⟨c2, rfl, r2, r4⟩
      rw [if_neg e, if_neg e]
      by_cases e : w = 4
      · have := mRC_le σ.1 p 1 h20.2
        rw [if_pos e, if_pos e, if_pos hL.2.1, if_pos hL.2.1, zs_K_wordsWithReason (d + 37) hL, zbnd_some, r3.rc, hL.2.2.2.2.1, zsub_id (by omega) (by omega)]
        exact ⟨c2, rfl, r2, r4⟩
      rw [if_neg e, if_neg e]
      by_cases e : w = 5
      · obtain ⟨c3, x1, x2, x3⟩ := zs_K_enoughBudget (d + 35) r3 (hv.pg hp) hv.n8
        have x4 : KAll c2 c3 (397 + 71 * p) := ⟨fun b hb k => x2.1 b (by omega) (by omega) k, x2.2⟩
        rw [if_pos e, if_pos e, if_pos hL.2.1, x1, zbnd_some]
        exact ⟨c3, rfl, r2.link hp x4 x3, r4.tr (x4.fr hp)⟩
      rw [if_neg e, if_neg e]
      exact ⟨c2, rfl, r2, r4⟩
    by_cases e2 : w < 10
    · rw [if_pos e2]; exact key (by omega)
    rw [if_neg e2]
    by_cases e3 : w ≤ 16
    · rw [if_pos e3, if_pos hL.2.1, if_pos (show 10 ≤ w ∧ w ≤ 16 from ⟨by omega, e3⟩), zsub_id (by omega) (by omega), zs_K_wordsWithReason (d + 37) hL, zbnd_some, r3.rc]
      exact ⟨c2, rfl, r2, r4⟩
    · rw [if_neg e3]; exact key (by omega)
  · rw [if_neg (show ¬ (0 ≤ p ∧ p < 4) from hp), G_link0 (d + 38) h hp, zbnd_some, if_pos rfl, if_pos (show ¬ isP p from hp)]
    exact GQ.rf h rfl
theorem G_lk (h : RC c σ) (hv : VOK σ.1) : GQ c σ (zrun zTab (d + 40) 117 [2, p, k] c) (aLink σ.1 p k) := by
  by_cases hp : isP p
  · obtain ⟨c2, r1, r2, r3, r4, -⟩ := G_link (d + 34) h hv hp
    refine ⟨c2, ?_, r2, r4⟩
    rw [ze_X11_link, if_pos h.1.1.1, r1, zbnd_some, if_neg (by have := hp.1; omega)]
    unfold aLink
    by_cases e1 : k < 0
    · rw [if_pos e1, if_pos (Or.inr e1)]
    · rw [if_neg e1, if_pos r3.1.2.1, zs_K_linkedWord (d + 37) r3, zbnd_some, if_neg (fun q => q.elim (fun q => q hp) e1)]
  · refine GQ.rf h ?_
    rw [ze_X11_link, if_pos h.1.1.1, G_link0 (d + 38) h hp, zbnd_some, if_pos rfl]
    unfold aLink
    rw [if_pos (Or.inl hp)]
theorem mLw_ok (A : zA2) (p k : Int) : ∀ (t j : Nat) (x : Int), mLw A p k t j x = -5 ∨ (j : Int) ≤ mLw A p k t j x ∧ mLw A p k t j x < (j : Int) + t := by
  intro t
  induction t with
  | zero => intro j x; exact Or.inl rfl
  | succ t ih =>
    intro j x
    show (if mR A p (A 1 p) (-1) j = 0 then (if x = k then (j : Int) else mLw A p k t (j + 1) (x + 1)) else mLw A p k t (j + 1) x) = -5 ∨ (j : Int) ≤ (if mR A p (A 1 p) (-1) j = 0 then (if x = k then (j : Int) else mLw A p k t (j + 1) (x + 1)) else mLw A p k t (j + 1) x) ∧ (if mR A p (A 1 p) (-1) j = 0 then (if x = k then (j : Int) else mLw A p k t (j + 1) (x + 1)) else mLw A p k t (j + 1) x) < (j : Int) + ((t + 1 : Nat) : Int)
    have a := ih (j + 1) (x + 1)
    have b := ih (j + 1) x
    split
    · split
      · omega
      · omega
    · omega
theorem G_wo (h : RC c σ) (hv : VOK σ.1) : GQ c σ (zrun zTab (d + 40) 118 [2, p, k] c) (aWo σ.1 p k) := by
  by_cases hp : isP p
  · obtain ⟨c2, r1, r2, r3, r4, -⟩ := G_link (d + 34) h hv hp
    have h20 := (hv.1 p hp.1 hp.2).1
    have ok := mLw_ok σ.1 p k (σ.1 0 p).toNat 0 0
    rw [ze_X11_without, if_pos h.1.1.1, r1, zbnd_some, if_neg (by have := hp.1; omega), if_pos r3.1.2.1, zs_K_linkedWord (d + 37) r3, zbnd_some, if_neg (by have := hp.1; omega)]
    unfold aWo
    generalize mLw σ.1 p k (σ.1 0 p).toNat 0 0 = v at ok ⊢
    by_cases e : v = -5
    · rw [if_pos e, if_pos (Or.inr e)]
      exact ⟨c2, rfl, r2, r4⟩
    · obtain ⟨x, rfl⟩ : ∃ x : Nat, v = (x : Int) := ⟨v.toNat, by omega⟩
      obtain ⟨c3, x1, x2, x3⟩ := zs_K_firstOther (d + 35) r3 (hv.pg hp) hv.n8 (x := x) (by omega)
      have x4 : KAll c2 c3 (397 + 71 * p) := ⟨fun b hb k => x2.1 b (by omega) (by omega) k, x2.2⟩
      rw [if_neg e, if_pos r3.1.2.1, x1, zbnd_some, if_neg (fun q => q.elim (fun q => q hp) e), Int.toNat_natCast]
      exact ⟨c3, rfl, r2.link hp x4 x3, r4.tr (x4.fr hp)⟩
  · refine GQ.rf h ?_
    rw [ze_X11_without, if_pos h.1.1.1, G_link0 (d + 38) h hp, zbnd_some, if_pos rfl, if_pos rfl]
    unfold aWo
    rw [if_pos (Or.inl hp)]
theorem G_again (h : RC c σ) (hv : VOK σ.1) : GQ c σ (zrun zTab (d + 40) 119 [2, p] c) (aAgain σ.1 p) := by
  by_cases hp : isP p
  · obtain ⟨c2, r1, r2, r3, r4, -⟩ := G_link (d + 34) h hv hp
    obtain ⟨c3, x1, x2, x3⟩ := zs_K_linksFromTheLast (d + 16) (hv.pg hp) hv.sn r3
    have x4 : KAll c2 c3 (397 + 71 * p) := ⟨fun b hb k => x2.1 b (by omega) (by omega) k, x2.2⟩
    refine ⟨c3, ?_, r2.link hp x4 x3, r4.tr (x4.fr hp)⟩
    rw [ze_X11_again, if_pos h.1.1.1, r1, zbnd_some, if_neg (by have := hp.1; omega), if_pos r3.1.2.1, x1, zbnd_some]
    unfold aAgain
    rw [if_neg (fun q => q hp)]
    rfl
  · refine GQ.rf h ?_
    rw [ze_X11_again, if_pos h.1.1.1, G_link0 (d + 38) h hp, zbnd_some, if_pos rfl]
    unfold aAgain
    rw [if_pos hp]
theorem G_count (h : RC c σ) (hv : VOK σ.1) : GQ c σ (zrun zTab (d + 40) 123 [2, w] c) (aCount σ w) := by
  obtain ⟨⟨⟨h1, f0, f1, -, f4, -⟩, ⟨t1, -⟩, ⟨s1, -⟩, -, ⟨y1, -⟩, -⟩, ⟨v1, -, ⟨v5, -⟩, ⟨v7, -⟩, -⟩, -⟩ := id h
  rw [ze_X11_count, f1, f0, f4]
  unfold aCount
  by_cases e : w = 0
  · rw [if_pos e, if_pos e, if_pos h1, if_pos s1.2.1, h.a9]
    exact GQ.rf h rfl
  rw [if_neg e, if_neg e]
  by_cases e : w = 1
  · rw [if_pos e, if_pos e, if_pos h1, if_pos s1.2.1, ← v1, cv_4]
    exact GQ.rf h rfl
  rw [if_neg e, if_neg e]
  by_cases e : w = 2
  · rw [if_pos e, if_pos e, if_pos h1, if_pos t1.2.1, v7]
    exact GQ.rf h rfl
  rw [if_neg e, if_neg e]
  by_cases e : w = 3
  · rw [if_pos e, if_pos e, if_pos h1, if_pos y1.2.1, v5]
    exact GQ.rf h rfl
  rw [if_neg e, if_neg e]
  by_cases e : w = 4
  · rw [if_pos e, if_pos e, if_pos h1, if_pos s1.2.1, ← v1, cv_14]
    exact GQ.rf h rfl
  rw [if_neg e, if_neg e]
  by_cases e : w = 5
  · rw [if_pos e, if_pos e, if_pos h1, if_pos s1.2.1, ← v1, cv_15]
    exact GQ.rf h rfl
  rw [if_neg e, if_neg e]
  by_cases e : w = 6
  · rw [if_pos e, if_pos e, if_pos h1, G_wap (d + 37) h hv, zbnd_some]
    exact GQ.rf h rfl
  rw [if_neg e, if_neg e]
  by_cases e : w = 7
  · rw [if_pos e, if_pos e, if_pos h1]
    exact (G_lkap (d + 31) h hv).bnd
  rw [if_neg e, if_neg e]
  by_cases e : w = 8
  · rw [if_pos e, if_pos e, if_pos h1]
    exact (G_swl (d + 31) h hv).bnd
  rw [if_neg e, if_neg e]
  exact GQ.rf h rfl
end
