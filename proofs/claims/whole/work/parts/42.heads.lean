/-! The class's links: the head of a word, its meant sense. -/
theorem zs_B_levelAt (d : Nat) {B i : Int} (c : zC) (h : BShape c B) (h2 : 0 ≤ i) (h3 : i < c B 2) (h4 : c B 2 ≤ 43) : zrun zTab (d + 1) 2 [B, i] c = some (c (B + 2) i, c) := by
  obtain ⟨a1, a2, a3, -, ⟨a4, a5⟩⟩ := h
  rw [ze_X0_levelAt, if_neg (by omega), if_pos a1, if_pos h3, if_pos a1, a3, if_pos a4, a5, if_pos (by omega), if_pos a1, if_pos ⟨a4, h2, by omega⟩]
theorem zup_id (c : zC) (b k : Int) : zup c b k (c b k) = c := by
  funext x y
  by_cases e : x = b ∧ y = k
  · rw [zup_eq e, e.1, e.2]
  · rw [zup_ne (by omega)]
theorem zup2_up {c : zC} {a b i x y u v : Int} (h : a ≠ b) : zup (zup (zup (zup c a i x) b i y) a i u) b i v = zup (zup c a i u) b i v := by
  funext p q
  by_cases e : p = b ∧ q = i
  · rw [zup_eq e, zup_eq e]
  · rw [zup_ne (by omega), zup_ne (c := zup c a i u) (by omega)]
    by_cases e2 : p = a ∧ q = i
    · rw [zup_eq e2, zup_eq e2]
    · rw [zup_ne (by omega), zup_ne (by omega), zup_ne (by omega), zup_ne (by omega)]
/-- only the rows of a Linking that tell of its words have changed -/
def KRow (c c' : zC) (K : Int) : Prop := (∀ b, (b < K + 3 ∨ K + 10 < b) → ∀ k, c' b k = c b k) ∧ (∀ b k, k < 0 → c' b k = c b k)
theorem KRow.rf (c : zC) (K : Int) : KRow c c K := ⟨fun _ _ _ => rfl, fun _ _ _ => rfl⟩
theorem KRow.tr {c c1 c2 : zC} {K : Int} (h : KRow c c1 K) (g : KRow c1 c2 K) : KRow c c2 K :=
  ⟨fun b hb k => (g.1 b hb k).trans (h.1 b hb k), fun b k hk => (g.2 b k hk).trans (h.2 b k hk)⟩
theorem KRow.up {c c' : zC} {K b k v : Int} (h : KRow c c' K) (h1 : K + 3 ≤ b) (h2 : b ≤ K + 10) (h3 : 0 ≤ k) : KRow c (zup c' b k v) K :=
  ⟨fun x hx y => by rw [zup_ne (by omega)]; exact h.1 x hx y, fun x y hy => by rw [zup_ne (by omega)]; exact h.2 x y hy⟩
theorem KRow.lk {c c' : zC} {K n : Int} (h : LLk c K n) (g : KRow c c' K) : LLk c' K n := by
  obtain ⟨h0, h1, ⟨f0, f1, f2, f3, f4, f5, f6, f7, f8, f9⟩, ⟨⟨a1, a2⟩, ⟨b1, b2⟩, ⟨c1, c2⟩, ⟨d1, d2⟩, ⟨e1, e2⟩, ⟨i1, i2⟩, ⟨j1, j2⟩, ⟨k1, k2⟩, ⟨l1, l2⟩, m1⟩, hn⟩ := h
  obtain ⟨g1, g2⟩ := g
  have gK := g1 K (by omega)
  unfold LLk LArr
  simp only [gK, g2 _ (-1) (by decide), g2 _ (-2) (by decide)]
  exact ⟨h0, h1, ⟨f0, f1, f2, f3, f4, f5, f6, f7, f8, f9⟩, ⟨⟨a1, a2⟩, ⟨b1, b2⟩, ⟨c1, c2⟩, ⟨d1, d2⟩, ⟨e1, e2⟩, ⟨i1, i2⟩, ⟨j1, j2⟩, ⟨k1, k2⟩, ⟨l1, l2⟩, m1⟩, hn⟩
theorem KRow.lb {c c' : zC} {K : Int} (h : LLb c K) (g : KRow c c' K) : LLb c' K := by
  intro i i0 i1
  obtain ⟨h1, a1, a2, a3, ⟨a4, a5⟩, ⟨a6, a7⟩⟩ := h i i0 i1
  have g0 := g.1 (K + 11 + 3 * i) (by omega)
  exact ⟨by rw [g.1 _ (by omega)]; exact h1, by rw [g0]; exact a1, by rw [g0]; exact a2, by rw [g0]; exact a3, ⟨by rw [g.2 _ _ (by decide)]; exact a4, by rw [g.2 _ _ (by decide)]; exact a5⟩, ⟨by rw [g.2 _ _ (by decide)]; exact a6, by rw [g.2 _ _ (by decide)]; exact a7⟩⟩
theorem KRow.bas {c c' : zC} {K p n : Int} {A : zA2} (h : KBas c K A p n) (g : KRow c c' K) : KBas c' K A p n := by
  intro i hi
  obtain ⟨h1, ⟨h2, h3⟩, h4⟩ := h i hi
  refine ⟨by rw [g.1 _ (by omega)]; exact h1, ⟨by rw [g.1 _ (by omega)]; exact h2, fun b hb => ?_⟩, h4⟩
  rw [g.1 _ (by omega), g.1 _ (by omega)]
  exact h3 b hb
theorem KRow.st {c c' : zC} {K S : Int} (g : KRow c c' K) (hd : K + 71 ≤ S ∨ S + 38 ≤ K) : zsameS c c' S := fun b b1 b2 k => g.1 b (by omega) k
theorem zs_T_isHeadV (d : Nat) {S w : Int} (c : zC) (h : LState c S) : zrun zTab (d + 2) 70 [S, w] c = some (if mIsH (cview c S) w = true then 1 else 0, c) := by
  obtain ⟨v, h1, h2⟩ := zs_T_isHead d (w := w) c h
  rw [h1]
  rcases h2 with ⟨rfl, k, k1, k2, k3⟩ | ⟨rfl, h3⟩
  · rw [if_pos (mIsH_iff.mpr ⟨k, k1, k2, by rw [cv_10 k1 k2]; exact k3⟩)]
  · rw [if_neg]
    intro q
    obtain ⟨k, k1, k2, k3⟩ := mIsH_iff.mp q
    have k2 : k < c S 3 := k2
    rw [cv_10 k1 k2] at k3
    exact h3 k k1 k2 k3
section
variable {c : zC} {K n p S : Int} {A : zA2} (d : Nat)
theorem zs_K_fh_l (h : LLk c K n) (hb : LLb c K) (hS : LState c S) (hd : K + 71 ≤ S ∨ S + 38 ≤ K) (hz : ∀ s, 0 ≤ s → s < c S 3 → cview c S 10 s ≠ 0) {i : Nat} (hi : (i : Int) < n) {l : zBL} (hl : BLat c (K + 11 + 3 * i) l) (hl2 : l.length ≤ 43) (e3 : c (K + 3) i = 0) (e4 : c (K + 4) i = -5) : ∀ (t F j : Nat), t + 1 ≤ F → j + t = l.length →
    zex zc_X3_findHead zk_X3_findHead (zrun zTab (d + 2)) (F + 1) 51 [(2, K), (2, S), (0, (i : Int)), (2, K + 11 + 3 * i), (0, (j : Int))] [] c = some (0, zup (zup c (K + 3) i (((l.drop j).find? (fun q => mIsH (cview c S) q.1)).getD (0, -5)).1) (K + 4) i (((l.drop j).find? (fun q => mIsH (cview c S) q.1)).getD (0, -5)).2) := by
  have hn := h.2.2.2.2.2
  obtain ⟨h0, h1, ⟨f0, f1, f2, f3, f4, -⟩, ⟨-, -, ⟨a1, a2⟩, ⟨b1, b2⟩, -⟩, -⟩ := h
  have hB := (hb i (by omega) (by omega)).2
  obtain ⟨B1, B2, B3, ⟨B4, B5⟩, ⟨B6, B7⟩⟩ := id hB
  intro t
  induction t with
  | zero =>
    intro F j hF hj
    rw [ze_X3_findHead_51, if_pos B1, hl.1, if_neg (by omega), List.drop_eq_nil_of_le (by omega)]
    show _ = some ((0 : Int), zup (zup c (K + 3) i 0) (K + 4) i (-5))
    rw [← e3, zup_id, ← e4, zup_id]
  | succ t ih =>
    intro F j hF hj
    obtain ⟨F, rfl⟩ : ∃ G, F = G + 1 := ⟨F - 1, by omega⟩
    have hw : zrun zTab (d + 2) 1 [K + 11 + 3 * (i : Int), (j : Int)] c = some ((l.getD j (0, 0)).1, c) := by
      rw [zs_B_wordAt (d + 1) c ⟨B1, B2, B3, ⟨B4, B5⟩, ⟨B6, B7⟩, by rw [hl.1]; omega, by rw [hl.1]; omega⟩, if_pos (by rw [hl.1]; omega), (hl.2 j (by omega)).1]
    have hdr : (l.drop j).find? (fun q => mIsH (cview c S) q.1) = if mIsH (cview c S) (l.getD j (0, 0)).1 = true then some (l.getD j (0, 0)) else (l.drop (j + 1)).find? (fun q => mIsH (cview c S) q.1) := by
      rw [List.drop_eq_getElem_cons (show j < l.length by omega), List.find?_cons, List.getD_eq_getElem?_getD, List.getElem?_eq_getElem (show j < l.length by omega)]
      simp only [Option.getD_some]
      cases mIsH (cview c S) (l[j]'(by omega)).1 <;> rfl
    rw [ze_X3_findHead_51, if_pos B1, hl.1, if_pos (by omega), if_pos h1, f2, if_pos (show c (K + 3) (-1) = 101 ∧ (0 : Int) ≤ (i : Int) ∧ (i : Int) < c (K + 3) (-2) from ⟨a1, by omega, by omega⟩), e3, if_pos (by decide), if_pos B1, hw, zbnd_some, if_pos hS.2.1, zs_T_isHeadV d c hS, zbnd_some]
    by_cases e : mIsH (cview c S) (l.getD j (0, 0)).1 = true
    · have hnz : (l.getD j (0, 0)).1 ≠ 0 := by
        obtain ⟨s, s1, s2, s3⟩ := mIsH_iff.mp e
        rw [← s3]; exact hz s s1 s2
      have hB' : BShape (zup c (K + 3) i (l.getD j (0, 0)).1) (K + 11 + 3 * i) := (KRow.lb hb ((KRow.rf c K).up (by omega) (by omega) (by omega)) i (by omega) (by omega)).2
      have hsz : zup c (K + 3) i (l.getD j (0, 0)).1 (K + 11 + 3 * i) 2 = (l.length : Int) := by rw [zup_ne (by omega)]; exact hl.1
      have hK1 : KRow c (zup c (K + 3) i (l.getD j (0, 0)).1) K := (KRow.rf c K).up (by omega) (by omega) (by omega)
      rw [if_pos e, if_neg (by decide), if_pos h1, if_pos B1, hw, zbnd_some, f2, if_pos (show c (K + 3) (-1) = 101 ∧ (0 : Int) ≤ (i : Int) ∧ (i : Int) < c (K + 3) (-2) from ⟨a1, by omega, by omega⟩), hK1.2 _ _ (by decide), if_pos h1, hK1.2 _ _ (by decide), if_pos B1, zs_B_levelAt (d + 1) _ hB' (by omega) (by rw [hsz]; omega) (by rw [hsz]; omega), zbnd_some, hK1.1 K (by omega), f3, hK1.2 _ _ (by decide), hK1.2 _ _ (by decide), if_pos (show c (K + 4) (-1) = 100 ∧ (0 : Int) ≤ (i : Int) ∧ (i : Int) < c (K + 4) (-2) from ⟨b1, by omega, by omega⟩), hK1.1 _ (by omega), (hl.2 j (by omega)).2, hdr, if_pos e, zw_id' (by omega) (by omega)]
      have hK2 : KRow c (zup (zup c (K + 3) i (l.getD j (0, 0)).1) (K + 4) i (l.getD j (0, 0)).2) K := ((KRow.rf c K).up (by omega) (by omega) (by omega)).up (by omega) (by omega) (by omega)
      rw [ze_X3_findHead_51, hK2.2 _ _ (by decide), if_pos B1, hK2.1 _ (by omega), hl.1]
      by_cases e5 : (j : Int) + 1 < (l.length : Int)
      · rw [if_pos e5, hK2.2 _ _ (by decide), if_pos h1, hK2.1 K (by omega), f2, hK2.2 _ _ (by decide), hK2.2 _ _ (by decide), if_pos (show c (K + 3) (-1) = 101 ∧ (0 : Int) ≤ (i : Int) ∧ (i : Int) < c (K + 3) (-2) from ⟨a1, by omega, by omega⟩), zup_ne (by omega), zup_eq ⟨rfl, rfl⟩]
        simp only [zcmp_eq]
        rw [if_neg (by first | exact hnz | exact fun q => hnz q.symm)]
        rfl
      · rw [if_neg e5]
        rfl
    · rw [if_neg e, if_pos rfl, zw_id' (by omega) (by omega), show (j : Int) + 1 = ((j + 1 : Nat) : Int) by omega, ih F (j + 1) (by omega) (by omega), hdr, if_neg e]
theorem zs_K_findHead (h : LLk c K n) (hb : LLb c K) (hB : KBas c K (cview c S) p n) (hS : LState c S) (hd : K + 71 ≤ S ∨ S + 38 ≤ K) (hz : ∀ s, 0 ≤ s → s < c S 3 → cview c S 10 s ≠ 0) {i : Nat} (hi : (i : Int) < n) : zrun zTab (d + 3) 16 [K, S, (i : Int)] c = some (0, zup (zup c (K + 3) i (mHd (cview c S) p i).1) (K + 4) i (mHd (cview c S) p i).2) := by
  have hn := h.2.2.2.2.2
  have hh := h
  obtain ⟨h0, h1, ⟨f0, f1, f2, f3, f4, -⟩, ⟨-, -, ⟨a1, a2⟩, ⟨b1, b2⟩, -⟩, -⟩ := h
  have hK1 : KRow c (zup c (K + 3) i 0) K := (KRow.rf c K).up (by omega) (by omega) (by omega)
  have hK2 : KRow c (zup (zup c (K + 3) i 0) (K + 4) i (-5)) K := hK1.up (by omega) (by omega) (by omega)
  rw [ze_X3_findHead, if_pos h1, zs_K_basesAt (d + 1) hh hb, zbnd_some, if_pos (show 0 ≤ (i : Int) ∧ (i : Int) < n from ⟨by omega, hi⟩), if_neg (by omega), if_neg (by omega), if_pos h1, f2, if_pos a1, a2, if_pos (by omega), if_pos h1, f3, if_pos b1, b2, if_pos (by omega), if_pos h1, if_pos (show c (K + 3) (-1) = 101 ∧ (0 : Int) ≤ (i : Int) ∧ (i : Int) < 20 from ⟨a1, by omega, by omega⟩), hK1.2 _ _ (by decide), if_pos h1, hK1.1 K (by omega), f3, hK1.2 _ _ (by decide), hK1.2 _ _ (by decide), if_pos (show c (K + 4) (-1) = 100 ∧ (0 : Int) ≤ (i : Int) ∧ (i : Int) < c (K + 4) (-2) from ⟨b1, by omega, by omega⟩)]
  have hbi := (KRow.bas hB hK2) i hi
  have hS2 := hS.same (hK2.st hd)
  have hv := cview_same hS (hK2.st hd)
  have := zs_K_fh_l d (hK2.lk hh) (hK2.lb hb) hS2 hd (by rw [hv, hK2.1 S (by omega)]; exact hz) hi hbi.2.1 hbi.2.2 (by rw [zup_ne (by omega), zup_eq ⟨rfl, rfl⟩]) (by rw [zup_eq ⟨rfl, rfl⟩]) (mBL (cview c S) p i).length 19998 0 (by have := hbi.2.2; omega) (by omega)
  rw [hv, zup2_up (by omega)] at this
  exact this
end
