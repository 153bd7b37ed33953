/-! The class's links: the bases of all words of a page. -/
theorem mrow_congr {ap ap' : Nat → Int → Int} {l : zBL} {w v : Int} {n : Nat} (h : ∀ q, q < n → ap q = ap' q) : mrow ap l w v n = mrow ap' l w v n := by
  induction n with
  | zero => rfl
  | succ n ih =>
    show madd (mrow ap l w v n) (ap n w) v = madd (mrow ap' l w v n) (ap' n w) v
    rw [ih (fun q hq => h q (by omega)), h n (by omega)]
theorem mbas_congr {ap ap' : Nat → Int → Int} {rn : Nat} {w : Int} (h : ∀ q, q < rn → ap q = ap' q) : mbas ap rn w = mbas ap' rn w := by
  have : ∀ r, r ≤ rn → mm2 ap rn w r = mm2 ap' rn w r := by
    intro r
    induction r with
    | zero => intro _; exact mrow_congr h
    | succ r ih =>
      intro hr
      show (if ap r w = 0 then mm2 ap rn w r else mrow ap (mm2 ap rn w r) (ap r w) 2 rn) = (if ap' r w = 0 then mm2 ap' rn w r else mrow ap' (mm2 ap' rn w r) (ap' r w) 2 rn)
      rw [h r (by omega), ih (by omega)]
      split
      · rfl
      · exact mrow_congr h
  exact this rn (Nat.le_refl _)
/-- the inner shape of a Linking is unchanged -/
def KF (c c' : zC) (K : Int) : Prop := (∀ b, (b < K + 2 ∨ K + 71 ≤ b) → ∀ k, c' b k = c b k) ∧ (∀ b k, k < 0 → c' b k = c b k) ∧ ∀ i, 0 ≤ i → i < 20 → c' (K + 11 + 3 * i) 0 = c (K + 11 + 3 * i) 0 ∧ c' (K + 11 + 3 * i) 1 = c (K + 11 + 3 * i) 1
theorem KF.rf (c : zC) (K : Int) : KF c c K := ⟨fun _ _ _ => rfl, fun _ _ _ => rfl, fun _ _ _ => ⟨rfl, rfl⟩⟩
theorem KF.tr {c c1 c2 : zC} {K : Int} (h : KF c c1 K) (g : KF c1 c2 K) : KF c c2 K :=
  ⟨fun b hb k => (g.1 b hb k).trans (h.1 b hb k), fun b k hk => (g.2.1 b k hk).trans (h.2.1 b k hk), fun i i0 i1 => ⟨(g.2.2 i i0 i1).1.trans (h.2.2 i i0 i1).1, (g.2.2 i i0 i1).2.trans (h.2.2 i i0 i1).2⟩⟩
theorem KF.up {c c' : zC} {K b k v : Int} (h : KF c c' K) (h1 : K + 2 ≤ b) (h2 : b ≤ K + 10) (h3 : 0 ≤ k) : KF c (zup c' b k v) K :=
  ⟨fun x hx y => by rw [zup_ne (by omega)]; exact h.1 x hx y, fun x y hy => by rw [zup_ne (by omega)]; exact h.2.1 x y hy, fun i i0 i1 => by rw [zup_ne (by omega), zup_ne (by omega)]; exact h.2.2 i i0 i1⟩
theorem KRow.kf {c c' : zC} {K : Int} (h : KRow c c' K) : KF c c' K :=
  ⟨fun b hb k => h.1 b (by omega) k, h.2, fun i i0 i1 => ⟨h.1 _ (by omega) _, h.1 _ (by omega) _⟩⟩
theorem KF.bfr {c c' : zC} {K i : Int} (g : BFr c c' (K + 11 + 3 * i)) (i0 : 0 ≤ i) (i1 : i < 20) : KF c c' K :=
  ⟨fun b hb k => g.1 b (by omega) k, g.2.1, fun j j0 j1 => by
    by_cases e : j = i
    · rw [e]; exact ⟨g.2.2.1, g.2.2.2⟩
    · exact ⟨g.1 _ (by omega) _, g.1 _ (by omega) _⟩⟩
theorem KF.lk {c c' : zC} {K n : Int} (g : KF c c' K) (h : LLk c K n) : LLk c' K n := by
  obtain ⟨h0, h1, ⟨f0, f1, f2, f3, f4, f5, f6, f7, f8, f9⟩, ⟨⟨a1, a2⟩, ⟨b1, b2⟩, ⟨c1, c2⟩, ⟨d1, d2⟩, ⟨e1, e2⟩, ⟨i1, i2⟩, ⟨j1, j2⟩, ⟨k1, k2⟩, ⟨l1, l2⟩, m1⟩, hn⟩ := h
  obtain ⟨g1, g2, -⟩ := g
  have gK := g1 K (by omega)
  unfold LLk LArr
  simp only [gK, g2 _ (-1) (by decide), g2 _ (-2) (by decide)]
  exact ⟨h0, h1, ⟨f0, f1, f2, f3, f4, f5, f6, f7, f8, f9⟩, ⟨⟨a1, a2⟩, ⟨b1, b2⟩, ⟨c1, c2⟩, ⟨d1, d2⟩, ⟨e1, e2⟩, ⟨i1, i2⟩, ⟨j1, j2⟩, ⟨k1, k2⟩, ⟨l1, l2⟩, m1⟩, hn⟩
theorem KF.lb {c c' : zC} {K : Int} (g : KF c c' K) (h : LLb c K) : LLb c' K := by
  intro i i0 i1
  obtain ⟨h1, a1, a2, a3, ⟨a4, a5⟩, ⟨a6, a7⟩⟩ := h i i0 i1
  have g3 := g.2.2 i i0 i1
  exact ⟨by rw [g.1 _ (by omega)]; exact h1, by rw [g.2.1 _ _ (by decide)]; exact a1, by rw [g3.1]; exact a2, by rw [g3.2]; exact a3, ⟨by rw [g.2.1 _ _ (by decide)]; exact a4, by rw [g.2.1 _ _ (by decide)]; exact a5⟩, ⟨by rw [g.2.1 _ _ (by decide)]; exact a6, by rw [g.2.1 _ _ (by decide)]; exact a7⟩⟩
theorem KF.st {c c' : zC} {K S : Int} (g : KF c c' K) (hd : K + 71 ≤ S ∨ S + 38 ≤ K) : zsameS c c' S := fun b b1 b2 k => g.1 b (by omega) k
def RulesOK (c : zC) (S : Int) : Prop := ∀ r : Nat, (r : Int) < c S 4 → RuleOK c (c (S + 3) r)
theorem RulesOK.same {c c' : zC} {S : Int} (hS : LState c S) (h : RulesOK c S) (g : zsameS c c' S) : RulesOK c' S := by
  intro r hr
  have hn := hS.2.2.2.2.2.2.2.2.2.2.2.2.2
  have hS0 := hS.1
  rw [g S (by omega) (by omega)] at hr
  have hq := (hS.2.2.2.2.2.2.2.2.2.2.2.1 (r : Int) (by omega) (by omega)).1
  rw [g (S + 3) (by omega) (by omega)]
  exact (h r hr).same (fun k => g _ (by omega) (by omega) k)
section
variable {K n p S : Int} {A : zA2} (d : Nat)
theorem zs_K_ff_1 (hd : K + 71 ≤ S ∨ S + 38 ≤ K) (hp : 0 ≤ p ∧ p < 4) (hnp : n = A 0 p) (hwd : ∀ i : Nat, (i : Int) < n → 0 < A 3 (20 * p + i) ∧ A 3 (20 * p + i) < 1125899906842624) : ∀ (t G i : Nat) (c : zC), LLk c K n → LLb c K → LState c S → cview c S = A → RulesOK c S → KBas c K A p i → (i : Int) + t = n →
    ∃ c', zex zc_X3_followFrom zk_X3_followFrom (zrun zTab (d + 3)) (G + t + 1) 51 [(2, K), (2, S), (0, p), (2, S + 4 + 3 * p), (0, (i : Int)), (3, 0)] [] c = zex zc_X3_followFrom zk_X3_followFrom (zrun zTab (d + 3)) G 107 [(2, K), (2, S), (0, p), (3, 0), (0, 0), (3, 0)] [] c' ∧ KF c c' K ∧ KBas c' K A p n := by
  intro t
  induction t with
  | zero =>
    intro G i c h hb hS hA hR hB hi
    refine ⟨c, ?_, KF.rf c K, by rw [show n = (i : Int) by omega]; exact hB⟩
    rw [ze_X3_followFrom_51, if_pos h.2.1, h.2.2.2.2.1, if_neg (by omega)]
  | succ t ih =>
    intro G i c h hb hS hA hR hB hi
    have hn := h.2.2.2.2.2
    have hS0 := hS.1
    have hP := (hS.2.2.2.2.2.2.2.2.1 p hp.1 hp.2).2
    have hPs : c (S + 4 + 3 * p) 2 = n := by rw [hnp, ← hA]; exact (cv_0 hp.1 hp.2).symm
    have hsec : c (S + 4 + 3 * p + 2) i = A 2 (20 * p + i) := by rw [← hA]; exact (cv_2 hp.1 hp.2 (by omega) (by omega) (by omega)).symm
    have hwrd : c (S + 4 + 3 * p + 1) i = A 3 (20 * p + i) := by rw [← hA]; exact (cv_3 hp.1 hp.2 (by omega) (by omega) (by omega)).symm
    have h1 := h.2.1
    have f1 := h.2.2.1.2.1
    have b1 := h.2.2.2.1.2.1
    have k2 : KF c (zup c (K + 2) i (A 2 (20 * p + i))) K := (KF.rf c K).up (by omega) (by omega) (by omega)
    have hS2 := hS.same (k2.st hd)
    have hP2 := (hS2.2.2.2.2.2.2.2.2.1 p hp.1 hp.2).2
    have hs2 := k2.st hd
    rw [show G + (t + 1) + 1 = (G + t + 1) + 1 by omega, ze_X3_followFrom_51, if_pos h1, h.2.2.2.2.1, if_pos (by omega), if_pos h1, if_pos hP.1, zs_P_sectionAt (d + 2) c hP, zbnd_some, if_pos (show 0 ≤ (i : Int) ∧ (i : Int) < c (S + 4 + 3 * p) 2 by omega), f1, if_pos (show c (K + 2) (-1) = 100 ∧ (0 : Int) ≤ (i : Int) ∧ (i : Int) < c (K + 2) (-2) from ⟨b1.1, by omega, by rw [b1.2]; omega⟩), hsec, k2.2.1 _ _ (by decide), if_pos h1, zs_K_basesAt (d + 2) (k2.lk h) (k2.lb hb), zbnd_some, if_pos (show 0 ≤ (i : Int) ∧ (i : Int) < n by omega), if_neg (by have := h.1; omega), k2.2.1 _ _ (by decide), if_pos hP.1, zs_P_wordAt (d + 2) _ hP2, zbnd_some, hs2 (S + 4 + 3 * p) (by omega) (by omega), if_pos (show 0 ≤ (i : Int) ∧ (i : Int) < c (S + 4 + 3 * p) 2 by omega), hs2 (S + 4 + 3 * p + 1) (by omega) (by omega), hwrd, k2.2.1 _ _ (by decide), if_pos (hb i (by omega) (by omega)).2.1, zw_id' (by omega) (by omega), show (i : Int) + 1 = ((i + 1 : Nat) : Int) by omega]
    have hrn0 : A 4 0 = c S 4 := by rw [← hA]; rfl
    have hsn := hS.2.2.2.2.2.2.2.2.2.2.2.2.2
    obtain ⟨c', r1, r2, r3⟩ := zs_B_followFrom (rn := (A 4 0).toNat) d (k2.lb hb i (by omega) (by omega)).2 hS2 (by omega) (by rw [hs2 S (by omega) (by omega)]; omega) (fun r hr => RulesOK.same hS hR hs2 r (by rw [hs2 S (by omega) (by omega)]; omega)) (hwd i (by omega)).1 (hwd i (by omega)).2
    rw [r1, zbnd_some]
    have hbm : mbas (apAt (zup c (K + 2) i (A 2 (20 * p + i))) S) (A 4 0).toNat (A 3 (20 * p + i)) = mBL A p i := by
      unfold mBL
      refine mbas_congr (fun q hq => ?_)
      rw [apAt_same hS hs2 (by omega), ← hA]
      exact (cv_ap (by omega)).symm
    rw [hbm] at r2
    have k3 : KF c c' K := k2.tr (KF.bfr r3 (by omega) (by omega))
    have hs3 := k3.st hd
    obtain ⟨c8, q1, q2, q3⟩ := ih G (i + 1) c' (k3.lk h) (k3.lb hb) (hS.same hs3) ((cview_same hS hs3).trans hA) (RulesOK.same hS hR hs3) (fun j hj => by
      by_cases e : j = i
      · subst e
        refine ⟨?_, r2, mbas_len _ _ (by omega)⟩
        rw [r3.1 _ (by omega), zup_eq ⟨rfl, rfl⟩]
      · obtain ⟨a1, ⟨a2, a3⟩, a4⟩ := hB j (by omega)
        refine ⟨by rw [r3.1 _ (by omega), zup_ne (by omega)]; exact a1, ⟨by rw [r3.1 _ (by omega), zup_ne (by omega)]; exact a2, fun b hb2 => ?_⟩, a4⟩
        rw [r3.1 _ (by omega), zup_ne (by omega), r3.1 _ (by omega), zup_ne (by omega)]
        exact a3 b hb2) (by omega)
    exact ⟨c8, q1, k3.tr q2, q3⟩
/-- heads, levels, meant senses, scores, own pages of the first words -/
def KHd (c : zC) (K : Int) (A : zA2) (p : Int) (i : Nat) : Prop := ∀ j : Nat, j < i → c (K + 3) j = (mHd A p j).1 ∧ c (K + 4) j = (mHd A p j).2 ∧ c (K + 5) j = (mMe A p j).1 ∧ c (K + 6) j = (mMe A p j).2 ∧ c (K + 7) j = (if 0 ≤ (mMe A p j).1 ∧ A 13 (mMe A p j).1 = p then 1 else 0)
theorem zs_K_ff_2 (hd : K + 71 ≤ S ∨ S + 38 ≤ K) (hw : 0 ≤ A 14 0 ∧ A 14 0 ≤ 1000) (hz : ∀ s, 0 ≤ s → s < A 9 0 → A 10 s ≠ 0) (hsrt : ∀ j k : Nat, j ≤ k → (k : Int) < n → A 2 (20 * p + j) ≤ A 2 (20 * p + k)) : ∀ (t F i : Nat) (c : zC), LLk c K n → LLb c K → LState c S → cview c S = A → KBas c K A p n → KHd c K A p i → c K 11 = A 15 0 → t ≤ F → (i : Int) + t = n →
    ∃ c', zex zc_X3_followFrom zk_X3_followFrom (zrun zTab (d + 3)) (F + 1) 107 [(2, K), (2, S), (0, p), (3, 0), (0, (i : Int)), (3, 0)] [] c = some (0, zup c' K 13 1) ∧ KRow c c' K ∧ KHd c' K A p n.toNat ∧ ∀ j : Nat, (j : Int) < n → c' (K + 8) j = mR A p (c K 12) (-1) j := by
  intro t
  induction t with
  | zero =>
    intro F i c h hb hS hA hB hH hg hF hi
    have hn := h.2.2.2.2.2
    have h8 : A 9 0 ≤ 8 := by rw [← hA]; exact hS.2.2.2.2.2.2.2.2.2.2.2.2.2.2.1
    have hwd : KWd c K A p n := ⟨h, hg, fun j hj => ⟨(hB j hj).1, (hH j (by omega)).2.1, (hH j (by omega)).2.2.1, (hH j (by omega)).2.2.2.2⟩⟩
    obtain ⟨c', r1, r2, r3⟩ := zs_K_goThrough (most := c K 12) (left := -1) d hwd (Or.inl rfl) hsrt h8
    refine ⟨c', ?_, r2.row (Or.inl rfl), fun j hj => ?_, r3⟩
    · rw [ze_X3_followFrom_107, if_pos h.2.1, h.2.2.2.2.1, if_neg (by omega), if_pos h.2.1, if_pos h.2.1, if_pos h.2.1, h.2.2.1.2.2.2.2.2.2.2.1, r1, zbnd_some, r2.2 _ _ (by decide), if_pos h.2.1]
    · rw [r2.1 _ (by omega) (by omega), r2.1 _ (by omega) (by omega), r2.1 _ (by omega) (by omega), r2.1 _ (by omega) (by omega), r2.1 _ (by omega) (by omega)]
      exact hH j (by omega)
  | succ t ih =>
    intro F i c h hb hS hA hB hH hg hF hi
    obtain ⟨F, rfl⟩ : ∃ G, F = G + 1 := ⟨F - 1, by omega⟩
    have hn := h.2.2.2.2.2
    have h1 := h.2.1
    have f4 := h.2.2.1.2.2.2.2.1
    have f6 := h.2.2.1.2.2.2.2.2.2.1
    have a4 := h.2.2.2.1.2.2.2.2.1
    have a6 := h.2.2.2.1.2.2.2.2.2.2.1
    have hsn := hS.2.2.2.2.2.2.2.2.2.2.2.2.2
    have h9 : A 9 0 = c S 3 := by rw [← hA]; rfl
    have e1 := zs_K_findHead (p := p) d h hb (by rw [hA]; exact hB) hS hd (fun s s0 s1 => by rw [hA]; exact hz s s0 (by omega)) (show (i : Int) < n by omega)
    rw [hA] at e1
    have k2 : KRow c (zup (zup c (K + 3) i (mHd A p i).1) (K + 4) i (mHd A p i).2) K := ((KRow.rf c K).up (by omega) (by omega) (by omega)).up (by omega) (by omega) (by omega)
    have e2 := zs_K_chooseSense (p := p) d (k2.lk h) (k2.lb hb) (k2.bas hB) (hS.same (k2.st hd)) ((cview_same hS (k2.st hd)).trans hA) hd hw (show (i : Int) < n by omega) (by rw [zup_ne (by omega), zup_eq ⟨rfl, rfl⟩])
    obtain ⟨c4, hc4⟩ : ∃ c4, c4 = zup (zup (zup (zup c (K + 3) i (mHd A p i).1) (K + 4) i (mHd A p i).2) (K + 5) i (mMe A p i).1) (K + 6) i (mMe A p i).2 := ⟨_, rfl⟩
    rw [← hc4] at e2
    have k4 : KRow c c4 K := by rw [hc4]; exact (k2.up (by omega) (by omega) (by omega)).up (by omega) (by omega) (by omega)
    have v3 : ∀ j, c4 (K + 3) j = if j = (i : Int) then (mHd A p i).1 else c (K + 3) j := fun j => by rw [hc4]; grind [zup]
    have v4 : ∀ j, c4 (K + 4) j = if j = (i : Int) then (mHd A p i).2 else c (K + 4) j := fun j => by rw [hc4]; grind [zup]
    have v5 : ∀ j, c4 (K + 5) j = if j = (i : Int) then (mMe A p i).1 else c (K + 5) j := fun j => by rw [hc4]; grind [zup]
    have v6 : ∀ j, c4 (K + 6) j = if j = (i : Int) then (mMe A p i).2 else c (K + 6) j := fun j => by rw [hc4]; grind [zup]
    have v7 : ∀ j, c4 (K + 7) j = c (K + 7) j := fun j => by rw [hc4]; grind [zup]
    clear hc4
    have hS4 := hS.same (k4.st hd)
    have hs4 := k4.st hd
    have hme := mMe_ok A p i
    rw [ze_X3_followFrom_107, if_pos h1, h.2.2.2.2.1, if_pos (by omega), if_pos h1, e1, zbnd_some, k2.2 _ _ (by decide), if_pos h1, e2, zbnd_some, k4.2 _ _ (by decide), if_pos h1, k4.1 K (by omega), f4, k4.2 _ _ (by decide), k4.2 _ _ (by decide), if_pos (show c (K + 5) (-1) = 100 ∧ (0 : Int) ≤ (i : Int) ∧ (i : Int) < c (K + 5) (-2) from ⟨a4.1, by omega, by rw [a4.2]; omega⟩), k4.2 _ _ (by decide), if_pos hS.2.1, v5, if_pos rfl, zs_T_senseAt (d + 2) c4 hS4, zbnd_some, hs4 S (by omega) (by have := hS.1; omega), ← h9, k4.2 K (-1) (by decide), if_pos h1, k4.1 K (by omega), f6, k4.2 (K + 7) (-1) (by decide), k4.2 (K + 7) (-2) (by decide), zw_id' (by omega) (by omega), show (i : Int) + 1 = ((i + 1 : Nat) : Int) by omega]
    have hc7 : c (K + 7) (-1) = 102 ∧ (0 : Int) ≤ (i : Int) ∧ (i : Int) < c (K + 7) (-2) := ⟨a6.1, by omega, by rw [a6.2]; omega⟩
    have fin : ∀ v, v = (if 0 ≤ (mMe A p i).1 ∧ A 13 (mMe A p i).1 = p then 1 else 0) → ∃ c', zex zc_X3_followFrom zk_X3_followFrom (zrun zTab (d + 3)) (F + 1) 107 [(2, K), (2, S), (0, p), (3, 0), (0, ((i + 1 : Nat) : Int)), (3, 0)] [] (zup c4 (K + 7) i v) = some (0, zup c' K 13 1) ∧ KRow c c' K ∧ KHd c' K A p n.toNat ∧ ∀ j : Nat, (j : Int) < n → c' (K + 8) j = mR A p (c K 12) (-1) j := by
      intro v hv
      have k5 : KRow c (zup c4 (K + 7) i v) K := k4.up (by omega) (by omega) (by omega)
      obtain ⟨c', r1, r2, r3, r4⟩ := ih F (i + 1) _ (k5.lk h) (k5.lb hb) (hS.same (k5.st hd)) ((cview_same hS (k5.st hd)).trans hA) (k5.bas hB) (fun j hj => by
        rw [zup_ne (by omega), zup_ne (by omega), zup_ne (by omega), zup_ne (by omega), v3, v4, v5, v6]
        by_cases e : j = i
        · subst e
          rw [if_pos rfl, if_pos rfl, if_pos rfl, if_pos rfl, zup_eq ⟨rfl, rfl⟩]
          exact ⟨rfl, rfl, rfl, rfl, hv⟩
        · rw [if_neg (by omega), if_neg (by omega), if_neg (by omega), if_neg (by omega), zup_ne (by omega), v7]
          exact hH j (by omega)) (by rw [k5.1 K (by omega)]; exact hg) (by omega) (by omega)
      refine ⟨c', r1, k5.tr r2, r3, fun j hj => ?_⟩
      rw [r4 j hj, k5.1 K (by omega)]
    by_cases e : 0 ≤ (mMe A p i).1 ∧ (mMe A p i).1 < A 9 0
    · have hq := hS.2.2.2.2.2.2.2.2.2.1 (mMe A p i).1 e.1 (by omega)
      have hS0 := hS.1
      rw [if_pos e, hs4 (S + 2) (by omega) (by omega), if_neg (by omega), k4.2 _ _ (by decide), if_pos hq.2.1, hs4 _ (by omega) (by omega)]
      have h13 : A 13 (mMe A p i).1 = c (c (S + 2) (mMe A p i).1) 3 := by rw [← hA]; exact cv_13 (by rw [hA]; exact e.1) (by rw [hA]; omega)
      rw [← h13]
      by_cases e5 : A 13 (mMe A p i).1 = p
      · rw [if_pos e5, if_pos hc7]
        exact fin 1 (by rw [if_pos ⟨e.1, e5⟩])
      · rw [if_neg e5, if_pos hc7]
        exact fin 0 (by rw [if_neg (fun q => e5 q.2)])
    · rw [if_neg e, if_pos rfl, if_pos hc7]
      exact fin 0 (by rw [if_neg (by omega)])
end
