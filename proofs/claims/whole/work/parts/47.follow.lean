/-! The class's links: a page is followed. -/
theorem LLk.num {c c' : zC} {K n0 n : Int} (h : LLk c K n0) (o : ∀ b, b ≠ K → ∀ k, c' b k = c b k) (f : ∀ k, k < 10 → c' K k = c K k) (g : c' K 10 = n) (h2 : 0 ≤ n ∧ n ≤ 20) : LLk c' K n := by
  obtain ⟨h0, h1, ⟨f0, f1, f2, f3, f4, f5, f6, f7, f8, f9⟩, ⟨⟨a1, a2⟩, ⟨b1, b2⟩, ⟨c1, c2⟩, ⟨d1, d2⟩, ⟨e1, e2⟩, ⟨i1, i2⟩, ⟨j1, j2⟩, ⟨k1, k2⟩, ⟨l1, l2⟩, m1⟩, -⟩ := h
  unfold LLk LArr
  rw [f _ (by decide), f _ (by decide), f _ (by decide), f _ (by decide), f _ (by decide), f _ (by decide), f _ (by decide), f _ (by decide), f _ (by decide), f _ (by decide), f _ (by decide), g]
  simp only [o (K + 1) (by omega), o (K + 2) (by omega), o (K + 3) (by omega), o (K + 4) (by omega), o (K + 5) (by omega), o (K + 6) (by omega), o (K + 7) (by omega), o (K + 8) (by omega), o (K + 9) (by omega), o (K + 10) (by omega)]
  exact ⟨h0, h1, ⟨f0, f1, f2, f3, f4, f5, f6, f7, f8, f9⟩, ⟨⟨a1, a2⟩, ⟨b1, b2⟩, ⟨c1, c2⟩, ⟨d1, d2⟩, ⟨e1, e2⟩, ⟨i1, i2⟩, ⟨j1, j2⟩, ⟨k1, k2⟩, ⟨l1, l2⟩, m1⟩, trivial, h2⟩
theorem LLb.num {c c' : zC} {K : Int} (h : LLb c K) (o : ∀ b, b ≠ K → ∀ k, c' b k = c b k) : LLb c' K := by
  intro i i0 i1
  have := h i i0 i1
  unfold BShape LArr at this ⊢
  simp only [o (K + 1) (by omega), o (K + 11 + 3 * i) (by omega), o (K + 11 + 3 * i + 1) (by omega), o (K + 11 + 3 * i + 2) (by omega)]
  exact this
theorem KBas.num {c c' : zC} {K p n : Int} {A : zA2} (h : KBas c K A p n) (o : ∀ b, b ≠ K → ∀ k, c' b k = c b k) : KBas c' K A p n := by
  intro i hi
  have := h i hi
  unfold BLat at this ⊢
  simp only [o (K + 2) (by omega), o (K + 11 + 3 * (i : Int)) (by omega), o (K + 11 + 3 * (i : Int) + 1) (by omega), o (K + 11 + 3 * (i : Int) + 2) (by omega)]
  exact this
theorem KHd.num {c c' : zC} {K p : Int} {n : Nat} {A : zA2} (h : KHd c K A p n) (o : ∀ b, b ≠ K → ∀ k, c' b k = c b k) : KHd c' K A p n := by
  intro i hi
  rw [o _ (by omega), o _ (by omega), o _ (by omega), o _ (by omega), o _ (by omega)]
  exact h i hi
/-- a page is as pages are -/
def PgOK (A : zA2) (p : Int) : Prop := (0 ≤ A 0 p ∧ A 0 p ≤ 20) ∧ (∀ i : Nat, (i : Int) < A 0 p → 0 < A 3 (20 * p + i) ∧ A 3 (20 * p + i) < 1125899906842624) ∧ ∀ j k : Nat, j ≤ k → (k : Int) < A 0 p → A 2 (20 * p + j) ≤ A 2 (20 * p + k)
def SnOK (A : zA2) : Prop := (0 ≤ A 14 0 ∧ A 14 0 ≤ 1000) ∧ ∀ s, 0 ≤ s → s < A 9 0 → A 10 s ≠ 0
/-- a Linking is right -/
def KOK (c : zC) (K : Int) (A : zA2) (p : Int) : Prop := LLk c K (A 0 p) ∧ LLb c K ∧ KBas c K A p (A 0 p) ∧ KHd c K A p (A 0 p).toNat ∧ (∀ j : Nat, (j : Int) < A 0 p → c (K + 8) j = mR A p (A 1 p) (-1) j) ∧ c K 11 = A 15 0 ∧ c K 12 = A 1 p ∧ c K 13 = 1
def KAll (c c' : zC) (K : Int) : Prop := (∀ b, (b < K ∨ K + 71 ≤ b) → ∀ k, c' b k = c b k) ∧ ∀ b k, k < 0 → c' b k = c b k
theorem KF.all {c c' : zC} {K : Int} (g : KF c c' K) : KAll c c' K := ⟨fun b hb k => g.1 b (by omega) k, g.2.1⟩
theorem KAll.rf (c : zC) (K : Int) : KAll c c K := ⟨fun _ _ _ => rfl, fun _ _ _ => rfl⟩
theorem KAll.tr {c c1 c2 : zC} {K : Int} (h : KAll c c1 K) (g : KAll c1 c2 K) : KAll c c2 K :=
  ⟨fun b hb k => (g.1 b hb k).trans (h.1 b hb k), fun b k hk => (g.2 b k hk).trans (h.2 b k hk)⟩
theorem KAll.up {c c' : zC} {K b k v : Int} (h : KAll c c' K) (h1 : K ≤ b) (h2 : b < K + 71) (h3 : 0 ≤ k) : KAll c (zup c' b k v) K :=
  ⟨fun x hx y => by rw [zup_ne (by omega)]; exact h.1 x hx y, fun x y hy => by rw [zup_ne (by omega)]; exact h.2 x y hy⟩
theorem KAll.st {c c' : zC} {K S : Int} (g : KAll c c' K) (hd : K + 71 ≤ S ∨ S + 38 ≤ K) : zsameS c c' S := fun b b1 b2 k => g.1 b (by omega) k
theorem KP.ok {c c' : zC} {K p : Int} {A : zA2} (g : KP c c' K (K + 9)) (h : KOK c K A p) : KOK c' K A p := by
  obtain ⟨h1, h2, h3, h4, h5, h6⟩ := h
  have r := g.row (Or.inr rfl)
  refine ⟨r.lk h1, r.lb h2, r.bas h3, fun j hj => ?_, fun j hj => ?_, ?_⟩
  · rw [g.1 _ (by omega) (by omega), g.1 _ (by omega) (by omega), g.1 _ (by omega) (by omega), g.1 _ (by omega) (by omega), g.1 _ (by omega) (by omega)]
    exact h4 j hj
  · rw [g.1 _ (by omega) (by omega)]; exact h5 j hj
  · rw [g.1 K (by omega) (by omega), g.1 K (by omega) (by omega), g.1 K (by omega) (by omega)]; exact h6
theorem KOK.wd {c : zC} {K p : Int} {A : zA2} (h : KOK c K A p) : KWd c K A p (A 0 p) := by
  obtain ⟨h1, h2, h3, h4, h5, h6, h7⟩ := h
  exact ⟨h1, h6, fun i hi => ⟨(h3 i hi).1, (h4 i (by omega)).2.1, (h4 i (by omega)).2.2.1, (h4 i (by omega)).2.2.2.2⟩⟩
section
variable {c : zC} {K n p S : Int} {A : zA2} (d : Nat)
theorem zs_K_followFrom (h : LLk c K n) (hb : LLb c K) (hS : LState c S) (hA : cview c S = A) (hR : RulesOK c S) (hd : K + 71 ≤ S ∨ S + 38 ≤ K) (hp : 0 ≤ p ∧ p < 4) (hpg : PgOK A p) (hsn : SnOK A) : ∃ c', zrun zTab (d + 4) 15 [K, S, p] c = some (0, c') ∧ KAll c c' K ∧ KOK c' K A p := by
  have hP := (hS.2.2.2.2.2.2.2.2.1 p hp.1 hp.2).2
  have hS0 := hS.1
  have hpg1 := hpg.1
  have hPs : c (S + 4 + 3 * p) 2 = A 0 p := by rw [← hA]; exact (cv_0 hp.1 hp.2).symm
  have hPb : c (S + 4 + 3 * p) 3 = A 1 p := by rw [← hA]; exact (cv_1 hp.1 hp.2).symm
  have hg : c S 6 = A 15 0 := by rw [← hA]; rfl
  have hz : zmin (A 0 p) 20 = A 0 p := by have := hpg.1; unfold zmin; rw [if_neg (by omega)]
  have h1 := h.2.1
  rw [ze_X3_followFrom, if_neg (by omega), if_pos hS.2.1, zs_T_pageAt (d + 2) c hS, zbnd_some, if_pos hp, if_neg (by omega), if_pos hP.1, if_pos h1, hPs, hz]
  have o1 : ∀ b, b ≠ K → ∀ k, zup c K 10 (A 0 p) b k = c b k := fun b hb k => zup_ne (by omega)
  rw [o1 S (by omega), if_pos hS.2.1, zup_ne (c := c) (b := K) (j := -1) (by omega), if_pos h1, o1 S (by omega), hg]
  have o2 : ∀ b, b ≠ K → ∀ k, zup (zup c K 10 (A 0 p)) K 11 (A 15 0) b k = c b k := fun b hb k => by rw [zup_ne (by omega)]; exact o1 b hb k
  rw [o2 (S + 4 + 3 * p) (by omega), if_pos hP.1, o2 (S + 4 + 3 * p) (by omega), hPb, zup_ne (c := zup c K 10 (A 0 p)) (b := K) (j := -1) (by omega), zup_ne (c := c) (b := K) (j := -1) (by omega), if_pos h1]
  obtain ⟨c3, hc3⟩ : ∃ c3, c3 = zup (zup (zup c K 10 (A 0 p)) K 11 (A 15 0)) K 12 (A 1 p) := ⟨_, rfl⟩
  rw [← hc3]
  have o3 : ∀ b, b ≠ K → ∀ k, c3 b k = c b k := fun b hb k => by rw [hc3, zup_ne (by omega)]; exact o2 b hb k
  have k3 : KAll c c3 K := by rw [hc3]; exact (((KAll.rf c K).up (by omega) (by omega) (by omega)).up (by omega) (by omega) (by omega)).up (by omega) (by omega) (by omega)
  have l3 : LLk c3 K (A 0 p) := h.num o3 (fun k hk => by rw [hc3, zup_ne (by omega), zup_ne (by omega), zup_ne (by omega)]) (by rw [hc3, zup_ne (by omega), zup_ne (by omega), zup_eq ⟨rfl, rfl⟩]) hpg.1
  have g11 : c3 K 11 = A 15 0 := by rw [hc3, zup_ne (by omega), zup_eq ⟨rfl, rfl⟩]
  have g12 : c3 K 12 = A 1 p := by rw [hc3, zup_eq ⟨rfl, rfl⟩]
  clear hc3
  have s3 := k3.st hd
  obtain ⟨c4, q1, q2, q3⟩ := zs_K_ff_1 d hd hp rfl hpg.2.1 (A 0 p).toNat (19998 - (A 0 p).toNat) 0 c3 l3 (hb.num o3) (hS.same s3) ((cview_same hS s3).trans hA) (RulesOK.same hS hR s3) (fun j hj => by omega) (by omega)
  rw [show 19998 - (A 0 p).toNat + (A 0 p).toNat + 1 = 19999 by omega] at q1
  have s4 : zsameS c c4 S := fun b b1 b2 k => by rw [q2.st hd b b1 b2 k]; exact s3 b b1 b2 k
  obtain ⟨c5, r1, r2, r3, r4⟩ := zs_K_ff_2 (p := p) d hd hsn.1 hsn.2 hpg.2.2 (A 0 p).toNat (19997 - (A 0 p).toNat) 0 c4 (q2.lk l3) (q2.lb (hb.num o3)) (hS.same s4) ((cview_same hS s4).trans hA) q3 (fun j hj => by omega) (by rw [q2.1 K (by omega)]; exact g11) (by omega) (by omega)
  rw [show 19997 - (A 0 p).toNat + 1 = 19998 - (A 0 p).toNat by omega] at r1
  have o5 : ∀ b, b ≠ K → ∀ k, zup c5 K 13 1 b k = c5 b k := fun b hb k => zup_ne (by omega)
  have l5 : LLk c5 K (A 0 p) := r2.lk (q2.lk l3)
  have e5 : ∀ k, c5 K k = c3 K k := fun k => by rw [r2.1 K (by omega), q2.1 K (by omega)]
  refine ⟨zup c5 K 13 1, q1.trans r1, (k3.tr (q2.all.tr r2.kf.all)).up (by omega) (by omega) (by omega), l5.num o5 (fun k hk => zup_ne (by omega)) (by rw [zup_ne (by omega)]; exact l5.2.2.2.2.1) hpg.1, (r2.lb (q2.lb (hb.num o3))).num o5, (r2.bas q3).num o5, r3.num o5, fun j hj => ?_, ?_, ?_, zup_eq ⟨rfl, rfl⟩⟩
  · rw [o5 _ (by omega), r4 j hj, q2.1 K (by omega), g12]
  · rw [zup_ne (by omega), e5, g11]
  · rw [zup_ne (by omega), e5, g12]
theorem zs_K_enoughBudget (h : KOK c K A p) (hpg : PgOK A p) (h8 : A 9 0 ≤ 8) : ∃ c', zrun zTab (d + 4) 37 [K] c = some (mCnt (mRs A p 20 (-1) (A 0 p).toNat) (-1) (A 0 p).toNat, c') ∧ KP c c' K (K + 9) ∧ KOK c' K A p := by
  obtain ⟨c', r1, r2, r3⟩ := zs_K_goThrough (R := K + 9) (most := 20) (left := -1) d h.wd (Or.inr rfl) hpg.2.2 h8
  refine ⟨c', ?_, r2, r2.ok h⟩
  have hk := h.1
  rw [ze_X3_enoughBudget, if_pos hk.2.1, if_pos hk.2.1, hk.2.2.1.2.2.2.2.2.2.2.2.1, r1, zbnd_some]
/-- the first word from j on that a link left out makes another one -/
def mFw (A : zA2) (p x : Int) : Nat → Nat → Int
  | 0, _ => -5
  | t + 1, j => if mR A p (A 1 p) x j = mR A p (A 1 p) (-1) j then mFw A p x t (j + 1) else j
theorem zs_K_fo_l (x : Int) (hpg : PgOK A p) : ∀ (t F j : Nat), KOK c K A p → (∀ j : Nat, (j : Int) < A 0 p → c (K + 9) j = mR A p (A 1 p) x j) → t ≤ F → (j : Int) + t = A 0 p → zex zc_X3_firstOtherWithout zk_X3_firstOtherWithout (zrun zTab (d + 1)) (F + 1) 18 [(2, K), (3, 0), (0, (j : Int))] [] c = some (mFw A p x t j, c) := by
  intro t
  induction t with
  | zero =>
    intro F j h hr hF hj
    rw [ze_X3_firstOtherWithout_18, if_neg (by omega), if_pos h.1.2.1, h.1.2.2.2.2.1, if_neg (by omega)]
    rfl
  | succ t ih =>
    intro F j h hr hF hj
    obtain ⟨F, rfl⟩ : ∃ G, F = G + 1 := ⟨F - 1, by omega⟩
    have h1 := h.1.2.1
    have f8 := h.1.2.2.1.2.2.2.2.2.2.2.2.1
    have a9 := h.1.2.2.2.1.2.2.2.2.2.2.2.2.1
    have hn := h.1.2.2.2.2.2
    have ef : mFw A p x (t + 1) j = if mR A p (A 1 p) x j = mR A p (A 1 p) (-1) j then mFw A p x t (j + 1) else (j : Int) := rfl
    rw [ze_X3_firstOtherWithout_18, if_neg (by omega), if_pos h1, h.1.2.2.2.2.1, if_pos (by omega), if_pos h1, f8, if_pos a9.1, a9.2, if_pos (by omega), if_pos h1, if_pos (show c (K + 9) (-1) = 100 ∧ (0 : Int) ≤ (j : Int) ∧ (j : Int) < 20 from ⟨a9.1, by omega, by omega⟩), if_pos h1, zs_K_reasonAt d h.1, zbnd_some, if_pos (show 0 ≤ (j : Int) ∧ (j : Int) < A 0 p by omega), hr j (by omega), h.2.2.2.2.1 j (by omega), zw_id' (by omega) (by omega), show (j : Int) + 1 = ((j + 1 : Nat) : Int) by omega, ih F (j + 1) h hr (by omega) (by omega), ef]
    split <;> rfl
theorem zs_K_firstOther (h : KOK c K A p) (hpg : PgOK A p) (h8 : A 9 0 ≤ 8) {x : Nat} (hx : (x : Int) < A 0 p) : ∃ c', zrun zTab (d + 4) 38 [K, (x : Int)] c = some (mFw A p x ((A 0 p).toNat - (x + 1)) (x + 1), c') ∧ KP c c' K (K + 9) ∧ KOK c' K A p := by
  obtain ⟨c', r1, r2, r3⟩ := zs_K_goThrough (R := K + 9) (most := A 1 p) (left := (x : Int)) d h.wd (Or.inr rfl) hpg.2.2 h8
  have h5 := r2.ok h
  refine ⟨c', ?_, r2, h5⟩
  have hk := h.1
  have hpg1 := hpg.1
  rw [ze_X3_firstOtherWithout, if_pos hk.2.1, if_pos hk.2.1, if_pos hk.2.1, hk.2.2.1.2.2.2.2.2.2.2.2.1, h.2.2.2.2.2.2.1, r1, zbnd_some, zadd_id (by omega) (by omega), show (x : Int) + 1 = ((x + 1 : Nat) : Int) by omega]
  exact zs_K_fo_l (d + 2) x hpg _ 19998 (x + 1) h5 r3 (by omega) (by omega)
end
