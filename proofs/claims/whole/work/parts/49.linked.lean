/-! The class's links: the linked senses and words. -/
def mLS (A : zA2) (p : Int) : Nat → Int
  | 0 => 0
  | j + 1 => if mR A p (A 1 p) (-1) j = 0 then zior (mLS A p j) (zishl 1 (mMe A p j).1) else mLS A p j
def mLw (A : zA2) (p k : Int) : Nat → Nat → Int → Int
  | 0, _, _ => -5
  | t + 1, j, x => if mR A p (A 1 p) (-1) j = 0 then (if x = k then (j : Int) else mLw A p k t (j + 1) (x + 1)) else mLw A p k t (j + 1) x
/-- the sense to which a word is linked, or none -/
def mTo (A : zA2) (p j : Int) : Int := if 0 ≤ j ∧ j < A 0 p ∧ mR A p (A 1 p) (-1) j.toNat = 0 then (mMe A p j).1 else -5
def zrow (c : zC) (R : Int) (f : Int → Int) (n : Int) : zC := fun b k => if b = R ∧ 0 ≤ k ∧ k < n then f k else c b k
theorem zrow_0 (c : zC) (R : Int) (f : Int → Int) : zrow c R f 0 = c := by
  funext b k
  unfold zrow
  rw [if_neg (by omega)]
theorem zrow_up (c : zC) (R : Int) (f : Int → Int) {n : Int} (h : 0 ≤ n) : zup (zrow c R f n) R n (f n) = zrow c R f (n + 1) := by
  funext b k
  by_cases e : b = R ∧ k = n
  · rw [zup_eq e]
    unfold zrow
    rw [if_pos (by omega), e.2]
  · rw [zup_ne (by omega)]
    unfold zrow
    by_cases e2 : b = R ∧ 0 ≤ k ∧ k < n
    · rw [if_pos e2, if_pos (by omega)]
    · rw [if_neg e2, if_neg (by omega)]
theorem zrow_o {c : zC} {R b k n : Int} {f : Int → Int} (h : b ≠ R ∨ k < 0) : zrow c R f n b k = c b k := by
  unfold zrow; rw [if_neg (by omega)]
theorem zrow_i {c : zC} {R k n : Int} {f : Int → Int} (h : 0 ≤ k) (h2 : k < n) : zrow c R f n R k = f k := by
  unfold zrow; rw [if_pos ⟨rfl, h, h2⟩]
section
variable {c : zC} {K p : Int} {A : zA2} (d : Nat)
theorem zs_K_ls_l (hk : KOK c K A p) : ∀ (t F j : Nat), t ≤ F → (j : Int) + t = A 0 p → zex zc_X3_linkedSenses zk_X3_linkedSenses (zrun zTab (d + 1)) (F + 1) 4 [(2, K), (0, mLS A p j), (0, (j : Int))] [] c = some (mLS A p (A 0 p).toNat, c) := by
  have h1 := hk.1.2.1
  have hn := hk.1.2.2.2.2
  intro t
  induction t with
  | zero =>
    intro F j hF hj
    rw [ze_X3_linkedSenses_4, if_pos h1, hn.1, if_neg (by omega), show (A 0 p).toNat = j by omega]
  | succ t ih =>
    intro F j hF hj
    obtain ⟨F, rfl⟩ : ∃ G, F = G + 1 := ⟨F - 1, by omega⟩
    have hj2 : 0 ≤ (j : Int) ∧ (j : Int) < A 0 p := by omega
    have e : mLS A p (j + 1) = if mR A p (A 1 p) (-1) j = 0 then zior (mLS A p j) (zishl 1 (mMe A p j).1) else mLS A p j := rfl
    have hi := ih F (j + 1) (by omega) (by omega)
    rw [ze_X3_linkedSenses_4, if_pos h1, hn.1, if_pos hj2.2, if_pos h1, zs_K_reasonAt d hk.1, zbnd_some, if_pos hj2, hk.2.2.2.2.1 j (by omega), zw_id' (by omega) (by omega), show (j : Int) + 1 = ((j + 1 : Nat) : Int) by omega]
    by_cases e2 : mR A p (A 1 p) (-1) j = 0
    · rw [if_pos e2] at e
      rw [if_pos e2, if_pos h1, zs_K_meantAt d hk.1, zbnd_some, if_pos hj2, (hk.wd.2.2 j (by omega)).2.2.1, ← e]
      exact hi
    · rw [if_neg e2] at e
      rw [if_neg e2, ← e]
      exact hi
theorem zs_K_linkedSenses (hk : KOK c K A p) : zrun zTab (d + 2) 33 [K] c = some (mLS A p (A 0 p).toNat, c) := by
  have hn := hk.1.2.2.2.2
  rw [ze_X3_linkedSenses]
  exact zs_K_ls_l d hk (A 0 p).toNat 19998 0 (by omega) (by omega)
theorem zs_K_lw_l (hk : KOK c K A p) (k : Int) : ∀ (t F j : Nat) (x : Int), t ≤ F → (j : Int) + t = A 0 p → 0 ≤ x → x ≤ j → zex zc_X3_linkedWord zk_X3_linkedWord (zrun zTab (d + 1)) (F + 1) 4 [(2, K), (0, k), (0, x), (0, (j : Int))] [] c = some (mLw A p k t j x, c) := by
  have h1 := hk.1.2.1
  have hn := hk.1.2.2.2.2
  intro t
  induction t with
  | zero =>
    intro F j x hF hj hx hx2
    rw [ze_X3_linkedWord_4, if_pos h1, hn.1, if_neg (by omega)]
    rfl
  | succ t ih =>
    intro F j x hF hj hx hx2
    obtain ⟨F, rfl⟩ : ∃ G, F = G + 1 := ⟨F - 1, by omega⟩
    have hj2 : 0 ≤ (j : Int) ∧ (j : Int) < A 0 p := by omega
    have e : mLw A p k (t + 1) j x = if mR A p (A 1 p) (-1) j = 0 then (if x = k then (j : Int) else mLw A p k t (j + 1) (x + 1)) else mLw A p k t (j + 1) x := rfl
    rw [ze_X3_linkedWord_4, if_pos h1, hn.1, if_pos hj2.2, if_pos h1, zs_K_reasonAt d hk.1, zbnd_some, if_pos hj2, hk.2.2.2.2.1 j (by omega), zw_id' (by omega) (by omega), zw_id' (by omega) (by omega), show (j : Int) + 1 = ((j + 1 : Nat) : Int) by omega, e]
    by_cases e2 : mR A p (A 1 p) (-1) j = 0
    · rw [if_pos e2, if_pos e2]
      by_cases e3 : x = k
      · rw [if_pos e3, if_pos e3]
      · rw [if_neg e3, if_neg e3]
        exact ih F (j + 1) (x + 1) (by omega) (by omega) (by omega) (by omega)
    · rw [if_neg e2, if_neg e2]
      exact ih F (j + 1) x (by omega) (by omega) (by omega) (by omega)
theorem zs_K_linkedWord (hk : KOK c K A p) (k : Int) : zrun zTab (d + 2) 35 [K, k] c = some (mLw A p k (A 0 p).toNat 0 0, c) := by
  have hn := hk.1.2.2.2.2
  rw [ze_X3_linkedWord]
  exact zs_K_lw_l d hk k (A 0 p).toNat 19998 0 0 (by omega) (by omega) (by omega) (by omega)
theorem zs_K_linkedTo (hk : KOK c K A p) (i : Int) : zrun zTab (d + 2) 29 [K, i] c = some (mTo A p i, c) := by
  rw [zs_K_linkedSenseAt d hk.1]
  unfold mTo
  by_cases e : 0 ≤ i ∧ i < A 0 p
  · have h1 := hk.2.2.2.2.1 i.toNat (by omega)
    have h2 := (hk.wd.2.2 i.toNat (by omega)).2.2.1
    rw [show ((i.toNat : Nat) : Int) = i by omega] at h1 h2
    rw [h1, h2]
  · rw [if_neg (fun q => e ⟨q.1, q.2.1⟩), if_neg (fun q => e ⟨q.1, q.2.1⟩)]
theorem KOK.far {c c' : zC} {K p : Int} {A : zA2} (h : KOK c K A p) (g : ∀ b, K ≤ b → b < K + 71 → ∀ k, c' b k = c b k) : KOK c' K A p := by
  obtain ⟨h1, h2, h3, h4, h5, h6⟩ := h
  have hn := h1.2.2.2.2.2
  have hm : ∀ b, b ≠ K → ∀ k, (fun b k => if K ≤ b ∧ b < K + 71 then c' b k else c b k) b k = c b k := fun b hb k => by
    show (if K ≤ b ∧ b < K + 71 then c' b k else c b k) = c b k
    split
    · exact g b (by omega) (by omega) k
    · rfl
  have e : ∀ b, K ≤ b → b < K + 71 → c' b = c b := fun b b1 b2 => funext (g b b1 b2)
  refine ⟨?_, fun i i0 i1 => ?_, fun i hi => ?_, fun i hi => ?_, fun i hi => ?_, ?_⟩
  · unfold LLk LArr at h1 ⊢
    rw [e K (by omega) (by omega), e (K + 1) (by omega) (by omega), e (K + 2) (by omega) (by omega), e (K + 3) (by omega) (by omega), e (K + 4) (by omega) (by omega), e (K + 5) (by omega) (by omega), e (K + 6) (by omega) (by omega), e (K + 7) (by omega) (by omega), e (K + 8) (by omega) (by omega), e (K + 9) (by omega) (by omega), e (K + 10) (by omega) (by omega)]
    exact h1
  · have := h2 i i0 i1
    unfold BShape LArr at this ⊢
    rw [e (K + 1) (by omega) (by omega), e (K + 11 + 3 * i) (by omega) (by omega), e (K + 11 + 3 * i + 1) (by omega) (by omega), e (K + 11 + 3 * i + 2) (by omega) (by omega)]
    exact this
  · have := h3 i hi
    unfold BLat at this ⊢
    rw [e (K + 2) (by omega) (by omega), e (K + 11 + 3 * i) (by omega) (by omega), e (K + 11 + 3 * i + 1) (by omega) (by omega), e (K + 11 + 3 * i + 2) (by omega) (by omega)]
    exact this
  · have := h4 i hi
    rw [e (K + 3) (by omega) (by omega), e (K + 4) (by omega) (by omega), e (K + 5) (by omega) (by omega), e (K + 6) (by omega) (by omega), e (K + 7) (by omega) (by omega)]
    exact this
  · rw [e (K + 8) (by omega) (by omega)]; exact h5 i hi
  · rw [e K (by omega) (by omega)]; exact h6
theorem zs_K_cp_l {R : Int} (hR : R < K ∨ K + 71 ≤ R) (hR0 : R ≠ 0) (hRa : c R (-1) = 100 ∧ c R (-2) = 20) (hk : KOK c K A p) : ∀ (t F j : Nat), t ≤ F → j + t = 20 → zex zc_X3_copyLinkedSenses zk_X3_copyLinkedSenses (zrun zTab (d + 2)) (F + 1) 2 [(2, K), (2, R), (0, (j : Int))] [] (zrow c R (mTo A p) j) = some (0, zrow c R (mTo A p) 20) := by
  intro t
  induction t with
  | zero =>
    intro F j hF hj
    rw [ze_X3_copyLinkedSenses_2, if_neg hR0, zrow_o (Or.inr (by decide)), if_pos hRa.1, zrow_o (Or.inr (by decide)), hRa.2, if_neg (by omega), show (j : Int) = 20 by omega]
  | succ t ih =>
    intro F j hF hj
    obtain ⟨F, rfl⟩ : ∃ G, F = G + 1 := ⟨F - 1, by omega⟩
    have hk2 : KOK (zrow c R (mTo A p) j) K A p := hk.far (fun b b1 b2 k => zrow_o (Or.inl (by omega)))
    rw [ze_X3_copyLinkedSenses_2, if_neg hR0, zrow_o (Or.inr (by decide)), if_pos hRa.1, zrow_o (Or.inr (by decide)), hRa.2, if_pos (by omega), zrow_o (Or.inr (by decide)), if_pos hk.1.2.1, zs_K_linkedTo d hk2, zbnd_some, zrow_o (Or.inr (by decide)), zrow_o (Or.inr (by decide)), if_pos ⟨hRa.1, by omega, by omega⟩, zrow_up c R (mTo A p) (by omega), zw_id' (by omega) (by omega), show (j : Int) + 1 = ((j + 1 : Nat) : Int) by omega]
    exact ih F (j + 1) (by omega) (by omega)
theorem zs_K_copyLinked {R : Int} (hR : R < K ∨ K + 71 ≤ R) (hR0 : R ≠ 0) (hRa : c R (-1) = 100 ∧ c R (-2) = 20) (hk : KOK c K A p) : zrun zTab (d + 3) 36 [K, R] c = some (0, zrow c R (mTo A p) 20) := by
  rw [ze_X3_copyLinkedSenses]
  have := zs_K_cp_l d hR hR0 hRa hk 20 19998 0 (by omega) (by omega)
  rw [show ((0 : Nat) : Int) = 0 from rfl, zrow_0] at this
  exact this
end
