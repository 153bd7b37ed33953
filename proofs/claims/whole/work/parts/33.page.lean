/-! The class's pages, senses and rules. -/
theorem zs_P_sectionCount (d : Nat) {P : Int} (c : zC) (h : LPage c P) (hb : ∀ i, 0 ≤ i → i < c P 2 → 0 ≤ c (P + 2) i ∧ c (P + 2) i ≤ 3) : zrun zTab (d + 2) 44 [P] c = some (if c P 2 < 1 then 0 else c (P + 2) (c P 2 - 1) + 1, c) := by
  have h0 := h
  obtain ⟨h1, h2, h3, ⟨h4, h5⟩, ⟨h6, h7⟩, h8, h9⟩ := h
  have hb1 := hb (c P 2 - 1)
  rw [ze_X4_sectionCount]
  simp only [zs_P_sectionAt d c h0, zbnd_some]
  grind [zadd_id, zsub_id]
theorem zs_P_addWord (d : Nat) {P w s : Int} (c : zC) (h : LPage c P) : zrun zTab (d + 1) 45 [P, w, s] c = some (0, if c P 2 < 20 then zup (zup (zup c (P + 1) (c P 2) w) (P + 2) (c P 2) s) P 2 (c P 2 + 1) else c) := by
  obtain ⟨h1, h2, h3, ⟨h4, h5⟩, ⟨h6, h7⟩, h8, h9⟩ := h
  rw [ze_X4_addWord]
  grind [zup, zadd_id]
theorem zs_P_replaceWord (d : Nat) {P i w : Int} (c : zC) (h : LPage c P) : zrun zTab (d + 1) 47 [P, i, w] c = some (0, if 0 ≤ i ∧ i < c P 2 then zup c (P + 1) i w else c) := by
  obtain ⟨h1, h2, h3, ⟨h4, h5⟩, ⟨h6, h7⟩, h8, h9⟩ := h
  rw [ze_X4_replaceWord]
  grind [zup]
/-- the words and sections behind i, moved up by one, down to j -/
def zshiftU (c : zC) (P j n : Int) : zC := fun b k => if (b = P + 1 ∨ b = P + 2) ∧ j < k ∧ k ≤ n then c b (k - 1) else c b k
theorem zs_P_insert_l (d : Nat) {P i w s n : Int} (c : zC) (h : LPage c P) (hn : c P 2 = n) (hi : 0 ≤ i) (hn2 : n < 20) : ∀ (t : Nat) (F : Nat) (j : Int), t ≤ F → j = i + t → j ≤ n → zex zc_X4_insertWord zk_X4_insertWord (zrun zTab d) (F + 1) 71 [(2, P), (0, i), (1, w), (3, 0), (0, s), (0, j)] [] (zshiftU c P j n) = some (0, zup (zup (zup (zshiftU c P i n) (P + 1) i w) (P + 2) i s) P 2 (n + 1)) := by
  obtain ⟨h1, h2, h3, ⟨h4, h5⟩, ⟨h6, h7⟩, h8, h9⟩ := h
  intro t
  induction t with
  | zero =>
    intro F j hF hj hjn
    have : j = i := by omega
    subst this
    rw [ze_X4_insertWord_71]
    grind [zup, zshiftU, zadd_id]
  | succ t ih =>
    intro F j hF hj hjn
    obtain ⟨F, rfl⟩ : ∃ G, F = G + 1 := ⟨F - 1, by omega⟩
    have hstep : zup (zup (zshiftU c P j n) (P + 1) j (c (P + 1) (j - 1))) (P + 2) j (c (P + 2) (j - 1)) = zshiftU c P (j - 1) n := by
      funext b k
      grind [zup, zshiftU]
    have e := ih F (j - 1) (by omega) (by omega) (by omega)
    rw [← hstep] at e
    rw [ze_X4_insertWord_71, zsub_id (by omega) (by omega), zw_id' (by omega) (by omega), show j + -1 = j - 1 by omega]
    grind [zup, zshiftU]
theorem zs_P_insertWord (d : Nat) {P i w : Int} (c : zC) (h : LPage c P) (hi : 0 ≤ i) (hin : i ≤ c P 2) (hn : c P 2 < 20) : zrun zTab (d + 2) 46 [P, i, w] c = some (0, zup (zup (zup (zshiftU c P i (c P 2)) (P + 1) i w) (P + 2) i (if i < c P 2 then c (P + 2) i else if c P 2 = 0 then 0 else c (P + 2) (c P 2 - 1))) P 2 (c P 2 + 1)) := by
  have h0 := h
  have e0 : zshiftU c P (c P 2) (c P 2) = c := by funext b k; grind [zshiftU]
  obtain ⟨h1, h2, h3, ⟨h4, h5⟩, ⟨h6, h7⟩, h8, h9⟩ := h
  have el := fun s => zs_P_insert_l (d + 1) (w := w) (s := s) c h0 rfl hi hn (c P 2 - i).toNat 19998 (c P 2) (by omega) (by omega) (by omega)
  rw [e0] at el
  rw [ze_X4_insertWord]
  simp only [zs_P_sectionAt d c h0, zbnd_some, show (19999 : Nat) = 19998 + 1 from rfl, el]
  grind [zsub_id]
theorem zs_P_hasSection_l (d : Nat) {P s : Int} (c : zC) (h : LPage c P) : ∀ (t : Nat) (F : Nat) (j : Int), t ≤ F → j + t = c P 2 → 0 ≤ j → ∃ v, zex zc_X4_hasSection zk_X4_hasSection (zrun zTab d) (F + 1) 2 [(2, P), (0, s), (0, j)] [] c = some (v, c) ∧ ((v = 1 ∧ ∃ k, j ≤ k ∧ k < c P 2 ∧ c (P + 2) k = s) ∨ (v = 0 ∧ ∀ k, j ≤ k → k < c P 2 → c (P + 2) k ≠ s)) := by
  obtain ⟨h1, h2, h3, ⟨h4, h5⟩, ⟨h6, h7⟩, h8, h9⟩ := h
  intro t
  induction t with
  | zero =>
    intro F j hF hj h0
    refine ⟨0, ?_, Or.inr ⟨rfl, fun k _ _ => by omega⟩⟩
    rw [ze_X4_hasSection_2]
    grind
  | succ t ih =>
    intro F j hF hj h0
    obtain ⟨F, rfl⟩ : ∃ G, F = G + 1 := ⟨F - 1, by omega⟩
    rw [ze_X4_hasSection_2]
    by_cases e : c (P + 2) j = s
    · exact ⟨1, by grind, Or.inl ⟨rfl, j, Int.le_refl _, by omega, e⟩⟩
    · obtain ⟨v, e1, e2⟩ := ih F (j + 1) (by omega) (by omega) (by omega)
      refine ⟨v, by rw [zw_id' (by omega) (by omega)]; grind, ?_⟩
      rcases e2 with ⟨rfl, k, k1, k2, k3⟩ | ⟨rfl, k1⟩
      · exact Or.inl ⟨rfl, k, by omega, k2, k3⟩
      · refine Or.inr ⟨rfl, fun k q1 q2 => ?_⟩
        by_cases q : k = j
        · rw [q]; exact e
        · exact k1 k (by omega) q2
theorem zs_P_hasSection (d : Nat) {P s : Int} (c : zC) (h : LPage c P) : ∃ v, zrun zTab (d + 1) 49 [P, s] c = some (v, c) ∧ ((v = 1 ∧ ∃ k, 0 ≤ k ∧ k < c P 2 ∧ c (P + 2) k = s) ∨ (v = 0 ∧ ∀ k, 0 ≤ k → k < c P 2 → c (P + 2) k ≠ s)) := by
  have h0 := h
  obtain ⟨h1, h2, h3, ⟨h4, h5⟩, ⟨h6, h7⟩, h8, h9⟩ := h
  rw [ze_X4_hasSection]
  exact zs_P_hasSection_l d c h0 (c P 2).toNat 19998 0 (by omega) (by omega) (by omega)
/-- sections above s moved down by one, ahead of j -/
def zcloseS (c : zC) (P s j : Int) : zC := fun b k => if b = P + 2 ∧ 0 ≤ k ∧ k < j ∧ s < c b k then c b k - 1 else c b k
theorem zs_P_close_l (d : Nat) {P s : Int} (c : zC) (h : LPage c P) (hb : ∀ i, 0 ≤ i → i < c P 2 → 0 ≤ c (P + 2) i ∧ c (P + 2) i ≤ 100) : ∀ (t : Nat) (F : Nat) (j : Int), t ≤ F → j + t = c P 2 → 0 ≤ j → zex zc_X4_closeUpSections zk_X4_closeUpSections (zrun zTab d) (F + 1) 2 [(2, P), (0, s), (0, j)] [] (zcloseS c P s j) = some (0, zcloseS c P s (c P 2)) := by
  obtain ⟨h1, h2, h3, ⟨h4, h5⟩, ⟨h6, h7⟩, h8, h9⟩ := h
  intro t
  induction t with
  | zero =>
    intro F j hF hj h0
    have : j = c P 2 := by omega
    subst this
    rw [ze_X4_closeUpSections_2]
    grind [zcloseS]
  | succ t ih =>
    intro F j hF hj h0
    obtain ⟨F, rfl⟩ : ∃ G, F = G + 1 := ⟨F - 1, by omega⟩
    have hbj := hb j h0 (by omega)
    have e := ih F (j + 1) (by omega) (by omega) (by omega)
    rw [ze_X4_closeUpSections_2, zw_id' (by omega) (by omega)]
    by_cases q : c (P + 2) j ≤ s
    · have hstep : zcloseS c P s (j + 1) = zcloseS c P s j := by funext b k; grind [zcloseS]
      rw [hstep] at e
      grind [zcloseS]
    · have hstep : zup (zcloseS c P s j) (P + 2) j (c (P + 2) j - 1) = zcloseS c P s (j + 1) := by funext b k; grind [zcloseS, zup]
      rw [← hstep] at e
      grind [zcloseS, zsub_id]
theorem zs_P_closeUp (d : Nat) {P s : Int} (c : zC) (h : LPage c P) (hb : ∀ i, 0 ≤ i → i < c P 2 → 0 ≤ c (P + 2) i ∧ c (P + 2) i ≤ 100) : zrun zTab (d + 1) 50 [P, s] c = some (0, zcloseS c P s (c P 2)) := by
  have h0 := h
  obtain ⟨h1, h2, h3, ⟨h4, h5⟩, ⟨h6, h7⟩, h8, h9⟩ := h
  have e := zs_P_close_l d (s := s) c h0 hb (c P 2).toNat 19998 0 (by omega) (by omega) (by omega)
  have e0 : zcloseS c P s 0 = c := by funext b k; grind [zcloseS]
  rw [e0] at e
  rw [ze_X4_closeUpSections]
  exact e
/-- the words and sections behind i moved down by one, up to j -/
def zshiftD (c : zC) (P i j : Int) : zC := fun b k => if (b = P + 1 ∨ b = P + 2) ∧ i ≤ k ∧ k < j then c b (k + 1) else c b k
/-- a page without its word i; its section is closed up if it was alone -/
def zdrop (c : zC) (P i : Int) (al : Prop) [Decidable al] : zC := if al then zcloseS (zup (zshiftD c P i (c P 2 - 1)) P 2 (c P 2 - 1)) P (c (P + 2) i) (c P 2 - 1) else zup (zshiftD c P i (c P 2 - 1)) P 2 (c P 2 - 1)
theorem zs_P_drop_l (d : Nat) {P i s : Int} (c : zC) (h : LPage c P) (hi : 0 ≤ i) (hin : i < c P 2) : ∀ (t : Nat) (F : Nat) (j : Int), t ≤ F → j + t = c P 2 - 1 → i ≤ j →
    zex zc_X4_dropWord zk_X4_dropWord (zrun zTab d) (F + 1) 46 [(2, P), (3, 0), (0, s), (0, j)] [] (zshiftD c P i j) = zbnd (zrun zTab d 49 [P, s] (zup (zshiftD c P i (c P 2 - 1)) P 2 (c P 2 - 1))) (fun v1 c2 => if v1 = 0 then if c2 P (-1) = 5 then zbnd (zrun zTab d 50 [P, s] c2) (fun _ c4 => some (0, c4)) else none else some (0, c2)) := by
  obtain ⟨h1, h2, h3, ⟨h4, h5⟩, ⟨h6, h7⟩, h8, h9⟩ := h
  intro t
  induction t with
  | zero =>
    intro F j hF hj h0
    have : j = c P 2 - 1 := by omega
    subst this
    have e2 : zshiftD c P i (c P 2 - 1) P 2 = c P 2 := by grind [zshiftD]
    rw [ze_X4_dropWord_46, zadd_id (by omega) (by omega), e2, zsub_id (by omega) (by omega)]
    grind [zshiftD, zup]
  | succ t ih =>
    intro F j hF hj h0
    obtain ⟨F, rfl⟩ : ∃ G, F = G + 1 := ⟨F - 1, by omega⟩
    have hstep : zup (zup (zshiftD c P i j) (P + 1) j (c (P + 1) (j + 1))) (P + 2) j (c (P + 2) (j + 1)) = zshiftD c P i (j + 1) := by
      funext b k
      grind [zup, zshiftD]
    have e := ih F (j + 1) (by omega) (by omega) (by omega)
    rw [← e, ← hstep, ze_X4_dropWord_46, zadd_id (by omega) (by omega), zw_id' (by omega) (by omega)]
    grind [zup, zshiftD]
theorem zs_P_dropWord (d : Nat) {P i : Int} (c : zC) (h : LPage c P) (hi : 0 ≤ i) (hin : i < c P 2) (hb : ∀ k, 0 ≤ k → k < c P 2 → 0 ≤ c (P + 2) k ∧ c (P + 2) k ≤ 100) (al : Prop) [Decidable al] (hal : al ↔ ∀ k, 0 ≤ k → k < c P 2 → k ≠ i → c (P + 2) k ≠ c (P + 2) i) : zrun zTab (d + 2) 48 [P, i] c = some (0, zdrop c P i al) := by
  have h0 := h
  obtain ⟨h1, h2, h3, ⟨h4, h5⟩, ⟨h6, h7⟩, h8, h9⟩ := h
  have e0 : zshiftD c P i i = c := by funext b k; grind [zshiftD]
  have e := zs_P_drop_l (d + 1) (s := c (P + 2) i) c h0 hi hin (c P 2 - 1 - i).toNat 19998 i (by omega) (by omega) (by omega)
  rw [e0] at e
  have hm : LPage (zup (zshiftD c P i (c P 2 - 1)) P 2 (c P 2 - 1)) P := by
    unfold LPage LArr
    grind [zup, zshiftD]
  have hs2 : zup (zshiftD c P i (c P 2 - 1)) P 2 (c P 2 - 1) P 2 = c P 2 - 1 := by grind [zup]
  have hse : ∀ k, 0 ≤ k → k < c P 2 - 1 → zup (zshiftD c P i (c P 2 - 1)) P 2 (c P 2 - 1) (P + 2) k = if k < i then c (P + 2) k else c (P + 2) (k + 1) := by
    intro k k1 k2
    grind [zup, zshiftD]
  have hbm : ∀ k, 0 ≤ k → k < zup (zshiftD c P i (c P 2 - 1)) P 2 (c P 2 - 1) P 2 → 0 ≤ zup (zshiftD c P i (c P 2 - 1)) P 2 (c P 2 - 1) (P + 2) k ∧ zup (zshiftD c P i (c P 2 - 1)) P 2 (c P 2 - 1) (P + 2) k ≤ 100 := by
    intro k k1 k2
    rw [hs2] at k2
    rw [hse k k1 k2]
    split
    · exact hb k k1 (by omega)
    · exact hb (k + 1) (by omega) (by omega)
  obtain ⟨v, e1, e2⟩ := zs_P_hasSection d (s := c (P + 2) i) _ hm
  have e3 := zs_P_closeUp d (s := c (P + 2) i) _ hm hbm
  rw [hs2] at e2 e3
  have hrun : zrun zTab (d + 2) 48 [P, i] c = zex zc_X4_dropWord zk_X4_dropWord (zrun zTab (d + 1)) (19998 + 1) 46 [(2, P), (3, 0), (0, c (P + 2) i), (0, i)] [] c := by
    rw [ze_X4_dropWord]
    grind
  rw [hrun, e, e1]
  simp only [zbnd_some, e3]
  unfold zdrop
  have hkm : zup (zshiftD c P i (c P 2 - 1)) P 2 (c P 2 - 1) P (-1) = 5 := hm.1
  rw [if_pos hkm]
  rcases e2 with ⟨rfl, k, k1, k2, k3⟩ | ⟨rfl, k1⟩
  · have hn : ¬ al := by
      rw [hal]
      intro q
      rw [hse k k1 k2] at k3
      split at k3
      · exact q k k1 (by omega) (by omega) k3
      · exact q (k + 1) (by omega) (by omega) (by omega) k3
    rw [if_neg hn, if_neg (by decide)]
  · have hn : al := by
      rw [hal]
      intro k q1 q2 q3 q4
      by_cases q : k < i
      · have := k1 k q1 (by omega)
        rw [hse k q1 (by omega), if_pos q] at this
        exact this q4
      · have := k1 (k - 1) (by omega) (by omega)
        rw [hse (k - 1) (by omega) (by omega), if_neg (by omega), show k - 1 + 1 = k by omega] at this
        exact this q4
    rw [if_pos hn, if_pos rfl]
/-- a page's words copied -/
def zcpW (c : zC) (P F : Int) : zC := fun b k => if b = P + 1 ∧ 0 ≤ k ∧ k < 20 then c (F + 1) k else if b = P + 2 ∧ 0 ≤ k ∧ k < 20 then c (F + 2) k else if b = P ∧ k = 2 then c F 2 else c b k
theorem zs_P_copyWords (d : Nat) {P F : Int} (c : zC) (h : LPage c P) (g : LPage c F) (hF : F ≠ 0) (h1 : F + 2 < P ∨ P + 2 < F) : zrun zTab (d + 1) 51 [P, F] c = some (0, zcpW c P F) := by
  obtain ⟨h1, h2, h3, ⟨h4, h5⟩, ⟨h6, h7⟩, h8, h9⟩ := h
  obtain ⟨g1, g2, g3, ⟨g4, g5⟩, ⟨g6, g7⟩, g8, g9⟩ := g
  rw [ze_X4_copyWords, if_neg hF, if_pos g1, if_pos h1, g2, h2, if_pos (by omega)]
  have k1 : ∀ a j, a ≠ P + 1 → zcopy c (F + 1) 0 (P + 1) 0 20 a j = c a j := by intro a j q; grind [zcopy]
  have k2 : ∀ a j, j < 0 → zcopy c (F + 1) 0 (P + 1) 0 20 a j = c a j := by intro a j q; grind [zcopy]
  rw [if_pos (by rw [k1 _ _ (by omega)]; exact g1), if_pos (by rw [k1 _ _ (by omega)]; exact h1), k1 F 1 (by omega), k1 P 1 (by omega), g3, h3]
  rw [if_pos (by rw [k2 _ _ (by decide), k2 _ _ (by decide), k2 _ _ (by decide), k2 _ _ (by decide)]; omega)]
  have k3 : ∀ a j, a ≠ P + 2 → zcopy (zcopy c (F + 1) 0 (P + 1) 0 20) (F + 2) 0 (P + 2) 0 20 a j = zcopy c (F + 1) 0 (P + 1) 0 20 a j := by intro a j q; grind [zcopy]
  rw [if_pos (by rw [k3 _ _ (by omega), k1 _ _ (by omega)]; exact g1), if_pos (by rw [k3 _ _ (by omega), k1 _ _ (by omega)]; exact h1), k3 F 2 (by omega), k1 F 2 (by omega)]
  congr 2
  funext b k
  grind [zcopy, zup, zcpW]
theorem zs_P_copyFrom (d : Nat) {P F : Int} (c : zC) (h : LPage c P) (g : LPage c F) (hF : F ≠ 0) (h1 : F + 2 < P ∨ P + 2 < F) : zrun zTab (d + 2) 52 [P, F] c = some (0, zup (zcpW c P F) P 3 (c F 3)) := by
  rw [ze_X4_copyFrom, if_neg hF, if_pos h.1, zs_P_copyWords d c h g hF h1, zbnd_some]
  have k1 : zcpW c P F F (-1) = c F (-1) := by grind [zcpW]
  have k2 : zcpW c P F P (-1) = c P (-1) := by grind [zcpW]
  have k3 : zcpW c P F F 3 = c F 3 := by grind [zcpW]
  rw [if_pos (k1.trans g.1), if_pos (k2.trans h.1), k3]
