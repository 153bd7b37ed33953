/-! Senses and rules come and go. -/
theorem zs_T_isHead_l (d : Nat) {S w : Int} (c : zC) (h : LState c S) : ∀ (t : Nat) (F : Nat) (j : Int), t ≤ F → j + t = c S 3 → 0 ≤ j → ∃ v, zex zc_X8_isHead zk_X8_isHead (zrun zTab (d + 1)) (F + 1) 2 [(2, S), (1, w), (3, 0), (0, j), (3, 0)] [] c = some (v, c) ∧ ((v = 1 ∧ ∃ k, j ≤ k ∧ k < c S 3 ∧ c (c (S + 2) k) 0 = w) ∨ (v = 0 ∧ ∀ k, j ≤ k → k < c S 3 → c (c (S + 2) k) 0 ≠ w)) := by
  intro t
  induction t with
  | zero =>
    intro F j hF hj h0
    refine ⟨0, ?_, Or.inr ⟨rfl, fun k _ _ => by omega⟩⟩
    rw [ze_X8_isHead_2, if_pos h.2.1, if_neg (by omega)]
  | succ t ih =>
    intro F j hF hj h0
    obtain ⟨F, rfl⟩ : ∃ G, F = G + 1 := ⟨F - 1, by omega⟩
    have hs := zs_T_senseAt d (j := j) c h
    rw [if_pos (by omega)] at hs
    have h3 := h.2.2.2.2.2.2.2.2.2.2.2.2.2
    have hq := h.2.2.2.2.2.2.2.2.2.1 j h0 (by omega)
    have hS := h.1
    rw [ze_X8_isHead_2, if_pos h.2.1, if_pos (by omega), if_pos h.2.1, hs, zbnd_some, if_neg (by omega), if_pos hq.2.1]
    simp only [zcmp_eq]
    by_cases e : c (c (S + 2) j) 0 = w
    · rw [if_pos e]
      exact ⟨1, rfl, Or.inl ⟨rfl, j, Int.le_refl _, by omega, e⟩⟩
    · rw [if_neg e, zw_id' (by omega) (by omega)]
      obtain ⟨v, e1, e2⟩ := ih F (j + 1) (by omega) (by omega) (by omega)
      refine ⟨v, e1, ?_⟩
      rcases e2 with ⟨rfl, k, k1, k2, k3⟩ | ⟨rfl, k1⟩
      · exact Or.inl ⟨rfl, k, by omega, k2, k3⟩
      · refine Or.inr ⟨rfl, fun k q1 q2 => ?_⟩
        by_cases q : k = j
        · rw [q]; exact e
        · exact k1 k (by omega) q2
theorem zs_T_isHead (d : Nat) {S w : Int} (c : zC) (h : LState c S) : ∃ v, zrun zTab (d + 2) 70 [S, w] c = some (v, c) ∧ ((v = 1 ∧ ∃ k, 0 ≤ k ∧ k < c S 3 ∧ c (c (S + 2) k) 0 = w) ∨ (v = 0 ∧ ∀ k, 0 ≤ k → k < c S 3 → c (c (S + 2) k) 0 ≠ w)) := by
  have h3 := h.2.2.2.2.2.2.2.2.2.2.2.2.2
  rw [ze_X8_isHead]
  exact zs_T_isHead_l d c h (c S 3).toNat 19998 0 (by omega) (by omega) (by omega)
theorem zs_T_addSense (d : Nat) {S G : Int} (c : zC) (h : LState c S) (hn : c S 3 < 8) (g : LSense c G) (hG : G ≠ 0) (hd : G + 1 < S ∨ S + 38 ≤ G) : zrun zTab (d + 2) 71 [S, G] c = some (0, zup (zcpS c (c (S + 2) (c S 3)) G) S 3 (c S 3 + 1)) := by
  have h3 := h.2.2.2.2.2.2.2.2.2.2.2.2.2
  have hq := h.2.2.2.2.2.2.2.2.2.1 (c S 3) (by omega) (by omega)
  have hq1 := hq.1
  have hS := h.1
  have hc := zs_S_copyFrom d c hq.2 g hG (by omega)
  obtain ⟨-, h1, -, h4, -, -, ⟨h5, h6⟩, -⟩ := h
  have k1 : zcpS c (c (S + 2) (c S 3)) G S (-1) = 9 := by rw [zcpS_n (by decide)]; exact h1
  have k2 : zcpS c (c (S + 2) (c S 3)) G S 3 = c S 3 := by rw [zcpS_o (by omega) (by omega)]
  rw [ze_X8_addSense, if_pos h1, if_neg (by omega), if_pos h1, if_pos h1, h4, if_pos h5, h6, if_pos hn, if_pos h1, if_pos h1, if_pos ⟨h5, by omega, hn⟩, if_neg (by omega), if_pos hq.2.1, hc, zbnd_some, if_pos k1, if_pos k1, k2, zadd_id (by omega) (by omega)]
theorem zs_T_addRule (d : Nat) {S G : Int} (c : zC) (h : LState c S) (hn : c S 4 < 6) (g : c G (-1) = 7) (hG : G ≠ 0) (hd : G < S ∨ S + 38 ≤ G) : zrun zTab (d + 2) 72 [S, G] c = some (0, zup (zcpR c (c (S + 3) (c S 4)) G) S 4 (c S 4 + 1)) := by
  have h3 := h.2.2.2.2.2.2.2.2.2.2.2.2.2
  have hq := h.2.2.2.2.2.2.2.2.2.2.2.1 (c S 4) (by omega) (by omega)
  have hq1 := hq.1
  have hS := h.1
  have hc := zs_R_copyFrom d c hq.2 g hG (by omega)
  obtain ⟨-, h1, -, -, h4, -, -, ⟨h5, h6⟩, -⟩ := h
  have k1 : zcpR c (c (S + 3) (c S 4)) G S (-1) = 9 := by rw [zcpR_n (by decide)]; exact h1
  have k2 : zcpR c (c (S + 3) (c S 4)) G S 4 = c S 4 := by rw [zcpR_o (by omega)]
  rw [ze_X8_addRule, if_pos h1, if_neg (by omega), if_pos h1, if_pos h1, h4, if_pos h5, h6, if_pos hn, if_pos h1, if_pos h1, if_pos ⟨h5, by omega, hn⟩, if_neg (by omega), if_pos hq.2, hc, zbnd_some, if_pos k1, if_pos k1, k2, zadd_id (by omega) (by omega)]
/-- a row whose places from i to j hold what stood behind them -/
def zdn (c : zC) (a i j : Int) : zC := fun b k => if b = a ∧ i ≤ k ∧ k < j then c b (k + 1) else c b k
theorem zs_T_dropS_l (d : Nat) {S i : Int} (c : zC) (h : LState c S) (hi : 0 ≤ i) (hin : i < c S 3) : ∀ (t : Nat) (F : Nat) (j : Int), t ≤ F → j + t = c S 3 - 1 → i ≤ j →
    zex zc_X8_dropSense zk_X8_dropSense (zrun zTab d) (F + 1) 25 [(2, S), (3, 0), (2, c (S + 2) i), (0, j)] [] (zdn c (S + 2) i j) = some (0, zup (zup (zdn c (S + 2) i (c S 3 - 1)) S 3 (c S 3 - 1)) (S + 2) (c S 3 - 1) (c (S + 2) i)) := by
  have h3 := h.2.2.2.2.2.2.2.2.2.2.2.2.2
  have hQ := h.2.2.2.2.2.2.2.2.2.1
  obtain ⟨h0, h1, -, h4, -, -, ⟨h5, h6⟩, -⟩ := h
  have zn : ∀ b k j, k < 0 → zdn c (S + 2) i j b k = c b k := fun b k j hk => by unfold zdn; rw [if_neg (by omega)]
  have zo : ∀ b k j, b ≠ S + 2 → zdn c (S + 2) i j b k = c b k := fun b k j hk => by unfold zdn; rw [if_neg (by omega)]
  intro t
  induction t with
  | zero =>
    intro F j hF hj hij
    have : j = c S 3 - 1 := by omega
    subst this
    have e1 : zdn c (S + 2) i (c S 3 - 1) S 3 = c S 3 := zo _ _ _ (by omega)
    have e2 : zdn c (S + 2) i (c S 3 - 1) S 1 = S + 2 := (zo _ _ _ (by omega)).trans h4
    have e3 : zdn c (S + 2) i (c S 3 - 1) S (-1) = 9 := (zn _ _ _ (by decide)).trans h1
    have hq := (hQ i hi (by omega))
    rw [ze_X8_dropSense_25, if_pos e3, e1, zadd_id (by omega) (by omega), if_neg (by omega), if_pos e3, if_pos e3, zsub_id (by omega) (by omega)]
    have u1 : zup (zdn c (S + 2) i (c S 3 - 1)) S 3 (c S 3 - 1) S (-1) = 9 := (zup_ne (by omega)).trans e3
    have u2 : zup (zdn c (S + 2) i (c S 3 - 1)) S 3 (c S 3 - 1) S 1 = S + 2 := (zup_ne (by omega)).trans e2
    have u3 : zup (zdn c (S + 2) i (c S 3 - 1)) S 3 (c S 3 - 1) S 3 = c S 3 - 1 := zup_eq ⟨rfl, rfl⟩
    rw [if_pos u1, if_pos u1, u2, u3, zup_ne (by omega), zup_ne (by omega), zn _ _ _ (by decide), zn _ _ _ (by decide), h5, h6, if_pos ⟨rfl, by omega, by omega⟩, zup_ne (by omega), zn _ _ _ (by decide), if_pos hq.2.1]
  | succ t ih =>
    intro F j hF hj hij
    obtain ⟨F, rfl⟩ : ∃ G, F = G + 1 := ⟨F - 1, by omega⟩
    have e1 : zdn c (S + 2) i j S 3 = c S 3 := zo _ _ _ (by omega)
    have e2 : zdn c (S + 2) i j S 1 = S + 2 := (zo _ _ _ (by omega)).trans h4
    have e3 : zdn c (S + 2) i j S (-1) = 9 := (zn _ _ _ (by decide)).trans h1
    have e4 : zdn c (S + 2) i j (S + 2) (j + 1) = c (S + 2) (j + 1) := by unfold zdn; rw [if_neg (by omega)]
    have hstep : zup (zdn c (S + 2) i j) (S + 2) j (c (S + 2) (j + 1)) = zdn c (S + 2) i (j + 1) := by
      funext b k
      unfold zup zdn
      by_cases q : b = S + 2 ∧ k = j
      · obtain ⟨rfl, rfl⟩ := q
        rw [if_pos ⟨rfl, rfl⟩, if_pos ⟨rfl, by omega, by omega⟩]
      · rw [if_neg q]
        by_cases q2 : b = S + 2 ∧ i ≤ k ∧ k < j
        · rw [if_pos q2, if_pos ⟨q2.1, q2.2.1, by omega⟩]
        · rw [if_neg q2, if_neg (by omega)]
    have hq := hQ (j + 1) (by omega) (by omega)
    rw [ze_X8_dropSense_25, if_pos e3, e1, zadd_id (by omega) (by omega), if_pos (by omega), if_pos e3, if_pos e3, e2, zn _ _ _ (by decide), zn _ _ _ (by decide), h5, h6, if_pos ⟨rfl, by omega, by omega⟩, if_pos ⟨rfl, by omega, by omega⟩, e4, zn _ _ _ (by decide), if_pos hq.2.1, hstep, zw_id' (by omega) (by omega)]
    exact ih F (j + 1) (by omega) (by omega) (by omega)
theorem zs_T_dropSense (d : Nat) {S i : Int} (c : zC) (h : LState c S) (hi : 0 ≤ i) (hin : i < c S 3) : zrun zTab (d + 2) 73 [S, i] c = some (0, zup (zup (zdn c (S + 2) i (c S 3 - 1)) S 3 (c S 3 - 1)) (S + 2) (c S 3 - 1) (c (S + 2) i)) := by
  have e0 : zdn c (S + 2) i i = c := by funext b k; unfold zdn; rw [if_neg (by omega)]
  have e := zs_T_dropS_l (d + 1) c h hi hin (c S 3 - 1 - i).toNat 19998 i (by have := h.2.2.2.2.2.2.2.2.2.2.2.2.2; omega) (by omega) (by omega)
  rw [e0] at e
  have hs := zs_T_senseAt d (j := i) c h
  rw [if_pos ⟨hi, hin⟩] at hs
  have hq := (h.2.2.2.2.2.2.2.2.2.1 i hi (by have := h.2.2.2.2.2.2.2.2.2.2.2.2.2; omega)).1
  have h3 := h.2.2.2.2.2.2.2.2.2.2.2.2.2
  obtain ⟨h0, h1, -, h4, -, -, ⟨h5, h6⟩, -⟩ := h
  rw [ze_X8_dropSense, if_pos h1, hs, zbnd_some, if_neg (by omega), if_pos h1, if_pos h1, h4, if_pos h5, h6, if_pos (by omega)]
  exact e
theorem zs_T_dropR_l (d : Nat) {S i : Int} (c : zC) (h : LState c S) (hi : 0 ≤ i) (hin : i < c S 4) : ∀ (t : Nat) (F : Nat) (j : Int), t ≤ F → j + t = c S 4 - 1 → i ≤ j →
    zex zc_X8_dropRule zk_X8_dropRule (zrun zTab d) (F + 1) 25 [(2, S), (3, 0), (2, c (S + 3) i), (0, j)] [] (zdn c (S + 3) i j) = some (0, zup (zup (zdn c (S + 3) i (c S 4 - 1)) S 4 (c S 4 - 1)) (S + 3) (c S 4 - 1) (c (S + 3) i)) := by
  have h3 := h.2.2.2.2.2.2.2.2.2.2.2.2.2
  have hQ := h.2.2.2.2.2.2.2.2.2.2.2.1
  obtain ⟨h0, h1, -, -, h4, -, -, ⟨h5, h6⟩, -⟩ := h
  have zn : ∀ b k j, k < 0 → zdn c (S + 3) i j b k = c b k := fun b k j hk => by unfold zdn; rw [if_neg (by omega)]
  have zo : ∀ b k j, b ≠ S + 3 → zdn c (S + 3) i j b k = c b k := fun b k j hk => by unfold zdn; rw [if_neg (by omega)]
  intro t
  induction t with
  | zero =>
    intro F j hF hj hij
    have : j = c S 4 - 1 := by omega
    subst this
    have e1 : zdn c (S + 3) i (c S 4 - 1) S 4 = c S 4 := zo _ _ _ (by omega)
    have e2 : zdn c (S + 3) i (c S 4 - 1) S 2 = S + 3 := (zo _ _ _ (by omega)).trans h4
    have e3 : zdn c (S + 3) i (c S 4 - 1) S (-1) = 9 := (zn _ _ _ (by decide)).trans h1
    have hq := (hQ i hi (by omega))
    rw [ze_X8_dropRule_25, if_pos e3, e1, zadd_id (by omega) (by omega), if_neg (by omega), if_pos e3, if_pos e3, zsub_id (by omega) (by omega)]
    have u1 : zup (zdn c (S + 3) i (c S 4 - 1)) S 4 (c S 4 - 1) S (-1) = 9 := (zup_ne (by omega)).trans e3
    have u2 : zup (zdn c (S + 3) i (c S 4 - 1)) S 4 (c S 4 - 1) S 2 = S + 3 := (zup_ne (by omega)).trans e2
    have u3 : zup (zdn c (S + 3) i (c S 4 - 1)) S 4 (c S 4 - 1) S 4 = c S 4 - 1 := zup_eq ⟨rfl, rfl⟩
    rw [if_pos u1, if_pos u1, u2, u3, zup_ne (by omega), zup_ne (by omega), zn _ _ _ (by decide), zn _ _ _ (by decide), h5, h6, if_pos ⟨rfl, by omega, by omega⟩, zup_ne (by omega), zn _ _ _ (by decide), if_pos hq.2]
  | succ t ih =>
    intro F j hF hj hij
    obtain ⟨F, rfl⟩ : ∃ G, F = G + 1 := ⟨F - 1, by omega⟩
    have e1 : zdn c (S + 3) i j S 4 = c S 4 := zo _ _ _ (by omega)
    have e2 : zdn c (S + 3) i j S 2 = S + 3 := (zo _ _ _ (by omega)).trans h4
    have e3 : zdn c (S + 3) i j S (-1) = 9 := (zn _ _ _ (by decide)).trans h1
    have e4 : zdn c (S + 3) i j (S + 3) (j + 1) = c (S + 3) (j + 1) := by unfold zdn; rw [if_neg (by omega)]
    have hstep : zup (zdn c (S + 3) i j) (S + 3) j (c (S + 3) (j + 1)) = zdn c (S + 3) i (j + 1) := by
      funext b k
      unfold zup zdn
      by_cases q : b = S + 3 ∧ k = j
      · obtain ⟨rfl, rfl⟩ := q
        rw [if_pos ⟨rfl, rfl⟩, if_pos ⟨rfl, by omega, by omega⟩]
      · rw [if_neg q]
        by_cases q2 : b = S + 3 ∧ i ≤ k ∧ k < j
        · rw [if_pos q2, if_pos ⟨q2.1, q2.2.1, by omega⟩]
        · rw [if_neg q2, if_neg (by omega)]
    have hq := hQ (j + 1) (by omega) (by omega)
    rw [ze_X8_dropRule_25, if_pos e3, e1, zadd_id (by omega) (by omega), if_pos (by omega), if_pos e3, if_pos e3, e2, zn _ _ _ (by decide), zn _ _ _ (by decide), h5, h6, if_pos ⟨rfl, by omega, by omega⟩, if_pos ⟨rfl, by omega, by omega⟩, e4, zn _ _ _ (by decide), if_pos hq.2, hstep, zw_id' (by omega) (by omega)]
    exact ih F (j + 1) (by omega) (by omega) (by omega)
theorem zs_T_dropRule (d : Nat) {S i : Int} (c : zC) (h : LState c S) (hi : 0 ≤ i) (hin : i < c S 4) : zrun zTab (d + 2) 74 [S, i] c = some (0, zup (zup (zdn c (S + 3) i (c S 4 - 1)) S 4 (c S 4 - 1)) (S + 3) (c S 4 - 1) (c (S + 3) i)) := by
  have e0 : zdn c (S + 3) i i = c := by funext b k; unfold zdn; rw [if_neg (by omega)]
  have e := zs_T_dropR_l (d + 1) c h hi hin (c S 4 - 1 - i).toNat 19998 i (by have := h.2.2.2.2.2.2.2.2.2.2.2.2.2; omega) (by omega) (by omega)
  rw [e0] at e
  have hs := zs_T_ruleAt d (j := i) c h
  rw [if_pos ⟨hi, hin⟩] at hs
  have hq := (h.2.2.2.2.2.2.2.2.2.2.2.1 i hi (by have := h.2.2.2.2.2.2.2.2.2.2.2.2.2; omega)).1
  have h3 := h.2.2.2.2.2.2.2.2.2.2.2.2.2
  obtain ⟨h0, h1, -, -, h4, -, -, ⟨h5, h6⟩, -⟩ := h
  rw [ze_X8_dropRule, if_pos h1, hs, zbnd_some, if_neg (by omega), if_pos h1, if_pos h1, h4, if_pos h5, h6, if_pos (by omega)]
  exact e
