/-! The reference's heap and the calls' state; changes are kept. -/
def MV (f : Int → Int) (n fl : Int) (σ : aS) : Prop := (MOK f 0 ∧ mview f 0 = σ.1) ∧ (n = σ.2.2.1.1 ∧ (0 ≤ n ∧ n ≤ 8) ∧ ∀ j, 0 ≤ j → j < n → MOK f (1482 * (j + 1)) ∧ mview f (1482 * (j + 1)) = σ.2.2.1.2 j) ∧ (fl = σ.2.1.1 ∧ (fl = 0 ∨ fl = 1) ∧ (fl = 1 → MOK f 13338 ∧ mview f 13338 = σ.2.1.2))
def MB (f : Int → Int) (n lc : Int) (tp : Int × (Int → Int) × Int) : Prop := n = tp.1 ∧ (0 ≤ n ∧ n ≤ 80) ∧ (∀ k, 0 ≤ k → k < n → f k = tp.2.1 k ∧ 0 ≤ f k ∧ f k ≤ 127) ∧ (lc = 0 ∧ tp.2.2 = -5 ∨ (1 ≤ lc ∧ lc ≤ 3) ∧ tp.2.2 = lc)
def ME (he a b d : Int) (ed : Int × Int × Int) : Prop := he = 0 ∧ ed = (-5, -5, -5) ∨ he = 1 ∧ ed = (a, b, d)
def RM (c : zC) (σ : aS) : Prop := MO c ∧ MV (c 682) (c 681 1) (c 681 2) σ ∧ MB (c 683) (c 681 4) (c 681 8) σ.2.2.2.1 ∧ ME (c 681 24) (c 681 25) (c 681 26) (c 681 27) σ.2.2.2.2
section
variable {c c' : zC} {σ : aS}
theorem RM.v (h : RM c σ) : VOK σ.1 := by rw [← h.2.1.1.2]; exact h.2.1.1.1.v
/-- rows that are only used within a call have changed -/
theorem RM.sc (h : RM c σ) (ms : MS c c') (g : ∀ k, (k = 1 ∨ k = 2 ∨ k = 4 ∨ k = 8 ∨ (24 ≤ k ∧ k ≤ 27)) → c' 681 k = c 681 k) (g2 : ∀ k, c' 682 k = c 682 k) (g3 : ∀ k, c' 683 k = c 683 k) : RM c' σ := by
  obtain ⟨h1, h2, h3, h4⟩ := h
  refine ⟨h1.ms ms, ?_, ?_, ?_⟩
  · rw [funext g2, g 1 (by omega), g 2 (by omega)]; exact h2
  · rw [funext g3, g 4 (by omega), g 8 (by omega)]; exact h3
  · rw [g 24 (by omega), g 25 (by omega), g 26 (by omega), g 27 (by omega)]; exact h4
theorem RM.far (h : RM c σ) (g : ∀ b, 681 ≤ b → ∀ k, c' b k = c b k) : RM c' σ := by
  obtain ⟨h1, h2, h3, h4⟩ := h
  have e : ∀ b, 681 ≤ b → c' b = c b := fun b hb => funext (g b hb)
  unfold RM MO LArr
  rw [e 681 (by decide), e 682 (by decide), e 683 (by decide), e 684 (by decide), e 685 (by decide), e 686 (by decide), e 687 (by decide), e 688 (by decide), e 689 (by decide), e 690 (by decide), e 691 (by decide), e 692 (by decide), e 693 (by decide), e 694 (by decide), e 695 (by decide), e 696 (by decide), e 697 (by decide)]
  exact ⟨h1, h2, h3, h4⟩
/-- the present row has changed -/
theorem RM.st {A : zA2} (h : RM c σ) (ms : MS c c') (g : ∀ k, (k = 1 ∨ k = 2 ∨ k = 4 ∨ k = 8 ∨ (24 ≤ k ∧ k ≤ 27)) → c' 681 k = c 681 k) (g2 : ∀ k, 1482 ≤ k → c' 682 k = c 682 k) (g3 : ∀ k, c' 683 k = c 683 k) (m : MOK (c' 682) 0) (e : mview (c' 682) 0 = A) : RM c' (A, σ.2) := by
  obtain ⟨h1, ⟨-, ⟨a1, a2, a3⟩, a4, a5, a6⟩, h3, h4⟩ := h
  refine ⟨h1.ms ms, ⟨⟨m, e⟩, ⟨by rw [g 1 (by omega)]; exact a1, by rw [g 1 (by omega)]; exact a2, fun j j0 j1 => ?_⟩, by rw [g 2 (by omega)]; exact a4, by rw [g 2 (by omega)]; exact a5, fun x => ?_⟩, ?_, ?_⟩
  · rw [g 1 (by omega)] at j1
    have q := a3 j j0 j1
    have s := mshift (g := c' 682) (o2 := 1482 * (j + 1)) q.1 (fun k k0 k1 => g2 _ (by omega))
    exact ⟨s.1, s.2.trans q.2⟩
  · rw [g 2 (by omega)] at x
    have q := a6 x
    have s := mshift (g := c' 682) (o2 := 13338) q.1 (fun k k0 k1 => g2 _ (by omega))
    exact ⟨s.1, s.2.trans q.2⟩
  · rw [funext g3, g 4 (by omega), g 8 (by omega)]; exact h3
  · rw [g 24 (by omega), g 25 (by omega), g 26 (by omega), g 27 (by omega)]; exact h4
/-- the tape has changed -/
theorem RM.tp {tp : Int × (Int → Int) × Int} (h : RM c σ) (ms : MS c c') (g : ∀ k, (k = 1 ∨ k = 2 ∨ (24 ≤ k ∧ k ≤ 27)) → c' 681 k = c 681 k) (g2 : ∀ k, c' 682 k = c 682 k) (m : MB (c' 683) (c' 681 4) (c' 681 8) tp) : RM c' (aTp σ tp) := by
  obtain ⟨h1, h2, h3, h4⟩ := h
  refine ⟨h1.ms ms, ?_, m, ?_⟩
  · rw [funext g2, g 1 (by omega), g 2 (by omega)]; exact h2
  · rw [g 24 (by omega), g 25 (by omega), g 26 (by omega), g 27 (by omega)]; exact h4
/-- an edit has been told -/
theorem RM.ed {ed : Int × Int × Int} (h : RM c σ) (ms : MS c c') (g : ∀ k, (k = 1 ∨ k = 2 ∨ k = 4 ∨ k = 8) → c' 681 k = c 681 k) (g2 : ∀ k, c' 682 k = c 682 k) (g3 : ∀ k, c' 683 k = c 683 k) (e : c' 681 24 = 1 ∧ c' 681 25 = ed.1 ∧ c' 681 26 = ed.2.1 ∧ c' 681 27 = ed.2.2) : RM c' (σ.1, σ.2.1, σ.2.2.1, σ.2.2.2.1, ed) := by
  obtain ⟨h1, h2, h3, h4⟩ := h
  refine ⟨h1.ms ms, ?_, ?_, Or.inr ⟨e.1, by rw [e.2.1, e.2.2.1, e.2.2.2]⟩⟩
  · rw [funext g2, g 1 (by omega), g 2 (by omega)]; exact h2
  · rw [funext g3, g 4 (by omega), g 8 (by omega)]; exact h3
/-- a row of numbers copied -/
def zcop (c : zC) (a b n : Int) : zC := fun x k => if x = 682 ∧ 1482 * b ≤ k ∧ k < 1482 * b + n then c 682 (1482 * a + (k - 1482 * b)) else c x k
theorem zcop_o {a b n x k : Int} (h : x ≠ 682 ∨ k < 1482 * b ∨ 1482 * b + n ≤ k) : zcop c a b n x k = c x k := by unfold zcop; rw [if_neg (by omega)]
theorem zcop_i {a b n k : Int} (h : 0 ≤ k) (h1 : k < n) : zcop c a b n 682 (1482 * b + k) = c 682 (1482 * a + k) := by
  unfold zcop; rw [if_pos ⟨rfl, by omega, by omega⟩, show 1482 * b + k - 1482 * b = k by omega]
theorem zcop_ms {a b n : Int} (h : 0 ≤ b) : MS c (zcop c a b n) := ⟨fun x k hk => zcop_o (by omega), fun k hk => zcop_o (Or.inl (by decide))⟩
theorem zcop_up {a b n : Int} (h0 : 0 ≤ n) : zup (zcop c a b n) 682 (1482 * b + n) (c 682 (1482 * a + n)) = zcop c a b (n + 1) := by
  funext x k
  unfold zcop
  by_cases e : x = 682 ∧ k = 1482 * b + n
  · rw [zup_eq e, if_pos (by omega), e.2, show 1482 * b + n - 1482 * b = n by omega]
  · rw [zup_ne (by omega)]
    by_cases e2 : x = 682 ∧ 1482 * b ≤ k ∧ k < 1482 * b + n
    · rw [if_pos e2, if_pos (by omega)]
    · rw [if_neg e2, if_neg (by omega)]
theorem zm_copies_l (d : Nat) {a b : Int} (h : MO c) (ha : 0 ≤ a ∧ a ≤ 9) (hb : 0 ≤ b ∧ b ≤ 9) (hab : a ≠ b) : ∀ (t F : Nat) (n : Int), t ≤ F → n + t = 1482 → 0 ≤ n → zex zc_X12_copies zk_X12_copies (zrun zTab d) (F + 1) 2 [(2, 681), (0, a), (0, b), (0, n)] [] (zcop c a b n) = some (0, zcop c a b 1482) := by
  intro t
  induction t with
  | zero =>
    intro F n hF hn hn0
    rw [ze_X12_copies_2, if_neg (by omega), show n = 1482 by omega]
  | succ t ih =>
    intro F n hF hn hn0
    obtain ⟨F, rfl⟩ : ∃ G, F = G + 1 := ⟨F - 1, by omega⟩
    have h2 : MO (zcop c a b n) := h.ms (zcop_ms hb.1)
    rw [ze_X12_copies_2, if_pos (by omega), if_pos h2.k, if_pos h2.k, h2.f.1, zmul_id (by omega) (by omega), zmul_id (by omega) (by omega), zadd_id (by omega) (by omega), zadd_id (by omega) (by omega), if_pos (h2.r682 (by omega) (by omega)), if_pos (h2.r682 (by omega) (by omega)), zcop_o (x := 682) (k := 1482 * a + n) (by omega), zcop_up hn0, zw_id' (by omega) (by omega)]
    exact ih F (n + 1) (by omega) (by omega) (by omega)
theorem zcop_0 (c : zC) (a b : Int) : zcop c a b 0 = c := by
  funext x k; unfold zcop; rw [if_neg (by omega)]
theorem zm_copies (d : Nat) {a b : Int} (h : MO c) (ha : 0 ≤ a ∧ a ≤ 9) (hb : 0 ≤ b ∧ b ≤ 9) (hab : a ≠ b) : zrun zTab (d + 1) 139 [681, a, b] c = some (0, zcop c a b 1482) := by
  rw [ze_X12_copies]
  have := zm_copies_l d h ha hb hab 1482 19998 0 (by omega) (by omega) (by omega)
  rw [zcop_0] at this
  exact this
/-- the rows from 1 on moved down by one, below row i -/
def zsh (c : zC) (i : Int) : zC := fun x k => if x = 682 ∧ 1482 ≤ k ∧ k < 1482 * i then c 682 (k + 1482) else c x k
theorem zsh_ms {i : Int} : MS c (zsh c i) := ⟨fun x k hk => by unfold zsh; rw [if_neg (by omega)], fun k hk => by unfold zsh; rw [if_neg (by omega)]⟩
theorem zsh_up {i : Int} (h : 1 ≤ i) : zcop (zsh c i) (i + 1) i 1482 = zsh c (i + 1) := by
  funext x k
  unfold zcop zsh
  by_cases e : x = 682 ∧ 1482 * i ≤ k ∧ k < 1482 * i + 1482
  · rw [if_pos e, if_neg (by omega), if_pos (by omega), show 1482 * (i + 1) + (k - 1482 * i) = k + 1482 by omega]
  · rw [if_neg e]
    by_cases e2 : x = 682 ∧ 1482 ≤ k ∧ k < 1482 * i
    · rw [if_pos e2, if_pos (by omega)]
    · rw [if_neg e2, if_neg (by omega)]
theorem zm_keeps_l (d : Nat) (h : MO c) (h1 : c 681 1 = 8) : ∀ (t F : Nat) (i : Int), t ≤ F → i + t = 8 → 1 ≤ i → zex zc_X12_keeps zk_X12_keeps (zrun zTab (d + 1)) (F + 1) 11 [(2, 681), (0, i)] [] (zsh c i) = some (0, zcop (zup (zup (zsh c 8) 681 1 7) 681 1 8) 0 8 1482) := by
  intro t
  induction t with
  | zero =>
    intro F i hF hi hi1
    obtain rfl : i = 8 := by omega
    have h2 : MO (zsh c 8) := h.ms zsh_ms
    have h3 : MO (zup (zsh c 8) 681 1 7) := h2.ms ((MS.rf _).up (by decide) (Or.inr (by decide)))
    have h4 : MO (zup (zup (zsh c 8) 681 1 7) 681 1 8) := h3.ms ((MS.rf _).up (by decide) (Or.inr (by decide)))
    have e : zsh c 8 681 1 = 8 := by unfold zsh; rw [if_neg (by omega)]; exact h1
    have e2 : zup (zsh c 8) 681 1 7 681 1 = 7 := zup_eq ⟨rfl, rfl⟩
    have e3 : zup (zup (zsh c 8) 681 1 7) 681 1 8 681 1 = 8 := zup_eq ⟨rfl, rfl⟩
    rw [ze_X12_keeps_11, if_neg (by decide), if_pos h2.k, if_pos h2.k, e, show zsub 8 1 = 7 from rfl, if_pos h3.k, if_pos h3.k, e2, show zadd 7 1 = 8 from rfl, if_pos h4.k, if_pos h4.k, e3, zm_copies d h4 (by decide) (by decide) (by decide), zbnd_some]
  | succ t ih =>
    intro F i hF hi hi1
    obtain ⟨F, rfl⟩ : ∃ G, F = G + 1 := ⟨F - 1, by omega⟩
    have h2 : MO (zsh c i) := h.ms zsh_ms
    rw [ze_X12_keeps_11, if_pos (by omega), if_pos h2.k, zadd_id (by omega) (by omega), zm_copies d h2 (by omega) (by omega) (by omega), zbnd_some, zsh_up hi1, zw_id' (by omega) (by omega)]
    exact ih F (i + 1) (by omega) (by omega) (by omega)
theorem M_keeps (d : Nat) (h : RM c σ) : ∃ c', zrun zTab (d + 2) 140 [681] c = some (0, c') ∧ RM c' (aPut σ σ.1) ∧ MS c c' ∧ (∀ b, b ≠ 681 → b ≠ 682 → ∀ k, c' b k = c b k) ∧ (∀ k, k ≠ 1 → c' 681 k = c 681 k) ∧ ∀ k, k < 1482 → c' 682 k = c 682 k := by
  obtain ⟨h1, ⟨⟨b1, b2⟩, ⟨a1, a2, a3⟩, a4, a5, a6⟩, h3, h4⟩ := id h
  by_cases e : c 681 1 = 8
  · have run := zm_keeps_l d h1 e 7 19998 1 (by omega) (by omega) (by omega)
    have z1 : zsh c 1 = c := by funext x k; unfold zsh; rw [if_neg (by omega)]
    rw [z1] at run
    have ms : MS c (zcop (zup (zup (zsh c 8) 681 1 7) 681 1 8) 0 8 1482) := (((zsh_ms (i := 8)).up (by decide) (Or.inr (by decide))).up (by decide) (Or.inr (by decide))).tr (zcop_ms (by decide))
    have o : ∀ b, b ≠ 681 → b ≠ 682 → ∀ k, zcop (zup (zup (zsh c 8) 681 1 7) 681 1 8) 0 8 1482 b k = c b k := fun b n1 n2 k => by
      rw [zcop_o (by omega), zup_ne (by omega), zup_ne (by omega)]; unfold zsh; rw [if_neg (by omega)]
    have o1 : ∀ k, k ≠ 1 → zcop (zup (zup (zsh c 8) 681 1 7) 681 1 8) 0 8 1482 681 k = c 681 k := fun k hk => by
      rw [zcop_o (by omega), zup_ne (by omega), zup_ne (by omega)]; unfold zsh; rw [if_neg (by omega)]
    have o2 : zcop (zup (zup (zsh c 8) 681 1 7) 681 1 8) 0 8 1482 681 1 = 8 := by rw [zcop_o (by omega), zup_eq ⟨rfl, rfl⟩]
    have r0 : ∀ k, (k < 1482 ∨ 13338 ≤ k) → zcop (zup (zup (zsh c 8) 681 1 7) 681 1 8) 0 8 1482 682 k = c 682 k := fun k hk => by
      rw [zcop_o (by omega), zup_ne (by omega), zup_ne (by omega)]; unfold zsh; rw [if_neg (by omega)]
    have r1 : ∀ k, 1482 ≤ k → k < 11856 → zcop (zup (zup (zsh c 8) 681 1 7) 681 1 8) 0 8 1482 682 k = c 682 (k + 1482) := fun k k0 k1 => by
      rw [zcop_o (by omega), zup_ne (by omega), zup_ne (by omega)]; unfold zsh; rw [if_pos (by omega)]
    have r8 : ∀ k, 0 ≤ k → k < 1482 → zcop (zup (zup (zsh c 8) 681 1 7) 681 1 8) 0 8 1482 682 (1482 * 8 + k) = c 682 k := fun k k0 k1 => by
      rw [zcop_i k0 k1, zup_ne (by omega), zup_ne (by omega)]; unfold zsh; rw [if_neg (by omega), show 1482 * 0 + k = k by omega]
    generalize zcop (zup (zup (zsh c 8) 681 1 7) 681 1 8) 0 8 1482 = c' at run ms o o1 o2 r0 r1 r8
    have eh : σ.2.2.1.1 = 8 := a1.symm.trans e
    refine ⟨c', ?_, ⟨h1.ms ms, ⟨?_, ⟨?_, by rw [o2]; decide, fun j j0 j1 => ?_⟩, by rw [o1 2 (by decide)]; exact a4, by rw [o1 2 (by decide)]; exact a5, fun x => ?_⟩, ?_, ?_⟩, ms, o, o1, fun k hk => r0 k (Or.inl hk)⟩
    · rw [ze_X12_keeps, if_pos h1.k, if_pos e]; exact run
    · have s := mshift (g := c' 682) (o2 := 0) b1 (fun k k0 k1 => by rw [Int.zero_add]; exact r0 k (Or.inl k1))
      exact ⟨s.1, s.2.trans b2⟩
    · rw [o2]
      show (8 : Int) = if σ.2.2.1.1 < 8 then σ.2.2.1.1 + 1 else 8
      rw [if_neg (by omega)]
    · rw [o2] at j1
      show _ ∧ _ = (if j < (if σ.2.2.1.1 < 8 then σ.2.2.1.1 else 7) then σ.2.2.1.2 (if σ.2.2.1.1 < 8 then j else j + 1) else σ.1)
      rw [if_neg (show ¬ σ.2.2.1.1 < 8 by omega), if_neg (show ¬ σ.2.2.1.1 < 8 by omega)]
      by_cases x : j < 7
      · rw [if_pos x]
        have q := a3 (j + 1) (by omega) (by omega)
        have s := mshift (g := c' 682) (o2 := 1482 * (j + 1)) q.1 (fun k k0 k1 => by rw [r1 _ (by omega) (by omega), show 1482 * (j + 1) + k + 1482 = 1482 * (j + 1 + 1) + k by omega])
        exact ⟨s.1, s.2.trans q.2⟩
      · rw [if_neg x]
        obtain rfl : j = 7 := by omega
        have s := mshift (g := c' 682) (o2 := 1482 * (7 + 1)) b1 (fun k k0 k1 => by rw [Int.zero_add]; exact r8 k k0 k1)
        exact ⟨s.1, s.2.trans b2⟩
    · rw [o1 2 (by decide)] at x
      have q := a6 x
      have s := mshift (g := c' 682) (o2 := 13338) q.1 (fun k k0 k1 => r0 _ (by omega))
      exact ⟨s.1, s.2.trans q.2⟩
    · rw [funext (o 683 (by decide) (by decide)), o1 4 (by decide), o1 8 (by decide)]; exact h3
    · rw [o1 24 (by decide), o1 25 (by decide), o1 26 (by decide), o1 27 (by decide)]; exact h4
  · have ms1 : MS c (zup c 681 1 (c 681 1 + 1)) := (MS.rf _).up (by decide) (Or.inr (by decide))
    have h2 := h1.ms ms1
    have e2 : zup c 681 1 (c 681 1 + 1) 681 1 = c 681 1 + 1 := zup_eq ⟨rfl, rfl⟩
    have run := zm_copies d (a := 0) (b := c 681 1 + 1) h2 (by decide) (by omega) (by omega)
    have ms : MS c (zcop (zup c 681 1 (c 681 1 + 1)) 0 (c 681 1 + 1) 1482) := ms1.tr (zcop_ms (by omega))
    have o : ∀ b, b ≠ 681 → b ≠ 682 → ∀ k, zcop (zup c 681 1 (c 681 1 + 1)) 0 (c 681 1 + 1) 1482 b k = c b k := fun b n1 n2 k => by rw [zcop_o (by omega), zup_ne (by omega)]
    have o1 : ∀ k, k ≠ 1 → zcop (zup c 681 1 (c 681 1 + 1)) 0 (c 681 1 + 1) 1482 681 k = c 681 k := fun k hk => by rw [zcop_o (by omega), zup_ne (by omega)]
    have o2 : zcop (zup c 681 1 (c 681 1 + 1)) 0 (c 681 1 + 1) 1482 681 1 = c 681 1 + 1 := by rw [zcop_o (by omega), e2]
    have r0 : ∀ k, (k < 1482 * (c 681 1 + 1) ∨ 1482 * (c 681 1 + 1) + 1482 ≤ k) → zcop (zup c 681 1 (c 681 1 + 1)) 0 (c 681 1 + 1) 1482 682 k = c 682 k := fun k hk => by rw [zcop_o (by omega), zup_ne (by omega)]
    have r1 : ∀ k, 0 ≤ k → k < 1482 → zcop (zup c 681 1 (c 681 1 + 1)) 0 (c 681 1 + 1) 1482 682 (1482 * (c 681 1 + 1) + k) = c 682 k := fun k k0 k1 => by rw [zcop_i k0 k1, zup_ne (by omega), show 1482 * 0 + k = k by omega]
    rw [ze_X12_keeps, if_pos h1.k, if_neg e, if_pos h1.k, if_pos h1.k, zadd_id (by omega) (by omega), if_pos h2.k, if_pos h2.k, e2, run, zbnd_some]
    generalize zcop (zup c 681 1 (c 681 1 + 1)) 0 (c 681 1 + 1) 1482 = c' at ms o o1 o2 r0 r1
    refine ⟨c', rfl, ⟨h1.ms ms, ⟨?_, ⟨?_, by rw [o2]; omega, fun j j0 j1 => ?_⟩, by rw [o1 2 (by decide)]; exact a4, by rw [o1 2 (by decide)]; exact a5, fun x => ?_⟩, ?_, ?_⟩, ms, o, o1, fun k hk => r0 k (by omega)⟩
    · have s := mshift (g := c' 682) (o2 := 0) b1 (fun k k0 k1 => by rw [Int.zero_add]; exact r0 k (by omega))
      exact ⟨s.1, s.2.trans b2⟩
    · rw [o2, a1]
      show _ = if σ.2.2.1.1 < 8 then σ.2.2.1.1 + 1 else 8
      rw [if_pos (by omega)]
    · rw [o2] at j1
      show _ ∧ _ = (if j < (if σ.2.2.1.1 < 8 then σ.2.2.1.1 else 7) then σ.2.2.1.2 (if σ.2.2.1.1 < 8 then j else j + 1) else σ.1)
      rw [if_pos (show σ.2.2.1.1 < 8 by omega), if_pos (show σ.2.2.1.1 < 8 by omega), ← a1]
      by_cases x : j < c 681 1
      · rw [if_pos x]
        have q := a3 j j0 x
        have s := mshift (g := c' 682) (o2 := 1482 * (j + 1)) q.1 (fun k k0 k1 => r0 _ (by omega))
        exact ⟨s.1, s.2.trans q.2⟩
      · rw [if_neg x]
        obtain rfl : j = c 681 1 := by omega
        have s := mshift (g := c' 682) (o2 := 1482 * (c 681 1 + 1)) b1 (fun k k0 k1 => by rw [Int.zero_add]; exact r1 k k0 k1)
        exact ⟨s.1, s.2.trans b2⟩
    · rw [o1 2 (by decide)] at x
      have q := a6 x
      have s := mshift (g := c' 682) (o2 := 13338) q.1 (fun k k0 k1 => r0 _ (by omega))
      exact ⟨s.1, s.2.trans q.2⟩
    · rw [funext (o 683 (by decide) (by decide)), o1 4 (by decide), o1 8 (by decide)]; exact h3
    · rw [o1 24 (by decide), o1 25 (by decide), o1 26 (by decide), o1 27 (by decide)]; exact h4
end
