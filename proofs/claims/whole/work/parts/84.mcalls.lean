/-! The reference: numbers, budgets, what goes, the snapshot, changes undone, the tape is fed. -/
section
variable {c : zC} {σ : aS} {p i k s v w : Int} (d : Nat)
theorem M_par (h : RM c σ) : MC c (zrun zTab (d + 40) 172 [681, w, v] c) (aPar σ w v) := by
  rw [ze_X12_parameter, zm_in, zbnd_some]
  unfold aPar
  by_cases e1 : 0 ≤ w ∧ w ≤ 1
  · rw [if_pos e1, if_neg (by decide), if_neg (show ¬ ¬ (0 ≤ w ∧ w ≤ 1) from fun q => q e1)]
    obtain ⟨c1, r1, r2, r3, r4, r5, r6⟩ := M_keeps (d + 37) h
    have m2 := r2.1
    have x1 : mview (c1 682) 0 = σ.1 := r2.ok.2
    have lo : zlo c c1 := fun b hb k => r4 b (by omega) (by omega) k
    have key : ∀ F : Nat, ∀ mx : Int, (mx = if w = 0 then 8 else 9) → MC c (zex zc_X12_parameter zk_X12_parameter (zrun zTab (d + 39)) (F + 1) 24 [(2, 681), (0, w), (0, v), (3, 0)] [(0, mx), (0, 0), (0, v)] c) (if ¬ (0 ≤ v ∧ v ≤ (if w = 0 then 8 else 9)) then (-2, σ) else (σ.1 (14 + w) 0, aPut σ (uNum σ.1 (14 + w) v))) := fun F mx hm => by
      rw [ze_X12_parameter_24, zm_in, zbnd_some, ← hm]
      by_cases e2 : 0 ≤ v ∧ v ≤ mx
      · have hv : w = 0 ∧ (0 ≤ v ∧ v ≤ 8) ∨ w = 1 ∧ 0 ≤ v ∧ v ≤ 9 := by
          by_cases e3 : w = 0
          · rw [if_pos e3] at hm; omega
          · rw [if_neg e3] at hm; omega
        obtain ⟨y1, y2⟩ := mset_num (c := c1) r2.ok.1 hv
        rw [x1] at y2
        rw [if_pos e2, if_neg (by decide), if_neg (show ¬ ¬ (0 ≤ v ∧ v ≤ mx) from fun q => q e2), if_pos h.1.k, r1, zbnd_some, if_pos m2.k, m2.f.1, zadd_id (by omega) (by omega), if_pos (m2.r682 (by omega) (by omega)), if_pos m2.k, if_pos (m2.r682 (by omega) (by omega))]
        refine MC.of ?_ (RM.st r2 ((MS.rf _).up (by omega) (Or.inl (by decide))) (fun k hk => zup_ne (Or.inl (by decide))) (fun k hk => zup_ne (Or.inr (by omega))) (fun k => zup_ne (Or.inl (by decide))) y1 y2) (lo.up (by decide))
        refine Prod.ext ?_ rfl
        show σ.1 (14 + w) 0 = c1 682 (1480 + w)
        rw [← x1]
        rcases hv with ⟨rfl, -⟩ | ⟨rfl, -⟩
        · rfl
        · rfl
      · rw [if_neg e2, if_pos rfl, if_pos (show ¬ (0 ≤ v ∧ v ≤ mx) from e2)]
        exact MC.of rfl h (zlo.rf c)
    by_cases e3 : w = 0
    · rw [if_pos e3]; exact key _ _ (by rw [if_pos e3])
    · rw [if_neg e3]; exact key _ _ (by rw [if_neg e3])
  · rw [if_neg e1, if_pos rfl, if_pos (show ¬ (0 ≤ w ∧ w ≤ 1) from e1)]
    exact MC.of rfl h (zlo.rf c)
theorem M_bud (h : RM c σ) : MC c (zrun zTab (d + 40) 173 [681, p, v] c) (aBud σ p v) := by
  rw [ze_X12_budget, zm_isPage, zbnd_some]
  unfold aBud
  by_cases hp : isP p
  · have p0 := hp.1
    have p1 := hp.2
    rw [if_pos hp, if_neg (by decide), if_neg (show ¬ ¬ isP p from fun q => q hp), zm_in, zbnd_some]
    by_cases e2 : 0 ≤ v ∧ v ≤ 20
    · obtain ⟨c1, r1, r2, r3, r4, r5, r6⟩ := M_keeps (d + 37) h
      have m2 := r2.1
      have x1 : mview (c1 682) 0 = σ.1 := r2.ok.2
      have lo : zlo c c1 := fun b hb k => r4 b (by omega) (by omega) k
      obtain ⟨y1, y2⟩ := mset_bud (c := c1) r2.ok.1 hp e2
      rw [x1] at y2
      rw [if_pos e2, if_neg (by decide), if_neg (show ¬ ¬ (0 ≤ v ∧ v ≤ 20) from fun q => q e2), if_pos h.1.k, r1, zbnd_some, if_pos m2.k, zm_budgetOf (d + 38) m2 hp, zbnd_some, if_pos m2.k, m2.f.1, zmul_id (by omega) (by omega), zadd_id (by omega) (by omega), if_pos (m2.r682 (by omega) (by omega)), ← r2.a1 hp]
      exact MC.of rfl (RM.st r2 ((MS.rf _).up (by omega) (Or.inl (by decide))) (fun k hk => zup_ne (Or.inl (by decide))) (fun k hk => zup_ne (Or.inr (by omega))) (fun k => zup_ne (Or.inl (by decide))) y1 y2) (lo.up (by decide))
    · rw [if_neg e2, if_pos rfl, if_pos (show ¬ (0 ≤ v ∧ v ≤ 20) from e2)]
      exact MC.of rfl h (zlo.rf c)
  · rw [if_neg hp, if_pos rfl, if_pos (show ¬ isP p from hp)]
    exact MC.of rfl h (zlo.rf c)
theorem zm_rmS_l (h : MO c) {a n : Int} (ha : 1024 ≤ a) (hn : 0 ≤ n ∧ n ≤ 7) (hc : c 682 1023 = n) : ∀ (t F : Nat) (b : Int), t ≤ F → b + t = 1024 + 57 * n → a ≤ b → zex zc_X12_removeSense zk_X12_removeSense (zrun zTab (d + 1)) (F + 1) 37 [(2, 681), (3, 0), (0, b)] [] (zdl c 57 a b) = some (n, zdl c 57 a (1024 + 57 * n)) := by
  intro t
  induction t with
  | zero =>
    intro F b hF hb hab
    have m := h.ms (zdl_ms (w := 57) (a := a) (b := b) (by omega))
    have e : zdl c 57 a b 682 1023 = n := by rw [zdl_o (by omega)]; exact hc
    rw [ze_X12_removeSense_37, if_pos m.k, zm_senses d m, zbnd_some, e, zm_senseAt d (by omega), zbnd_some, if_neg (by omega), if_pos m.k, zm_senses d m, zbnd_some, e, show b = 1024 + 57 * n by omega]
  | succ t ih =>
    intro F b hF hb hab
    obtain ⟨F, rfl⟩ : ∃ G, F = G + 1 := ⟨F - 1, by omega⟩
    have m := h.ms (zdl_ms (w := 57) (a := a) (b := b) (by omega))
    have e : zdl c 57 a b 682 1023 = n := by rw [zdl_o (by omega)]; exact hc
    rw [ze_X12_removeSense_37, if_pos m.k, zm_senses d m, zbnd_some, e, zm_senseAt d (by omega), zbnd_some, if_pos (by omega), if_pos m.k, if_pos m.k, m.f.1, zadd_id (by omega) (by omega), if_pos (m.r682 (by omega) (by omega)), if_pos (m.r682 (by omega) (by omega)), zdl_o (x := 682) (k := b + 57) (by omega), zdl_up hab, zw_id' (by omega) (by omega)]
    exact ih F (b + 1) (by omega) (by omega) (by omega)
theorem M_rmS (h : RM c σ) : MC c (zrun zTab (d + 40) 170 [681, s] c) (aRmS σ s) := by
  have n9 := h.ok.1.n9
  rw [ze_X12_removeSense, if_pos h.1.k, zm_senses (d + 38) h.1, zbnd_some, zsub_id (by omega) (by omega), zm_in, zbnd_some]
  unfold aRmS
  rw [h.a9]
  by_cases e : 0 ≤ s ∧ s < c 682 1023
  · obtain ⟨c1, r1, r2, r3, r4, r5, r6⟩ := M_keeps (d + 37) h
    have m2 := r2.1
    have x1 : mview (c1 682) 0 = σ.1 := r2.ok.2
    have lo : zlo c c1 := fun b hb k => r4 b (by omega) (by omega) k
    have e9 : c1 682 1023 = c 682 1023 := r6 1023 (by decide)
    obtain ⟨y1, y2⟩ := mdel_S (c := c1) (s := s) r2.ok.1 e.1 (by rw [e9]; exact e.2)
    rw [x1] at y2
    have m3 : MO (zup c1 682 1023 (c1 682 1023 - 1)) := m2.ms ((MS.rf _).up (by decide) (Or.inl (by decide)))
    have run := zm_rmS_l (d + 38) m3 (a := 1024 + 57 * s) (n := c1 682 1023 - 1) (by omega) (by omega) (zup_eq ⟨rfl, rfl⟩) (57 * (c1 682 1023 - 1 - s)).toNat 19998 (1024 + 57 * s) (by omega) (by omega) (by omega)
    rw [zdl_0] at run
    rw [if_pos (show 0 ≤ s ∧ s ≤ c 682 1023 - 1 by omega), if_pos e, if_neg (by decide), if_pos h.1.k, r1, zbnd_some, if_pos m2.k, m2.f.1, if_pos (m2.r682 (by omega) (by omega)), if_pos (m2.r682 (by omega) (by omega)), zsub_id (by omega) (by omega), zm_senseAt (d + 38) (by omega), zbnd_some, run, e9]
    rw [e9] at y1 y2
    refine MC.of rfl (RM.st r2 (((MS.rf _).up (by decide) (Or.inl (by decide))).tr (zdl_ms (by omega))) (fun k hk => ?_) (fun k hk => ?_) (fun k => ?_) y1 y2) ?_
    · rw [zdl_o (Or.inl (by decide)), zup_ne (Or.inl (by decide))]
    · rw [zdl_o (by omega), zup_ne (by omega)]
    · rw [zdl_o (Or.inl (by decide)), zup_ne (Or.inl (by decide))]
    · exact lo.tr (fun b hb k => by rw [zdl_o (by omega), zup_ne (by omega)])
  · rw [if_neg (show ¬ (0 ≤ s ∧ s ≤ c 682 1023 - 1) by omega), if_pos rfl, if_neg e]
    exact MC.of rfl h (zlo.rf c)
theorem zm_rmR_l (h : MO c) {a n : Int} (ha : 969 ≤ a) (hn : 0 ≤ n ∧ n ≤ 5) (hc : c 682 968 = n) : ∀ (t F : Nat) (b : Int), t ≤ F → b + t = 969 + 9 * n → a ≤ b → zex zc_X12_removeRule zk_X12_removeRule (zrun zTab (d + 1)) (F + 1) 37 [(2, 681), (3, 0), (0, b)] [] (zdl c 9 a b) = some (n, zdl c 9 a (969 + 9 * n)) := by
  intro t
  induction t with
  | zero =>
    intro F b hF hb hab
    have m := h.ms (zdl_ms (w := 9) (a := a) (b := b) (by omega))
    have e : zdl c 9 a b 682 968 = n := by rw [zdl_o (by omega)]; exact hc
    rw [ze_X12_removeRule_37, if_pos m.k, zm_rules d m, zbnd_some, e, zm_ruleAt d (by omega), zbnd_some, if_neg (by omega), if_pos m.k, zm_rules d m, zbnd_some, e, show b = 969 + 9 * n by omega]
  | succ t ih =>
    intro F b hF hb hab
    obtain ⟨F, rfl⟩ : ∃ G, F = G + 1 := ⟨F - 1, by omega⟩
    have m := h.ms (zdl_ms (w := 9) (a := a) (b := b) (by omega))
    have e : zdl c 9 a b 682 968 = n := by rw [zdl_o (by omega)]; exact hc
    rw [ze_X12_removeRule_37, if_pos m.k, zm_rules d m, zbnd_some, e, zm_ruleAt d (by omega), zbnd_some, if_pos (by omega), if_pos m.k, if_pos m.k, m.f.1, zadd_id (by omega) (by omega), if_pos (m.r682 (by omega) (by omega)), if_pos (m.r682 (by omega) (by omega)), zdl_o (x := 682) (k := b + 9) (by omega), zdl_up hab, zw_id' (by omega) (by omega)]
    exact ih F (b + 1) (by omega) (by omega) (by omega)
theorem M_rmR (h : RM c σ) : MC c (zrun zTab (d + 40) 171 [681, s] c) (aRmR σ s) := by
  have n9 := h.ok.1.n4
  rw [ze_X12_removeRule, if_pos h.1.k, zm_rules (d + 38) h.1, zbnd_some, zsub_id (by omega) (by omega), zm_in, zbnd_some]
  unfold aRmR
  rw [h.a4]
  by_cases e : 0 ≤ s ∧ s < c 682 968
  · obtain ⟨c1, r1, r2, r3, r4, r5, r6⟩ := M_keeps (d + 37) h
    have m2 := r2.1
    have x1 : mview (c1 682) 0 = σ.1 := r2.ok.2
    have lo : zlo c c1 := fun b hb k => r4 b (by omega) (by omega) k
    have e9 : c1 682 968 = c 682 968 := r6 968 (by decide)
    obtain ⟨y1, y2⟩ := mdel_R (c := c1) (s := s) r2.ok.1 e.1 (by rw [e9]; exact e.2)
    rw [x1] at y2
    have m3 : MO (zup c1 682 968 (c1 682 968 - 1)) := m2.ms ((MS.rf _).up (by decide) (Or.inl (by decide)))
    have run := zm_rmR_l (d + 38) m3 (a := 969 + 9 * s) (n := c1 682 968 - 1) (by omega) (by omega) (zup_eq ⟨rfl, rfl⟩) (9 * (c1 682 968 - 1 - s)).toNat 19998 (969 + 9 * s) (by omega) (by omega) (by omega)
    rw [zdl_0] at run
    rw [if_pos (show 0 ≤ s ∧ s ≤ c 682 968 - 1 by omega), if_pos e, if_neg (by decide), if_pos h.1.k, r1, zbnd_some, if_pos m2.k, m2.f.1, if_pos (m2.r682 (by omega) (by omega)), if_pos (m2.r682 (by omega) (by omega)), zsub_id (by omega) (by omega), zm_ruleAt (d + 38) (by omega), zbnd_some, run, e9]
    rw [e9] at y1 y2
    refine MC.of rfl (RM.st r2 (((MS.rf _).up (by decide) (Or.inl (by decide))).tr (zdl_ms (by omega))) (fun k hk => ?_) (fun k hk => ?_) (fun k => ?_) y1 y2) ?_
    · rw [zdl_o (Or.inl (by decide)), zup_ne (Or.inl (by decide))]
    · rw [zdl_o (by omega), zup_ne (by omega)]
    · rw [zdl_o (Or.inl (by decide)), zup_ne (Or.inl (by decide))]
    · exact lo.tr (fun b hb k => by rw [zdl_o (by omega), zup_ne (by omega)])
  · rw [if_neg (show ¬ (0 ≤ s ∧ s ≤ c 682 968 - 1) by omega), if_pos rfl, if_neg e]
    exact MC.of rfl h (zlo.rf c)
theorem M_back (h : RM c σ) : MC c (zrun zTab (d + 40) 204 [681] c) (aBack σ) := by
  obtain ⟨h1, ⟨⟨b1, b2⟩, ⟨a1, a2, a3⟩, a4, a5, a6⟩, h3, h4⟩ := id h
  rw [ze_X12_back, if_pos h1.k]
  unfold aBack
  rw [← a1]
  by_cases e : c 681 1 = 0
  · rw [if_pos e, if_pos (by omega)]
    exact MC.of rfl h (zlo.rf c)
  · have ms : MS c (zup (zcop c (c 681 1) 0 1482) 681 1 (c 681 1 - 1)) := (zcop_ms (by decide)).up (by decide) (Or.inr (by decide))
    have m1 : MO (zcop c (c 681 1) 0 1482) := h1.ms (zcop_ms (by decide))
    have m2 := h1.ms ms
    have e1 : zcop c (c 681 1) 0 1482 681 1 = c 681 1 := zcop_o (Or.inl (by decide))
    rw [if_neg e, if_neg (show ¬ c 681 1 < 1 by omega), if_pos h1.k, if_pos h1.k, zm_copies (d + 38) h1 (by omega) (by decide) e, zbnd_some, if_pos m1.k, if_pos m1.k, e1, zsub_id (by omega) (by omega), if_pos m2.k, zup_eq ⟨rfl, rfl⟩]
    have o1 : ∀ k, k ≠ 1 → zup (zcop c (c 681 1) 0 1482) 681 1 (c 681 1 - 1) 681 k = c 681 k := fun k hk => by rw [zup_ne (by omega), zcop_o (by omega)]
    have oh : ∀ k, 1482 ≤ k → zup (zcop c (c 681 1) 0 1482) 681 1 (c 681 1 - 1) 682 k = c 682 k := fun k hk => by rw [zup_ne (by omega), zcop_o (by omega)]
    refine MC.of rfl ⟨m2, ⟨?_, ⟨zup_eq ⟨rfl, rfl⟩, by rw [zup_eq ⟨rfl, rfl⟩]; omega, fun j j0 j1 => ?_⟩, by rw [o1 2 (by decide)]; exact a4, by rw [o1 2 (by decide)]; exact a5, fun x => ?_⟩, ?_, ?_⟩ ?_
    · have q := a3 (c 681 1 - 1) (by omega) (by omega)
      rw [show c 681 1 - 1 + 1 = c 681 1 by omega] at q
      have s := mshift (g := zup (zcop c (c 681 1) 0 1482) 681 1 (c 681 1 - 1) 682) (o2 := 0) q.1 (fun k k0 k1 => by
        rw [zup_ne (by omega)]
        exact zcop_i (b := 0) k0 k1)
      exact ⟨s.1, s.2.trans q.2⟩
    · rw [zup_eq ⟨rfl, rfl⟩] at j1
      have q := a3 j j0 (by omega)
      have s := mshift (g := zup (zcop c (c 681 1) 0 1482) 681 1 (c 681 1 - 1) 682) (o2 := 1482 * (j + 1)) q.1 (fun k k0 k1 => oh _ (by omega))
      exact ⟨s.1, s.2.trans q.2⟩
    · rw [o1 2 (by decide)] at x
      have q := a6 x
      have s := mshift (g := zup (zcop c (c 681 1) 0 1482) 681 1 (c 681 1 - 1) 682) (o2 := 13338) q.1 (fun k k0 k1 => oh _ (by omega))
      exact ⟨s.1, s.2.trans q.2⟩
    · rw [o1 4 (by decide), o1 8 (by decide), show zup (zcop c (c 681 1) 0 1482) 681 1 (c 681 1 - 1) 683 = c 683 from funext (fun k => by rw [zup_ne (by omega), zcop_o (by omega)])]; exact h3
    · rw [o1 24 (by decide), o1 25 (by decide), o1 26 (by decide), o1 27 (by decide)]; exact h4
    · exact fun b hb k => by rw [zup_ne (by omega), zcop_o (by omega)]
theorem M_undo (h : RM c σ) : MC c (zrun zTab (d + 40) 206 [681] c) (aUndo σ) := by
  obtain ⟨h1, ⟨⟨b1, b2⟩, ⟨a1, a2, a3⟩, a4, a5, a6⟩, h3, h4⟩ := id h
  rw [ze_X12_undo, if_pos h1.k]
  unfold aUndo
  rw [← a4]
  by_cases e : c 681 2 = 0
  · rw [if_pos e, if_pos e]
    exact MC.of rfl h (zlo.rf c)
  · have ms : MS c (zup (zcop c 9 0 1482) 681 1 0) := (zcop_ms (by decide)).up (by decide) (Or.inr (by decide))
    have m1 : MO (zcop c 9 0 1482) := h1.ms (zcop_ms (by decide))
    have m2 := h1.ms ms
    have q := a6 (a5.resolve_left e)
    have s := mshift (g := zup (zcop c 9 0 1482) 681 1 0 682) (o2 := 0) q.1 (fun k k0 k1 => by
      rw [zup_ne (by omega)]
      exact zcop_i (b := 0) k0 k1)
    rw [if_neg e, if_neg e, if_pos h1.k, zm_copies (d + 38) h1 (by decide) (by decide) (by decide), zbnd_some, if_pos m1.k, if_pos m2.k, zm_senses (d + 38) m2, zbnd_some]
    have o1 : ∀ k, k ≠ 1 → zup (zcop c 9 0 1482) 681 1 0 681 k = c 681 k := fun k hk => by rw [zup_ne (by omega), zcop_o (by omega)]
    have oh : ∀ k, 1482 ≤ k → zup (zcop c 9 0 1482) 681 1 0 682 k = c 682 k := fun k hk => by rw [zup_ne (by omega), zcop_o (by omega)]
    refine MC.of (τ := (σ.2.1.2, σ.2.1, (0, σ.2.2.1.2), σ.2.2.2.1, σ.2.2.2.2)) ?_ ⟨m2, ⟨⟨s.1, s.2.trans q.2⟩, ⟨zup_eq ⟨rfl, rfl⟩, by rw [zup_eq ⟨rfl, rfl⟩]; omega, fun j j0 j1 => ?_⟩, by rw [o1 2 (by decide)]; exact a4, by rw [o1 2 (by decide)]; exact a5, fun x => ?_⟩, ?_, ?_⟩ ?_
    · rw [← q.2, ← s.2]; exact Prod.ext rfl rfl
    · rw [zup_eq ⟨rfl, rfl⟩] at j1; omega
    · have s := mshift (g := zup (zcop c 9 0 1482) 681 1 0 682) (o2 := 13338) q.1 (fun k k0 k1 => oh _ (by omega))
      exact ⟨s.1, s.2.trans q.2⟩
    · rw [o1 4 (by decide), o1 8 (by decide), show zup (zcop c 9 0 1482) 681 1 0 683 = c 683 from funext (fun k => by rw [zup_ne (by omega), zcop_o (by omega)])]; exact h3
    · rw [o1 24 (by decide), o1 25 (by decide), o1 26 (by decide), o1 27 (by decide)]; exact h4
    · exact fun b hb k => by rw [zup_ne (by omega), zcop_o (by omega)]
theorem M_image (h : RM c σ) : MC c (zrun zTab (d + 40) 205 [681] c) (aImage σ) := by
  obtain ⟨h1, ⟨⟨b1, b2⟩, ⟨a1, a2, a3⟩, a4, a5, a6⟩, h3, h4⟩ := id h
  have ms0 : MS c (zup c 681 2 1) := (MS.rf _).up (by decide) (Or.inr (by decide))
  have m1 := h1.ms ms0
  have ms : MS c (zcop (zup c 681 2 1) 0 9 1482) := ms0.tr (zcop_ms (by decide))
  have m2 := h1.ms ms
  have o1 : ∀ k, k ≠ 2 → zcop (zup c 681 2 1) 0 9 1482 681 k = c 681 k := fun k hk => by rw [zcop_o (by omega), zup_ne (by omega)]
  have o2 : zcop (zup c 681 2 1) 0 9 1482 681 2 = 1 := by rw [zcop_o (by omega), zup_eq ⟨rfl, rfl⟩]
  have oh : ∀ k, k < 13338 → zcop (zup c 681 2 1) 0 9 1482 682 k = c 682 k := fun k hk => by rw [zcop_o (by omega), zup_ne (by omega)]
  rw [ze_X12_image, if_pos h1.k, if_pos m1.k, zm_copies (d + 38) m1 (by decide) (by decide) (by decide), zbnd_some, if_pos m2.k, zm_senses (d + 38) m2, zbnd_some, oh 1023 (by decide), ← h.a9]
  refine MC.of rfl ⟨m2, ⟨?_, ⟨by rw [o1 1 (by decide)]; exact a1, by rw [o1 1 (by decide)]; exact a2, fun j j0 j1 => ?_⟩, o2, Or.inr o2, fun x => ?_⟩, ?_, ?_⟩ ?_
  · have s := mshift (g := zcop (zup c 681 2 1) 0 9 1482 682) (o2 := 0) b1 (fun k k0 k1 => oh _ (by omega))
    exact ⟨s.1, s.2.trans b2⟩
  · rw [o1 1 (by decide)] at j1
    have q := a3 j j0 j1
    have s := mshift (g := zcop (zup c 681 2 1) 0 9 1482 682) (o2 := 1482 * (j + 1)) q.1 (fun k k0 k1 => oh _ (by omega))
    exact ⟨s.1, s.2.trans q.2⟩
  · have s := mshift (g := zcop (zup c 681 2 1) 0 9 1482 682) (o2 := 13338) b1 (fun k k0 k1 => by
      rw [show (13338 : Int) + k = 1482 * 9 + k by omega, zcop_i k0 k1, zup_ne (by omega), show (1482 : Int) * 0 + k = 0 + k by omega])
    exact ⟨s.1, s.2.trans b2⟩
  · rw [o1 4 (by decide), o1 8 (by decide), show zcop (zup c 681 2 1) 0 9 1482 683 = c 683 from funext (fun k => by rw [zcop_o (by omega), zup_ne (by omega)])]; exact h3
  · rw [o1 24 (by decide), o1 25 (by decide), o1 26 (by decide), o1 27 (by decide)]; exact h4
  · exact fun b hb k => by rw [zcop_o (by omega), zup_ne (by omega)]
theorem M_edited (h : RM c σ) : zrun zTab (d + 40) 192 [681, w] c = some (aEdited σ w, c) := by
  have h4 := h.2.2.2
  rw [ze_X12_edited, zm_in, zbnd_some]
  unfold aEdited
  by_cases e : 0 ≤ w ∧ w ≤ 2
  · rw [if_pos e, if_neg (by decide), if_pos h.1.k]
    rcases h4 with ⟨q1, q2⟩ | ⟨q1, q2⟩
    · rw [if_pos q1, q2]
      by_cases e0 : w = 0
      · rw [if_pos e0]
      rw [if_neg e0]
      by_cases e1 : w = 1
      · rw [if_pos e1]
      rw [if_neg e1, if_pos (by omega)]
    · rw [if_neg (by omega), q2]
      by_cases e0 : w = 0
      · rw [if_pos e0, if_pos e0, if_pos h.1.k]
      rw [if_neg e0, if_neg e0]
      by_cases e1 : w = 1
      · rw [if_pos e1, if_pos e1, if_pos h.1.k]
      rw [if_neg e1, if_neg e1, if_pos h.1.k, if_pos (by omega)]
  · rw [if_neg e, if_pos rfl, if_neg (by omega), if_neg (by omega), if_neg (by omega)]
theorem M_cause (h : RM c σ) : zrun zTab (d + 40) 193 [681] c = some (σ.2.2.2.1.2.2, c) := by
  have h3 := h.2.2.1.2.2.2
  rw [ze_X12_cause, if_pos h.1.k]
  rcases h3 with ⟨q1, q2⟩ | ⟨q1, q2⟩
  · rw [if_pos q1, q2]
  · rw [if_neg (by omega), if_pos h.1.k, q2]
theorem lOL_zenc {f : Int → Int} {a : Int} {n : Nat} (h : zlet f a n) (hn : n ≤ 10) : lOL (zenc f a n) k = if k = -1 then (n : Int) else if k < 0 then -5 else if k < n then f (a + k) else -5 := by
  unfold lOL
  rw [mlen_of (zenc_wf h) hn]
  by_cases e : k = -1
  · rw [if_pos e, if_pos e]
  rw [if_neg e, if_neg e]
  by_cases e2 : k < 0
  · rw [if_pos e2, if_pos e2]
  rw [if_neg e2, if_neg e2]
  by_cases e3 : k < (n : Int)
  · rw [if_pos e3, if_pos e3]
    obtain ⟨m, rfl⟩ : ∃ m : Nat, k = (m : Int) := ⟨k.toNat, by omega⟩
    rw [show ((n : Int) - 1 - (m : Int)).toNat = n - 1 - m by omega, zenc_digit h (by omega)]
    omega
  · rw [if_neg e3, if_neg e3]
theorem RM.bn (h : RM c σ) : ∀ p, isP p → 0 ≤ c 682 (242 * p) ∧ c 682 (242 * p) ≤ 20 := fun p hp => (h.ok.1.pg hp).1
theorem M_wordq (h : RM c σ) : zrun zTab (d + 40) 194 [681, p, i, k] c = some (aWord σ.1 p i k, c) := by
  rw [ze_X12_word_, if_pos h.1.k, zm_isWord (d + 36) h.1 h.bn, zbnd_some]
  unfold aWord
  by_cases hw : isW σ.1 p i
  · have hp := hw.1
    have p0 := hp.1
    have p1 := hp.2
    have i1 := hw.2.2
    rw [h.a0 hp] at i1
    have n0 := h.bn p hp
    have q := ((h.ok.1.pg hp).2.2.1 i hw.2.1 i1).2
    have e3 : σ.1 3 (20 * p + i) = zenc (c 682) (242 * p + 3 + 12 * i + 1) (c 682 (242 * p + 3 + 12 * i)).toNat := by rw [← h.ok.2, mw_3 hp hw.2.1 (by omega) i1]; rfl
    have q1 := q.1
    have q2 := q.2.1
    rw [if_pos (show isP p ∧ 0 ≤ i ∧ i < c 682 (242 * p) from ⟨hp, hw.2.1, i1⟩), if_neg (by decide)]
    by_cases e : k < -1
    · rw [if_pos e, if_pos (Or.inr e)]
    rw [if_neg e, if_pos h.1.k, zm_wordAt (d + 38) hp (by omega), zbnd_some, h.1.f.1, zadd_id (by omega) (by omega), if_pos (h.1.r682 (by omega) (by omega)), if_neg (show ¬ (¬ isW σ.1 p i ∨ k < -1) from fun x => x.elim (fun y => y hw) e), e3, lOL_zenc q.2.2 (by omega), show 242 * p + 2 + 12 * i + 1 = 242 * p + 3 + 12 * i by omega]
    by_cases e2 : k = -1
    · rw [if_pos e2, if_pos e2, Int.toNat_of_nonneg (by omega)]
    rw [if_neg e2, if_neg e2, if_neg (show ¬ k < 0 by omega)]
    by_cases e4 : k < c 682 (242 * p + 3 + 12 * i)
    · rw [if_pos e4, if_pos (show k < ((c 682 (242 * p + 3 + 12 * i)).toNat : Int) by omega), if_pos h.1.k, zm_wordAt (d + 38) hp (by omega), zbnd_some, zadd_id (x := 242 * p + 2 + 12 * i) (by omega) (by omega), zadd_id (by omega) (by omega), if_pos (h.1.r682 (by omega) (by omega)), show 242 * p + 2 + 12 * i + 2 + k = 242 * p + 3 + 12 * i + 1 + k by omega]
    · rw [if_neg e4, if_neg (by omega)]
  · rw [if_neg (show ¬ (isP p ∧ 0 ≤ i ∧ i < c 682 (242 * p)) from fun q => hw ⟨q.1, q.2.1, by rw [h.a0 q.1]; exact q.2.2⟩), if_pos rfl, if_pos (Or.inl hw)]
/-- one byte more -/
theorem RM.app (h : RM c σ) (hn : σ.2.2.2.1.1 < 80) (hv : isB v) : RM (zup (zup c 683 (c 681 4) v) 681 4 (c 681 4 + 1)) (aTp σ (σ.2.2.2.1.1 + 1, bup σ.2.2.2.1.2.1 σ.2.2.2.1.1 v, σ.2.2.2.1.2.2)) ∧ MO (zup c 683 (c 681 4) v) := by
  obtain ⟨h1, h2, ⟨m1, m2, m3, m4⟩, h4⟩ := id h
  have ms : MS c (zup c 683 (c 681 4) v) := (MS.rf _).up (by omega) (Or.inl (by decide))
  refine ⟨h.tp (ms.up (by decide) (Or.inr (by decide))) (fun k hk => by rw [zup_ne (by omega), zup_ne (by omega)]) (fun k => by rw [zup_ne (by omega), zup_ne (by omega)]) ⟨by rw [zup_eq ⟨rfl, rfl⟩, m1], by rw [zup_eq ⟨rfl, rfl⟩]; omega, fun k k0 k1 => ?_, ?_⟩, h1.ms ms⟩
  · rw [zup_eq ⟨rfl, rfl⟩] at k1
    rw [zup_ne (by omega)]
    show _ = bup σ.2.2.2.1.2.1 σ.2.2.2.1.1 v k ∧ _
    unfold bup
    rw [← m1]
    by_cases e : k = c 681 4
    · rw [zup_eq ⟨rfl, e⟩, if_pos e]; exact ⟨rfl, hv.1, hv.2⟩
    · rw [zup_ne (by omega), if_neg e]; exact m3 k k0 (by omega)
  · rw [zup_ne (by omega), zup_ne (by omega)]; exact m4
theorem zm_feed_s (h : RM c σ) (hn : σ.2.2.2.1.1 < 80) {n x1 x2 x3 x4 x5 j : Int} (F : Nat) (hj : 0 ≤ j) (hjn : j < n) (hn5 : n ≤ 5) (hv : v = if j = 0 then x1 else if j = 1 then x2 else if j = 2 then x3 else if j = 3 then x4 else x5) (hb : isB v) : zex zc_X12_feed zk_X12_feed (zrun zTab d) (F + 1) 82 [(2, 681), (0, n), (0, x1), (0, x2), (0, x3), (0, x4), (0, x5), (0, j)] [] c = zex zc_X12_feed zk_X12_feed (zrun zTab d) F 82 [(2, 681), (0, n), (0, x1), (0, x2), (0, x3), (0, x4), (0, x5), (0, j + 1)] [] (zup (zup c 683 (c 681 4) v) 681 4 (c 681 4 + 1)) := by
  obtain ⟨h1, h2, ⟨m1, m2, -⟩, h4⟩ := id h
  have mo := (h.app hn hb).2
  have e4 : zup c 683 (c 681 4) v 681 4 = c 681 4 := zup_ne (Or.inl (by decide))
  rw [ze_X12_feed_82, if_pos hjn, if_pos h1.k, if_pos h1.k, h1.f.2.1]
  by_cases j0 : j = 0
  · rw [if_pos j0] at hv
    rw [if_pos j0, if_pos (h1.r683 m2.1 (by omega)), ← hv, if_pos mo.k, if_pos mo.k, e4, zadd_id (by omega) (by omega), zw_id' (by omega) (by omega)]
  rw [if_neg j0] at hv
  rw [if_neg j0]
  by_cases j1 : j = 1
  · rw [if_pos j1] at hv
    rw [if_pos j1, if_pos (h1.r683 m2.1 (by omega)), ← hv, if_pos mo.k, if_pos mo.k, e4, zadd_id (by omega) (by omega), zw_id' (by omega) (by omega)]
  rw [if_neg j1] at hv
  rw [if_neg j1]
  by_cases j2 : j = 2
  · rw [if_pos j2] at hv
    rw [if_pos j2, if_pos (h1.r683 m2.1 (by omega)), ← hv, if_pos mo.k, if_pos mo.k, e4, zadd_id (by omega) (by omega), zw_id' (by omega) (by omega)]
  rw [if_neg j2] at hv
  rw [if_neg j2]
  by_cases j3 : j = 3
  · rw [if_pos j3] at hv
    rw [if_pos j3, if_pos (h1.r683 m2.1 (by omega)), ← hv, if_pos mo.k, if_pos mo.k, e4, zadd_id (by omega) (by omega), zw_id' (by omega) (by omega)]
  rw [if_neg j3] at hv
  rw [if_neg j3, if_pos (h1.r683 m2.1 (by omega)), ← hv, if_pos mo.k, if_pos mo.k, e4, zadd_id (by omega) (by omega), zw_id' (by omega) (by omega)]
theorem zlo_app {v n : Int} : zlo c (zup (zup c 683 n v) 681 4 (n + 1)) := fun b hb k => by rw [zup_ne (by omega), zup_ne (by omega)]
theorem M_feed {n x1 x2 x3 x4 x5 : Int} (h : RM c σ) : MC c (zrun zTab (d + 40) 155 [681, n, x1, x2, x3, x4, x5] c) (aFeed σ n x1 x2 x3 x4 x5) := by
  obtain ⟨h1, h2, ⟨m1, m2, -⟩, h4⟩ := id h
  rw [ze_X12_feed, zm_in, zbnd_some]
  unfold aFeed
  have bad : ¬ ((1 ≤ n ∧ n ≤ 5) ∧ isB x1 ∧ isB x2 ∧ isB x3 ∧ isB x4 ∧ isB x5) → MC c (some (-2, c)) (if ¬ ((1 ≤ n ∧ n ≤ 5) ∧ isB x1 ∧ isB x2 ∧ isB x3 ∧ isB x4 ∧ isB x5) then (-2, σ) else if 80 < σ.2.2.2.1.1 + n then (-4, σ) else (σ.2.2.2.1.1 + n, aTp σ (σ.2.2.2.1.1 + n, bApp ([x1, x2, x3, x4, x5].take n.toNat) σ.2.2.2.1.1 σ.2.2.2.1.2.1, σ.2.2.2.1.2.2))) := fun q => MC.of (if_pos q) h (zlo.rf c)
  by_cases e1 : 1 ≤ n ∧ n ≤ 5
  · rw [if_pos e1, if_neg (by decide), zm_in, zbnd_some]
    by_cases b1 : isB x1
    · rw [if_pos (show 0 ≤ x1 ∧ x1 ≤ 127 from b1), if_neg (by decide), zm_in, zbnd_some]
      by_cases b2 : isB x2
      · rw [if_pos (show 0 ≤ x2 ∧ x2 ≤ 127 from b2), if_neg (by decide), zm_in, zbnd_some]
        by_cases b3 : isB x3
        · rw [if_pos (show 0 ≤ x3 ∧ x3 ≤ 127 from b3), if_neg (by decide), zm_in, zbnd_some]
          by_cases b4 : isB x4
          · rw [if_pos (show 0 ≤ x4 ∧ x4 ≤ 127 from b4), if_neg (by decide), zm_in, zbnd_some]
            by_cases b5 : isB x5
            · rw [if_pos (show 0 ≤ x5 ∧ x5 ≤ 127 from b5), if_neg (show ¬ (1 : Int) = 0 by decide), if_pos h1.k, zadd_id (by omega) (by omega), m1, if_neg (show ¬ ¬ ((1 ≤ n ∧ n ≤ 5) ∧ isB x1 ∧ isB x2 ∧ isB x3 ∧ isB x4 ∧ isB x5) from fun q => q ⟨e1, b1, b2, b3, b4, b5⟩)]
              by_cases f : σ.2.2.2.1.1 + n ≤ 80
              · rw [if_pos f, if_neg (show ¬ 80 < σ.2.2.2.1.1 + n by omega)]
                have en : ∀ (c : zC) (τ : aS) (F : Nat), RM c τ → zex zc_X12_feed zk_X12_feed (zrun zTab (d + 39)) (F + 1) 82 [(2, 681), (0, n), (0, x1), (0, x2), (0, x3), (0, x4), (0, x5), (0, n)] [] c = some (τ.2.2.2.1.1, c) := fun c τ F hc => by
                  rw [ze_X12_feed_82, if_neg (by omega), if_pos hc.1.k, hc.2.2.1.1]
                rw [zm_feed_s (d + 39) (v := x1) h (by omega) 19998 (j := 0) (by decide) (by omega) (by omega) rfl b1]
                have h1' := (h.app (by omega) b1).1
                have z1 : zlo c (zup (zup c 683 (c 681 4) x1) 681 4 (c 681 4 + 1)) := zlo_app
                generalize zup (zup c 683 (c 681 4) x1) 681 4 (c 681 4 + 1) = c1 at h1' z1
                by_cases k1 : n = 1
                · subst k1
                  rw [show (0 : Int) + 1 = 1 from rfl, en c1 _ 19997 h1']
                  exact MC.of rfl h1' z1
                rw [zm_feed_s (d + 39) (v := x2) h1' (show σ.2.2.2.1.1 + 1 < 80 by omega) 19997 (j := 0 + 1) (by decide) (by omega) (by omega) rfl b2]
                have h2' := (h1'.app (show σ.2.2.2.1.1 + 1 < 80 by omega) b2).1
                have z2 : zlo c (zup (zup c1 683 (c1 681 4) x2) 681 4 (c1 681 4 + 1)) := z1.tr zlo_app
                generalize zup (zup c1 683 (c1 681 4) x2) 681 4 (c1 681 4 + 1) = c2 at h2' z2
                by_cases k2 : n = 2
                · subst k2
                  rw [show (0 : Int) + 1 + 1 = 2 from rfl, en c2 _ 19996 h2', show σ.2.2.2.1.1 + 2 = σ.2.2.2.1.1 + 1 + 1 by omega]
                  exact MC.of rfl h2' z2
                rw [zm_feed_s (d + 39) (v := x3) h2' (show σ.2.2.2.1.1 + 1 + 1 < 80 by omega) 19996 (j := 0 + 1 + 1) (by decide) (by omega) (by omega) rfl b3]
                have h3' := (h2'.app (show σ.2.2.2.1.1 + 1 + 1 < 80 by omega) b3).1
                have z3 : zlo c (zup (zup c2 683 (c2 681 4) x3) 681 4 (c2 681 4 + 1)) := z2.tr zlo_app
                generalize zup (zup c2 683 (c2 681 4) x3) 681 4 (c2 681 4 + 1) = c3 at h3' z3
                by_cases k3 : n = 3
                · subst k3
                  rw [show (0 : Int) + 1 + 1 + 1 = 3 from rfl, en c3 _ 19995 h3', show σ.2.2.2.1.1 + 3 = σ.2.2.2.1.1 + 1 + 1 + 1 by omega]
                  exact MC.of rfl h3' z3
                rw [zm_feed_s (d + 39) (v := x4) h3' (show σ.2.2.2.1.1 + 1 + 1 + 1 < 80 by omega) 19995 (j := 0 + 1 + 1 + 1) (by decide) (by omega) (by omega) rfl b4]
                have h4' := (h3'.app (show σ.2.2.2.1.1 + 1 + 1 + 1 < 80 by omega) b4).1
                have z4 : zlo c (zup (zup c3 683 (c3 681 4) x4) 681 4 (c3 681 4 + 1)) := z3.tr zlo_app
                generalize zup (zup c3 683 (c3 681 4) x4) 681 4 (c3 681 4 + 1) = c4 at h4' z4
                by_cases k4 : n = 4
                · subst k4
                  rw [show (0 : Int) + 1 + 1 + 1 + 1 = 4 from rfl, en c4 _ 19994 h4', show σ.2.2.2.1.1 + 4 = σ.2.2.2.1.1 + 1 + 1 + 1 + 1 by omega]
                  exact MC.of rfl h4' z4
                obtain rfl : n = 5 := by omega
                rw [zm_feed_s (d + 39) (v := x5) h4' (show σ.2.2.2.1.1 + 1 + 1 + 1 + 1 < 80 by omega) 19994 (j := 0 + 1 + 1 + 1 + 1) (by decide) (by omega) (by omega) rfl b5]
                have h5' := (h4'.app (show σ.2.2.2.1.1 + 1 + 1 + 1 + 1 < 80 by omega) b5).1
                have z5 : zlo c (zup (zup c4 683 (c4 681 4) x5) 681 4 (c4 681 4 + 1)) := z4.tr zlo_app
                generalize zup (zup c4 683 (c4 681 4) x5) 681 4 (c4 681 4 + 1) = c5 at h5' z5
                rw [show (0 : Int) + 1 + 1 + 1 + 1 + 1 = 5 from rfl, en c5 _ 19993 h5', show σ.2.2.2.1.1 + 5 = σ.2.2.2.1.1 + 1 + 1 + 1 + 1 + 1 by omega]
                exact MC.of rfl h5' z5
              · rw [if_neg f, if_pos (show 80 < σ.2.2.2.1.1 + n by omega)]
                exact MC.of rfl h (zlo.rf c)
            · rw [if_neg (show ¬ (0 ≤ x5 ∧ x5 ≤ 127) from b5), if_pos rfl]; exact bad (fun q => b5 q.2.2.2.2.2)
          · rw [if_neg (show ¬ (0 ≤ x4 ∧ x4 ≤ 127) from b4), if_pos rfl]; exact bad (fun q => b4 q.2.2.2.2.1)
        · rw [if_neg (show ¬ (0 ≤ x3 ∧ x3 ≤ 127) from b3), if_pos rfl]; exact bad (fun q => b3 q.2.2.2.1)
      · rw [if_neg (show ¬ (0 ≤ x2 ∧ x2 ≤ 127) from b2), if_pos rfl]; exact bad (fun q => b2 q.2.2.1)
    · rw [if_neg (show ¬ (0 ≤ x1 ∧ x1 ≤ 127) from b1), if_pos rfl]; exact bad (fun q => b1 q.2.1)
  · rw [if_neg e1, if_pos rfl]; exact bad (fun q => e1 q.1)
end
