/-! The class itself: the calls that read the tape. -/
section
variable {c : zC} {σ : aS} {p i : Int} (d : Nat)
theorem RC.g3 (h : RC c σ) : c 2 (-1) = 11 ∧ c 2 0 = 3 ∧ c 3 (-1) = 10 ∧ c 3 1 = σ.2.2.2.1.1 := ⟨h.1.1.1, h.1.1.2.1, h.1.2.1.1.2.1, h.2.1.2.2.2.1.1⟩
theorem GC.of {c' : zC} {v : Int} {τ : aS} {R : aR} (e : R = (v, τ)) (h : RC c' τ) (z : zfr c c') : GC c (some (v, c')) R := ⟨c', by rw [e], by rw [e]; exact h, z⟩
theorem zfr_app (c : zC) (v n : Int) : zfr c (zup (zup c 4 n v) 3 1 (n + 1)) := fun b hb k => by rw [zup_ne (by omega), zup_ne (by omega)]
theorem G_feed {n x1 x2 x3 x4 x5 : Int} (h : RC c σ) : GC c (zrun zTab (d + 40) 99 [2, n, x1, x2, x3, x4, x5] c) (aFeed σ n x1 x2 x3 x4 x5) := by
  have n0 := h.1.2.1.1.2.2.2.2.1
  have g := h.g3
  rw [g.2.2.2] at n0
  rw [ze_X11_feed]
  unfold aFeed
  have bad : ¬ ((1 ≤ n ∧ n ≤ 5) ∧ isB x1 ∧ isB x2 ∧ isB x3 ∧ isB x4 ∧ isB x5) → GC c (some (-2, c)) (if ¬ ((1 ≤ n ∧ n ≤ 5) ∧ isB x1 ∧ isB x2 ∧ isB x3 ∧ isB x4 ∧ isB x5) then (-2, σ) else if 80 < σ.2.2.2.1.1 + n then (-4, σ) else (σ.2.2.2.1.1 + n, aTp σ (σ.2.2.2.1.1 + n, bApp ([x1, x2, x3, x4, x5].take n.toNat) σ.2.2.2.1.1 σ.2.2.2.1.2.1, σ.2.2.2.1.2.2))) := fun q => GC.of (if_pos q) h (zfr.rf c)
  by_cases e1 : n < 1
  · rw [if_pos e1]; exact bad (fun q => by have := q.1.1; omega)
  rw [if_neg e1]
  by_cases e2 : n ≤ 5
  · rw [if_pos e2, zs_G_isByte (d + 38), zbnd_some]
    by_cases b1 : isB x1
    · rw [if_pos (show 0 ≤ x1 ∧ x1 ≤ 127 from b1), if_neg (by decide), zs_G_isByte (d + 38), zbnd_some]
      by_cases b2 : isB x2
      · rw [if_pos (show 0 ≤ x2 ∧ x2 ≤ 127 from b2), if_neg (by decide), zs_G_isByte (d + 38), zbnd_some]
        by_cases b3 : isB x3
        · rw [if_pos (show 0 ≤ x3 ∧ x3 ≤ 127 from b3), if_neg (by decide), zs_G_isByte (d + 38), zbnd_some]
          by_cases b4 : isB x4
          · rw [if_pos (show 0 ≤ x4 ∧ x4 ≤ 127 from b4), if_neg (by decide), zs_G_isByte (d + 38), zbnd_some]
            by_cases b5 : isB x5
            · rw [if_pos (show 0 ≤ x5 ∧ x5 ≤ 127 from b5), if_neg (show ¬ (1 : Int) = 0 by decide), if_pos g.1, g.2.1, if_pos g.2.2.1, g.2.2.2, zadd_id (by omega) (by omega), if_neg (show ¬ ¬ ((1 ≤ n ∧ n ≤ 5) ∧ isB x1 ∧ isB x2 ∧ isB x3 ∧ isB x4 ∧ isB x5) from fun q => q ⟨⟨by omega, e2⟩, b1, b2, b3, b4, b5⟩)]
              by_cases f : σ.2.2.2.1.1 + n ≤ 80
              · rw [if_pos f, if_neg (show ¬ 80 < σ.2.2.2.1.1 + n by omega), if_pos g.1, if_pos g.2.2.1]
                obtain ⟨r1, h1⟩ := h.app (d + 38) (by omega) b1
                have z1 := zfr_app c x1 (c 3 1)
                generalize zup (zup c 4 (c 3 1) x1) 3 1 (c 3 1 + 1) = c1 at r1 h1 z1
                have g1 := h1.g3
                rw [r1, zbnd_some]
                by_cases k1 : n = 1
                · subst k1
                  rw [if_pos (by decide), if_pos (by decide), ze_X11_feed_103, if_pos (by decide), if_pos (by decide), if_pos g1.1, g1.2.1, if_pos g1.2.2.1, g1.2.2.2]
                  exact GC.of rfl h1 z1
                obtain ⟨r2, h2⟩ := h1.app (d + 38) (show σ.2.2.2.1.1 + 1 < 80 by omega) b2
                have z2 := z1.tr (zfr_app c1 x2 (c1 3 1))
                generalize zup (zup c1 4 (c1 3 1) x2) 3 1 (c1 3 1 + 1) = c2 at r2 h2 z2
                have g2 := h2.g3
                rw [if_neg (show ¬ n ≤ 1 by omega), if_pos g1.1, g1.2.1, if_pos g1.2.2.1, r2, zbnd_some]
                by_cases k2 : n = 2
                · subst k2
                  rw [if_pos (by decide), ze_X11_feed_103, if_pos (by decide), if_pos (by decide), if_pos g2.1, g2.2.1, if_pos g2.2.2.1, g2.2.2.2]
                  rw [show σ.2.2.2.1.1 + 2 = σ.2.2.2.1.1 + 1 + 1 by omega]
                  exact GC.of rfl h2 z2
                obtain ⟨r3, h3⟩ := h2.app (d + 38) (show σ.2.2.2.1.1 + 1 + 1 < 80 by omega) b3
                have z3 := z2.tr (zfr_app c2 x3 (c2 3 1))
                generalize zup (zup c2 4 (c2 3 1) x3) 3 1 (c2 3 1 + 1) = c3 at r3 h3 z3
                have g3 := h3.g3
                rw [if_neg (show ¬ n ≤ 2 by omega), if_pos g2.1, g2.2.1, if_pos g2.2.2.1, r3, zbnd_some, ze_X11_feed_103]
                by_cases k3 : n = 3
                · subst k3
                  rw [if_pos (by decide), if_pos (by decide), if_pos g3.1, g3.2.1, if_pos g3.2.2.1, g3.2.2.2]
                  rw [show σ.2.2.2.1.1 + 3 = σ.2.2.2.1.1 + 1 + 1 + 1 by omega]
                  exact GC.of rfl h3 z3
                obtain ⟨r4, h4⟩ := h3.app (d + 38) (show σ.2.2.2.1.1 + 1 + 1 + 1 < 80 by omega) b4
                have z4 := z3.tr (zfr_app c3 x4 (c3 3 1))
                generalize zup (zup c3 4 (c3 3 1) x4) 3 1 (c3 3 1 + 1) = c4 at r4 h4 z4
                have g4 := h4.g3
                rw [if_neg (show ¬ n ≤ 3 by omega), if_pos g3.1, g3.2.1, if_pos g3.2.2.1, r4, zbnd_some]
                by_cases k4 : n = 4
                · subst k4
                  rw [if_pos (by decide), if_pos g4.1, g4.2.1, if_pos g4.2.2.1, g4.2.2.2]
                  rw [show σ.2.2.2.1.1 + 4 = σ.2.2.2.1.1 + 1 + 1 + 1 + 1 by omega]
                  exact GC.of rfl h4 z4
                obtain rfl : n = 5 := by omega
                obtain ⟨r5, h5⟩ := h4.app (d + 38) (show σ.2.2.2.1.1 + 1 + 1 + 1 + 1 < 80 by omega) b5
                have z5 := z4.tr (zfr_app c4 x5 (c4 3 1))
                generalize zup (zup c4 4 (c4 3 1) x5) 3 1 (c4 3 1 + 1) = c5 at r5 h5 z5
                have g5 := h5.g3
                rw [if_neg (show ¬ (5 : Int) ≤ 4 by decide), if_pos g4.1, g4.2.1, if_pos g4.2.2.1, r5, zbnd_some, if_pos g5.1, g5.2.1, if_pos g5.2.2.1, g5.2.2.2]
                rw [show σ.2.2.2.1.1 + 5 = σ.2.2.2.1.1 + 1 + 1 + 1 + 1 + 1 by omega]
                exact GC.of rfl h5 z5
              · rw [if_neg f, if_pos (show 80 < σ.2.2.2.1.1 + n by omega)]
                exact GC.of rfl h (zfr.rf c)
            · rw [if_neg (show ¬ (0 ≤ x5 ∧ x5 ≤ 127) from b5), if_pos rfl]; exact bad (fun q => b5 q.2.2.2.2.2)
          · rw [if_neg (show ¬ (0 ≤ x4 ∧ x4 ≤ 127) from b4), if_pos rfl]; exact bad (fun q => b4 q.2.2.2.2.1)
        · rw [if_neg (show ¬ (0 ≤ x3 ∧ x3 ≤ 127) from b3), if_pos rfl]; exact bad (fun q => b3 q.2.2.2.1)
      · rw [if_neg (show ¬ (0 ≤ x2 ∧ x2 ≤ 127) from b2), if_pos rfl]; exact bad (fun q => b2 q.2.2.1)
    · rw [if_neg (show ¬ (0 ≤ x1 ∧ x1 ≤ 127) from b1), if_pos rfl]; exact bad (fun q => b1 q.2.1)
  · rw [if_neg e2]; exact bad (fun q => e2 q.1.2)
theorem zfr_tp {c c' : zC} (g : ∀ b, (b < 3 ∨ 11 ≤ b) → ∀ k, c' b k = c b k) : zfr c c' := fun b hb k => g b (by omega) k
theorem G_page (h : RC c σ) : GC c (zrun zTab (d + 40) 100 [2, p] c) (aPage σ p) := by
  obtain ⟨⟨l1, -, ⟨s1, -⟩, -⟩, ⟨v1, -⟩, -⟩ := id h
  have g := h.g3
  rw [ze_X11_page, if_pos l1.1, l1.2.2.1, if_pos s1.2.1, zs_T_pageAt (d + 38) c s1, zbnd_some]
  unfold aPage
  by_cases hp : isP p
  · have p0 := hp.1
    have p1 := hp.2
    obtain ⟨c1, r1, r2, r3, ⟨r4, r5, r5n⟩, r6⟩ := G_rdPage (d + 33) h
    have g1 := r2.g3
    rw [if_pos (show 0 ≤ p ∧ p < 4 from hp), if_neg (by omega), if_neg (show ¬ ¬ isP p from fun q => q hp), if_pos g.1, g.2.1, if_pos g.2.2.1, r1, zbnd_some]
    generalize tPag σ.2.2.2.1.2.1 σ.2.2.2.1.1 σ.2.2.2.1.2.2 = W at r2 r3 r4 r5 r5n ⊢
    by_cases e : W.2.2.1 = -1
    · obtain ⟨c2, q1, q2, q3, q4, q5, q6⟩ := G_start (d + 34) r2
      have g2 := q2.g3
      have s2 := q2.1.2.2.1
      have t2 := q2.1.2.1.1
      have x1 := q2.2.1.1
      have hF := t2.2.2.2.2.2.1
      have hP := s2.1.pg hp
      have run := zs_P_copyWords (d + 38) c2 hP hF.2 (by decide) (by omega)
      have e5 : ∀ b, 5 ≤ b → b ≤ 7 → ∀ k, c2 b k = c1 b k := fun b b0 b1 k => q5 b (by omega) (by omega) k
      have pg := st_pg (c' := zcpW c2 (11 + 4 + 3 * p) (3 + 2)) s2.1 (n := (W.1.length : Int)) (f := fun i => (W.1.getD i.toNat (0, 0)).2) (g := fun i => (W.1.getD i.toNat (0, 0)).1) hp (fun b hb k => by unfold zcpW; rw [if_neg (by omega), if_neg (by omega), if_neg (by omega)]) (fun b k hk => by unfold zcpW; rw [if_neg (by omega), if_neg (by omega), if_neg (by omega)]) ⟨by unfold zcpW; rw [if_neg (by omega), if_neg (by omega), if_neg (by omega)], by unfold zcpW; rw [if_neg (by omega), if_neg (by omega), if_neg (by omega)], by unfold zcpW; rw [if_neg (by omega), if_neg (by omega), if_neg (by omega)]⟩ (by unfold zcpW; rw [if_neg (by omega), if_neg (by omega), if_pos ⟨rfl, rfl⟩, show (3 : Int) + 2 = 5 from rfl, e5 5 (by decide) (by decide)]; exact r4) ⟨by omega, by omega⟩ (fun i i0 i1 => by
        unfold zcpW
        rw [if_neg (by omega), if_pos (by omega), if_pos (by omega), show (3 : Int) + 2 + 2 = 7 from rfl, show (3 : Int) + 2 + 1 = 6 from rfl, e5 7 (by decide) (by decide), e5 6 (by decide) (by decide)]
        exact r5 i i0 i1)
      rw [x1] at pg
      have y2 : zcpW c2 (11 + 4 + 3 * p) (3 + 2) (11 + 4 + 3 * p) 2 = (W.1.length : Int) := by
        unfold zcpW
        rw [if_neg (by omega), if_neg (by omega), if_pos ⟨rfl, rfl⟩, show (3 : Int) + 2 = 5 from rfl, e5 5 (by decide) (by decide)]
        exact r4
      have y3 := pg.1.pg hp
      rw [if_pos e, if_neg (by decide), if_pos g1.1, q1, zbnd_some, if_pos g2.1, g2.2.1, if_pos g2.2.2.1, if_pos hP.1, hF.1, run, zbnd_some, if_pos y3.1, y2, if_pos e]
      have fin := RC.st q2 q3 (c' := zcpW c2 (11 + 4 + 3 * p) (3 + 2)) (fun b hb k => by unfold zcpW; rw [if_neg (by omega), if_neg (by omega), if_neg (by omega)]) pg.1 (pg.2.1 s2.2) pg.2.2
      exact GC.of rfl fin (((zfr_tp r6).tr q4).tr (fun b hb k => by unfold zcpW; rw [if_neg (by omega), if_neg (by omega), if_neg (by omega)]))
    · rw [if_neg e, if_pos rfl, if_pos g1.1, g1.2.1, if_pos g1.2.2.1, r3, if_neg e]
      exact GC.of rfl r2 (zfr_tp r6)
  · rw [if_neg (show ¬ (0 ≤ p ∧ p < 4) from hp), if_pos rfl, if_pos (show ¬ isP p from hp)]
    exact GC.of rfl h (zfr.rf c)
theorem G_sense (h : RC c σ) : GC c (zrun zTab (d + 40) 101 [2] c) (aSense σ) := by
  obtain ⟨⟨l1, -, ⟨s1, -⟩, -⟩, ⟨v1, -⟩, -⟩ := id h
  have g := h.g3
  rw [ze_X11_sense, if_pos l1.1, l1.2.2.1, if_pos s1.2.1, ← h.a9]
  unfold aSense
  by_cases e1 : σ.1 9 0 < 8
  · obtain ⟨c1, r1, r2, r3, ⟨r4, r5, r7, r8⟩, r6⟩ := G_rdSense (d + 33) h
    have g1 := r2.g3
    rw [if_pos e1, if_neg (show ¬ 8 ≤ σ.1 9 0 by omega), if_pos g.1, g.2.1, if_pos g.2.2.1, r1, zbnd_some]
    generalize tS5 σ.2.2.2.1.2.1 σ.2.2.2.1.1 σ.2.2.2.1.2.2 = s at r2 r3 ⊢
    generalize (tS1 σ.2.2.2.1.2.1 σ.2.2.2.1.1 σ.2.2.2.1.2.2).1 = x at r4 ⊢
    generalize (tS3 σ.2.2.2.1.2.1 σ.2.2.2.1.1 σ.2.2.2.1.2.2).1 = l at r5 r8 ⊢
    generalize (tS4 σ.2.2.2.1.2.1 σ.2.2.2.1.1 σ.2.2.2.1.2.2).1 = y at r7 ⊢
    by_cases e : s.2.1 = -1
    · obtain ⟨c2, q1, q2, q3, q4, q5, q6⟩ := G_start (d + 34) r2
      have g2 := q2.g3
      have s2 := q2.1.2.2.1
      have t2 := q2.1.2.1.1
      have x1 := q2.2.1.1
      have a9 : σ.1 9 0 = c2 11 3 := q2.a9
      have hF := t2.2.2.2.2.2.2.1
      have e5 : ∀ b, 8 ≤ b → b ≤ 9 → ∀ k, c2 b k = c1 b k := fun b b0 b1 k => q5 b (by omega) (by omega) k
      have run := zs_T_addSense (d + 37) c2 s2.1 (by rw [← a9]; exact e1) hF.2 (by decide) (by decide)
      have pg := st_addS (l := l) s2.1 (by rw [← a9]; exact e1) hF.2 (by rw [show (3 : Int) + 5 = 8 from rfl, e5 8 (by decide) (by decide)]; exact r5) (fun k k0 k1 => by rw [show (3 : Int) + 5 + 1 = 9 from rfl, e5 9 (by decide) (by decide)]; exact r8 k k0 k1)
      have y0 : c2 (3 + 5) 0 = x := by rw [show (3 : Int) + 5 = 8 from rfl, e5 8 (by decide) (by decide)]; exact r4
      have y3 : c2 (3 + 5) 3 = y := by rw [show (3 : Int) + 5 = 8 from rfl, e5 8 (by decide) (by decide)]; exact r7
      rw [x1, y0, y3] at pg
      have hQ := (s2.1.sn s2.1.n3.1 (by rw [← a9]; exact e1)).1
      have fin := RC.st q2 q3 (c' := zup (zcpS c2 (c2 (11 + 2) (c2 11 3)) (3 + 5)) 11 3 (c2 11 3 + 1)) (fun b hb k => by rw [zup_ne (by omega), zcpS_o (by omega) (by omega)]) pg.1 (pg.2.1 s2.2) pg.2.2
      rw [if_pos e, if_neg (by decide), if_pos g1.1, q1, zbnd_some, if_pos g2.1, if_pos g2.1, g2.2.1, if_pos g2.2.2.1, q2.1.1.2.2.1, if_pos s2.1.2.1, hF.1, run, zbnd_some]
      rw [if_pos fin.1.1.1, fin.1.1.2.2.1, if_pos pg.1.2.1, zup_eq ⟨rfl, rfl⟩, ← a9, zsub_id (by have := s2.1.n3; omega) (by omega), if_pos e]
      rw [a9]
      exact GC.of (by rw [show c2 11 3 + 1 - 1 = c2 11 3 by omega]; rfl) fin (((zfr_tp r6).tr q4).tr (fun b hb k => by rw [zup_ne (by omega), zcpS_o (by omega) (by omega)]))
    · rw [if_neg e, if_pos rfl, if_pos g1.1, g1.2.1, if_pos g1.2.2.1, r3, if_neg e]
      exact GC.of rfl r2 (zfr_tp r6)
  · rw [if_neg e1, if_pos (show 8 ≤ σ.1 9 0 by omega)]
    exact GC.of rfl h (zfr.rf c)
theorem mlen_of {n : Nat} {w : Int} (h : mwf n w) (hn : n ≤ 10) : mlen w = n := mlen_wf h hn
theorem G_rule (h : RC c σ) (hv : VOK (aRule σ).2.1) : GC c (zrun zTab (d + 40) 102 [2] c) (aRule σ) := by
  obtain ⟨⟨l1, -, ⟨s1, -⟩, -⟩, ⟨v1, -⟩, -⟩ := id h
  have g := h.g3
  rw [ze_X11_rule, if_pos l1.1, l1.2.2.1, if_pos s1.2.1, ← h.a4]
  unfold aRule at hv ⊢
  by_cases e1 : σ.1 4 0 < 6
  · obtain ⟨c1, r1, r2, r3, ⟨r4, r5, r7, r8⟩, r6⟩ := G_rdRule (d + 34) h
    have g1 := r2.g3
    rw [if_neg (show ¬ 6 ≤ σ.1 4 0 by omega)] at hv
    rw [if_pos e1, if_neg (show ¬ 6 ≤ σ.1 4 0 by omega), if_pos g.1, g.2.1, if_pos g.2.2.1, r1, zbnd_some]
    generalize tRul σ.2.2.2.1.2.1 σ.2.2.2.1.1 σ.2.2.2.1.2.2 = W at r2 r3 r4 r5 r7 r8 hv ⊢
    by_cases e : W.2.2.2.1 = -1
    · obtain ⟨c2, q1, q2, q3, q4, q5, q6⟩ := G_start (d + 34) r2
      rw [if_pos e] at hv
      have hv : VOK (uAddR σ.1 W.1 W.2.1) := hv
      have g2 := q2.g3
      have s2 := q2.1.2.2.1
      have t2 := q2.1.2.1.1
      have x1 := q2.2.1.1
      have a9 : σ.1 4 0 = c2 11 4 := q2.a4
      have n4 := s1.n4
      rw [← h.a4] at n4
      have hF := t2.2.2.2.2.2.2.2
      have e5 : ∀ k, c2 (3 + 7) k = c1 10 k := fun k => q5 10 (by decide) (by decide) k
      have hru : RuleOK c2 (3 + 7) := by
        obtain ⟨el, rl, w1, w2, w3, w4, w5, w6, w7⟩ := hv.2.1.2 (σ.1 4 0) n4.1 (by show σ.1 4 0 < σ.1 4 0 + 1; omega)
        unfold uAddR uRl at w4 w5
        rw [vc_5 n4.1 (by show σ.1 4 0 < σ.1 4 0 + 1; omega)] at w4
        rw [vc_6 n4.1 (by show σ.1 4 0 < σ.1 4 0 + 1; omega)] at w5
        have w4 : mwf el (if σ.1 4 0 = σ.1 4 0 then W.1 else σ.1 5 (σ.1 4 0)) := w4
        have w5 : mwf rl (if σ.1 4 0 = σ.1 4 0 then W.2.1 else σ.1 6 (σ.1 4 0)) := w5
        rw [if_pos rfl] at w4 w5
        refine ⟨el, rl, w1, w2, w3, ?_, ?_, ?_, ?_, ?_, ?_⟩
        · rw [e5, r7, mlen_of w4 (by omega)]
        · rw [e5, r8, mlen_of w5 (by omega)]
        · rw [e5, r4]; exact mwf_nn w4
        · rw [e5, r4]; exact mwf_lt w4
        · rw [e5, r5]; exact mwf_nn w5
        · rw [e5, r5]; exact mwf_lt w5
      have run := zs_T_addRule (d + 37) c2 s2.1 (by rw [← a9]; exact e1) hF.2 (by decide) (by decide)
      have pg := st_addR (e := W.1) (f := W.2.1) s2.1 (by rw [← a9]; exact e1) hF.2 (by rw [e5]; exact r4) (by rw [e5]; exact r5) (by rw [e5]; exact r7) (by rw [e5]; exact r8)
      rw [x1] at pg
      have hQ := (s2.1.rl s2.1.n4.1 (by rw [← a9]; exact e1)).1
      have fin := RC.st q2 q3 (c' := zup (zcpR c2 (c2 (11 + 3) (c2 11 4)) (3 + 7)) 11 4 (c2 11 4 + 1)) (fun b hb k => by rw [zup_ne (by omega), zcpR_o (by omega)]) pg.1 (pg.2.1 s2.2 hru) pg.2.2
      rw [if_pos e, if_neg (by decide), if_pos g1.1, q1, zbnd_some, if_pos g2.1, if_pos g2.1, g2.2.1, if_pos g2.2.2.1, q2.1.1.2.2.1, if_pos s2.1.2.1, hF.1, run, zbnd_some]
      rw [if_pos fin.1.1.1, fin.1.1.2.2.1, if_pos pg.1.2.1, zup_eq ⟨rfl, rfl⟩, ← a9, zsub_id (by omega) (by omega), if_pos e]
      rw [a9]
      exact GC.of (by rw [show c2 11 4 + 1 - 1 = c2 11 4 by omega]; rfl) fin (((zfr_tp r6).tr q4).tr (fun b hb k => by rw [zup_ne (by omega), zcpR_o (by omega)]))
    · rw [if_neg e, if_pos rfl, if_pos g1.1, g1.2.1, if_pos g1.2.2.1, r3, if_neg e]
      exact GC.of rfl r2 (zfr_tp r6)
  · rw [if_neg e1, if_pos (show 6 ≤ σ.1 4 0 by omega)]
    exact GC.of rfl h (zfr.rf c)
end
