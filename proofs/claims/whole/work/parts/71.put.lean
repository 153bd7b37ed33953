/-! The class itself: what a change leaves; numbers, budgets, the snapshot, changes undone. -/
def GC (c : zC) (r : zR) (R : aR) : Prop := ∃ c', r = some (R.1, c') ∧ RC c' R.2 ∧ zfr c c'
section
variable {c c' : zC} {S : Int}
theorem cv_raw {B : zA2} (h0 : ∀ p, isP p → c' (S + 4 + 3 * p) 2 = B 0 p ∧ c' (S + 4 + 3 * p) 3 = B 1 p) (h2 : ∀ p i, isP p → 0 ≤ i → i < 20 → i < B 0 p → c' (S + 4 + 3 * p + 2) i = B 2 (20 * p + i) ∧ c' (S + 4 + 3 * p + 1) i = B 3 (20 * p + i))
    (h4 : c' S 4 = B 4 0) (h5 : ∀ r, 0 ≤ r → r < B 4 0 → c' (c' (S + 3) r) 0 = B 5 r ∧ c' (c' (S + 3) r) 1 = B 6 r ∧ c' (c' (S + 3) r) 2 / 5 = B 7 r ∧ c' (c' (S + 3) r) 3 / 5 = B 8 r) (h9 : c' S 3 = B 9 0) (h10 : ∀ s, 0 ≤ s → s < B 9 0 → c' (c' (S + 2) s) 0 = B 10 s ∧ c' (c' (S + 2) s) 2 = B 11 s ∧ c' (c' (S + 2) s) 3 = B 13 s)
    (h12 : ∀ s h, 0 ≤ s → s < B 9 0 → 0 ≤ h → h < 4 → h < B 11 s → c' (c' (S + 2) s + 1) h = B 12 (4 * s + h)) (h14 : c' S 5 = B 14 0) (h15 : c' S 6 = B 15 0) : cview c' S = vcut B := by
  rw [← cview_cut c' S]
  refine vcut_ext (fun p p0 p1 => ?_) (fun p i p0 p1 i0 i1 i2 => ?_) (by rw [cv_4]; exact h4) (fun r r0 r1 => ?_) (by rw [cv_9]; exact h9) (fun s s0 s1 => ?_) (fun s h s0 s1 x0 x1 x2 => ?_) (by rw [cv_14]; exact h14) (by rw [cv_15]; exact h15)
  · rw [cv_0 p0 p1, cv_1 p0 p1]; exact h0 p ⟨p0, p1⟩
  · rw [cv_0 p0 p1] at i2
    rw [cv_2 p0 p1 i0 i1 i2, cv_3 p0 p1 i0 i1 i2]
    exact h2 p i ⟨p0, p1⟩ i0 i1 (by rw [← (h0 p ⟨p0, p1⟩).1]; exact i2)
  · rw [cv_4] at r1
    rw [cv_5 r0 r1, cv_6 r0 r1, cv_7 r0 r1, cv_8 r0 r1]
    exact h5 r r0 (by rw [← h4]; exact r1)
  · rw [cv_9] at s1
    rw [cv_10 s0 s1, cv_11 s0 s1, cv_13 s0 s1]
    exact h10 s s0 (by rw [← h9]; exact s1)
  · rw [cv_9] at s1
    rw [cv_11 s0 s1] at x2
    rw [cv_12 s0 s1 x0 x1 x2]
    exact h12 s h s0 (by rw [← h9]; exact s1) x0 x1 (by rw [← (h10 s s0 (by rw [← h9]; exact s1)).2.1]; exact x2)
/-- the cells of a state's senses and rules lie where they lie -/
theorem LState.sn (h : LState c S) {j : Int} (h0 : 0 ≤ j) (h1 : j < 8) : (S + 16 ≤ c (S + 2) j ∧ c (S + 2) j ≤ S + 30 ∧ (c (S + 2) j - S) % 2 = 0) ∧ LSense c (c (S + 2) j) := h.2.2.2.2.2.2.2.2.2.1 j h0 h1
theorem LState.rl (h : LState c S) {j : Int} (h0 : 0 ≤ j) (h1 : j < 6) : (S + 32 ≤ c (S + 3) j ∧ c (S + 3) j ≤ S + 37) ∧ c (c (S + 3) j) (-1) = 7 := h.2.2.2.2.2.2.2.2.2.2.2.1 j h0 h1
theorem LState.n3 (h : LState c S) : 0 ≤ c S 3 ∧ c S 3 ≤ 8 := ⟨h.2.2.2.2.2.2.2.2.2.2.2.2.2.1, h.2.2.2.2.2.2.2.2.2.2.2.2.2.2.1⟩
theorem LState.n4 (h : LState c S) : 0 ≤ c S 4 ∧ c S 4 ≤ 6 := ⟨h.2.2.2.2.2.2.2.2.2.2.2.2.2.2.2.1, h.2.2.2.2.2.2.2.2.2.2.2.2.2.2.2.2⟩
theorem LState.mk2 (h : LState c S) (hn : ∀ b k, k < 0 → c' b k = c b k) (h0 : ∀ k, 0 ≤ k → k ≤ 2 → c' S k = c S k) (hr1 : ∀ k, c' (S + 1) k = c (S + 1) k) (hr2 : ∀ k, c' (S + 2) k = c (S + 2) k) (hr3 : ∀ k, c' (S + 3) k = c (S + 3) k)
    (hp : ∀ p, isP p → c' (S + 4 + 3 * p) 0 = c (S + 4 + 3 * p) 0 ∧ c' (S + 4 + 3 * p) 1 = c (S + 4 + 3 * p) 1 ∧ 0 ≤ c' (S + 4 + 3 * p) 2 ∧ c' (S + 4 + 3 * p) 2 ≤ 20) (hs : ∀ j, 0 ≤ j → j < 8 → c' (c (S + 2) j) 1 = c (c (S + 2) j) 1 ∧ 0 ≤ c' (c (S + 2) j) 2 ∧ c' (c (S + 2) j) 2 ≤ 4) (n3 : 0 ≤ c' S 3 ∧ c' S 3 ≤ 8) (n4 : 0 ≤ c' S 4 ∧ c' S 4 ≤ 6) : LState c' S := by
  obtain ⟨g0, g1, g2, g3, g4, ⟨a1, a2⟩, ⟨b1, b2⟩, ⟨d1, d2⟩, hP, hS, hS2, hR, hR2, -⟩ := h
  refine ⟨g0, by rw [hn _ _ (by decide)]; exact g1, by rw [h0 _ (by decide) (by decide)]; exact g2, by rw [h0 _ (by decide) (by decide)]; exact g3, by rw [h0 _ (by decide) (by decide)]; exact g4, ⟨by rw [hr1]; exact a1, by rw [hr1]; exact a2⟩, ⟨by rw [hr2]; exact b1, by rw [hr2]; exact b2⟩, ⟨by rw [hr3]; exact d1, by rw [hr3]; exact d2⟩, fun p p0 p1 => ?_, fun j j0 j1 => ?_, fun i j i0 ij j1 => by rw [hr2, hr2]; exact hS2 i j i0 ij j1, fun j j0 j1 => by rw [hr3, hn _ _ (by decide)]; exact hR j j0 j1, fun i j i0 ij j1 => by rw [hr3, hr3]; exact hR2 i j i0 ij j1, n3.1, n3.2, n4.1, n4.2⟩
  · obtain ⟨q1, q2, q3, q4, q5, q6, -⟩ := hP p p0 p1
    obtain ⟨x1, x2, x3, x4⟩ := hp p ⟨p0, p1⟩
    unfold LArr at q5 q6
    exact ⟨by rw [hr1]; exact q1, by rw [hn _ _ (by decide)]; exact q2, by rw [x1]; exact q3, by rw [x2]; exact q4, ⟨by rw [hn _ _ (by decide)]; exact q5.1, by rw [hn _ _ (by decide)]; exact q5.2⟩, ⟨by rw [hn _ _ (by decide)]; exact q6.1, by rw [hn _ _ (by decide)]; exact q6.2⟩, x3, x4⟩
  · obtain ⟨q1, q2, q3, q4, -⟩ := hS j j0 j1
    obtain ⟨x1, x2, x3⟩ := hs j j0 j1
    unfold LArr at q4
    rw [hr2]
    exact ⟨q1, by rw [hn _ _ (by decide)]; exact q2, by rw [x1]; exact q3, ⟨by rw [hn _ _ (by decide)]; exact q4.1, by rw [hn _ _ (by decide)]; exact q4.2⟩, x2, x3⟩
/-- a state's rules, where their cells are unchanged -/
theorem RulesOK.mk2 (h : RulesOK c S) (e : c' S 4 = c S 4) (hr3 : ∀ k, c' (S + 3) k = c (S + 3) k) (g : ∀ r, 0 ≤ r → r < c S 4 → ∀ k, c' (c (S + 3) r) k = c (c (S + 3) r) k) : RulesOK c' S := fun r hr => by
  rw [e] at hr
  rw [hr3]
  exact (h r hr).same (g r (by omega) hr)
end
section
variable {c c' : zC} {σ : aS} {p i k w s v : Int} (d : Nat)
/-- the state and the history have changed -/
theorem RC.sh {A : zA2} {hh : Int × (Int → zA2)} (h : RC c σ) (g : ∀ b, 2 ≤ b → b < 397 → (b < 11 ∨ 49 ≤ b) → (b < 87 ∨ 393 ≤ b) → ∀ k, c' b k = c b k) (l' : LGo c') (n : GN c') (s1 : LState c' 11) (s2 : RulesOK c' 11) (e : cview c' 11 = A) (y1 : LHis c' 87) (y2 : HRul c' 87) (e2 : c' 87 1 = hh.1) (e3 : ∀ j, 0 ≤ j → j < hh.1 → hv c' 87 j = hh.2 j) : RC c' (A, σ.2.1, hh, σ.2.2.2) := by
  obtain ⟨⟨-, ⟨t1, t2⟩, -, ⟨u1, u2⟩, -, d1⟩, ⟨-, ⟨v2, v3, v4⟩, -, ⟨v7, v8, v9⟩, v10, v11, v12⟩, -⟩ := h
  have g1 : zeq c c' 2 11 := fun b b1 b2 k => g b (by omega) (by omega) (by omega) (by omega) k
  have g2 : zeq c c' 49 87 := fun b b1 b2 k => g b (by omega) (by omega) (by omega) (by omega) k
  have g3 : zeq c c' 393 397 := fun b b1 b2 k => g b (by omega) (by omega) (by omega) (by omega) k
  exact ⟨⟨l', ⟨t1.same (g1.sub (by decide) (by decide)), t2.same (g1.sub (by decide) (by decide))⟩, ⟨s1, s2⟩, ⟨u1.same (zeqS g2 (by decide) (by decide)), RulesOK.same u1 u2 (zeqS g2 (by decide) (by decide))⟩, ⟨y1, y2⟩, d1.same (g3.sub (by decide) (by decide))⟩,
    ⟨e, ⟨by rw [g1 2 (by decide) (by decide)]; exact v2, v3, fun x => by rw [cview_same u1 (zeqS g2 (by decide) (by decide))]; exact v4 x⟩, ⟨e2, e3⟩, ⟨by rw [g1 3 (by decide) (by decide)]; exact v7, by rw [← v8]; exact funext (g1 4 (by decide) (by decide)), by rw [g1 3 (by decide) (by decide)]; exact v9⟩, by rw [g3 394 (by decide) (by decide)]; exact v10, by rw [g3 394 (by decide) (by decide)]; exact v11, by rw [g3 394 (by decide) (by decide)]; exact v12⟩, n.f _⟩
theorem zfor_n (c : zC) : GN (zfor c 4) := fun p p0 p1 => by unfold zfor; rw [if_pos (by omega)]
theorem zfor_l (c : zC) : zeq c (zfor c 4) 2 397 := fun b b1 b2 k => zfor_o (Or.inr (Or.inl b2))
theorem zfor_r (c : zC) : zfr c (zfor c 4) := fun b hb k => zfor_o (by omega)
theorem LState.z (h : LState c 11) (g : zeq c c' 2 397) : LState c' 11 := h.same (zeqS g (by decide) (by decide))
theorem G_back (h : RC c σ) : GC c (zrun zTab (d + 40) 120 [2] c) (aBack σ) := by
  obtain ⟨⟨l1, -, ⟨s1, s2⟩, -, ⟨y1, y2⟩, -⟩, ⟨v1, -, ⟨v5, v6⟩, -⟩, -⟩ := id h
  have hn := y1.2.2.2.2.2.2
  rw [ze_X11_back, if_pos l1.1, l1.2.2.2.2.1, if_pos y1.2.1, v5]
  unfold aBack
  rw [v5] at hn
  by_cases e : σ.2.2.1.1 < 1
  · rw [if_pos e, if_pos e]
    exact ⟨c, rfl, h, zfr.rf c⟩
  · obtain ⟨c1, r1, r2, r3, r4, r5, r6, r7, r8, r9, r10⟩ := zs_H_take (d + 35) y1 y2 (by omega) s1 (Or.inl (by decide))
    have l2 : LGo c1 := l1.far (fun b hb k => r2 b (by omega) (by omega) k)
    have q := r4.same (c' := zfor c1 4) ((zfor_l c1).sub (by decide) (by decide))
    rw [if_neg e, if_neg e, if_pos l1.1, if_pos l1.1, if_pos y1.2.1, l1.2.2.1, r1, zbnd_some, if_pos l2.1, zs_G_forget (d + 38) l2, zbnd_some, if_pos (zfor_go l2).1, (zfor_go l2).2.2.2.2.1, if_pos q.1.2.1, zfor_o (by decide), r6, v5]
    refine ⟨zfor c1 4, rfl, RC.sh (hh := (σ.2.2.1.1 - 1, σ.2.2.1.2)) h (fun b b1 b2 b3 b4 k => by rw [zfor_l c1 b b1 b2 k]; exact r2 b (by omega) b3 k) (zfor_go l2) (zfor_n c1) (r8.z (zfor_l c1)) (RulesOK.same r8 r9 (zeqS (zfor_l c1) (by decide) (by decide))) (by rw [cview_same r8 (zeqS (zfor_l c1) (by decide) (by decide)), r10, v5]; exact v6 _ (by omega) (by omega)) q.1 (q.2.1 r5) (by rw [zfor_o (by decide), r6, v5]) (fun j j0 j1 => ?_), fun b hb k => (zfor_r c1 b hb k).trans (r2 b (by omega) (by omega) k)⟩
    have j1 : j < σ.2.2.1.1 - 1 := j1
    rw [q.2.2 j j0 (by omega), r7 j j0 (by omega)]
    exact v6 j j0 (by omega)
theorem LHis.sz (h : LHis c 87) (g : ∀ b, b ≠ 87 → ∀ k, 87 ≤ b → b < 393 → c' b k = c b k) (g2 : ∀ k, k ≠ 1 → c' 87 k = c 87 k) (n : 0 ≤ c' 87 1 ∧ c' 87 1 ≤ 8) : LHis c' 87 := by
  obtain ⟨h0, h1, h2, ⟨h3, h4⟩, h5, h6, h7⟩ := h
  have g1 : ∀ k, c' (87 + 1) k = c (87 + 1) k := fun k => g (87 + 1) (by decide) k (by decide) (by decide)
  exact ⟨h0, by rw [g2 _ (by decide)]; exact h1, by rw [g2 _ (by decide)]; exact h2, ⟨by rw [g1]; exact h3, by rw [g1]; exact h4⟩, fun j j0 j1 => by rw [g1]; exact ⟨(h5 j j0 j1).1, (h5 j j0 j1).2.same (fun b b1 b2 k => by have := (h5 j j0 j1).1; exact g b (by omega) k (by omega) (by omega))⟩, fun i j i0 ij j1 => by rw [g1, g1]; exact h6 i j i0 ij j1, n⟩
theorem G_undo (h : RC c σ) : GC c (zrun zTab (d + 40) 122 [2] c) (aUndo σ) := by
  obtain ⟨⟨l1, -, ⟨s1, s2⟩, ⟨u1, u2⟩, ⟨y1, y2⟩, -⟩, ⟨v1, ⟨v2, v3, v4⟩, ⟨v5, v6⟩, -⟩, -⟩ := id h
  rw [ze_X11_undo, if_pos l1.1, v2]
  unfold aUndo
  by_cases e : σ.2.1.1 = 0
  · rw [if_pos e, if_pos e]
    exact ⟨c, rfl, h, zfr.rf c⟩
  · obtain ⟨c1, r1, r2, r3, r4, r5⟩ := zs_T_copyFrom (d + 36) s1 u1 (Or.inl (by decide))
    have l2 : LGo c1 := l1.far (fun b hb k => r2 b (by omega) k)
    have ho : ∀ b, b ≠ 87 → ∀ k, zup c1 87 1 0 b k = c1 b k := fun b hb k => zup_ne (Or.inl hb)
    have l3 : LGo (zup c1 87 1 0) := l2.far (fun b hb k => ho b (by omega) k)
    have s3 : LState (zup c1 87 1 0) 11 := r4.same (fun b b1 b2 k => ho b (by omega) k)
    have y3 : LHis (zup c1 87 1 0) 87 := y1.sz (fun b hb k b1 b2 => (ho b hb k).trans (r2 b (by omega) k)) (fun k hk => (zup_ne (Or.inr hk)).trans (r2 87 (by decide) k)) (by rw [zup_eq ⟨rfl, rfl⟩]; decide)
    have q := y3.same (c' := zfor (zup c1 87 1 0) 4) ((zfor_l _).sub (by decide) (by decide))
    have s4 : LState (zfor (zup c1 87 1 0) 4) 11 := s3.z (zfor_l _)
    have w1 : cview c1 11 = σ.2.1.2 := (r5.view u1).trans (v4 (v3.resolve_left e))
    have w2 : cview (zfor (zup c1 87 1 0) 4) 11 = σ.2.1.2 := by
      rw [cview_same s3 (zeqS (zfor_l _) (by decide) (by decide)), cview_same r4 (fun b b1 b2 k => ho b (by omega) k)]
      exact w1
    rw [if_neg e, if_neg e, if_pos l1.1, if_pos l1.1, l1.2.2.1, if_pos s1.2.1, l1.2.2.2.1, r1, zbnd_some, if_pos l2.1, l2.2.2.2.2.1, if_pos (show c1 87 (-1) = 3 by rw [r2 87 (by decide)]; exact y1.2.1), if_pos l3.1, zs_G_forget (d + 38) l3, zbnd_some, if_pos (zfor_go l3).1, (zfor_go l3).2.2.1, if_pos s4.2.1]
    refine ⟨zfor (zup c1 87 1 0) 4, by rw [← w2, cv_9], RC.sh (hh := (0, σ.2.2.1.2)) h (fun b b1 b2 b3 b4 k => ?_) (zfor_go l3) (zfor_n _) s4 (RulesOK.same s3 (RulesOK.same r4 (r5.rules u2) (fun b b1 b2 k => ho b (by omega) k)) (zeqS (zfor_l _) (by decide) (by decide))) w2 q.1 (q.2.1 (fun j j0 j1 => ?_)) ?_ (fun j j0 j1 => ?_), fun b hb k => ((zfor_r _ b hb k).trans (ho b (by omega) k)).trans (r2 b (by omega) k)⟩
    · exact ((zfor_l _ b b1 b2 k).trans (ho b (by omega) k)).trans (r2 b b3 k)
    · rw [zup_eq ⟨rfl, rfl⟩] at j1; omega
    · rw [zfor_o (by decide), zup_eq ⟨rfl, rfl⟩]
    · have j1 : j < 0 := j1
      omega
theorem G_image (h : RC c σ) : GC c (zrun zTab (d + 40) 121 [2] c) (aImage σ) := by
  obtain ⟨⟨l1, ⟨t1, t2⟩, ⟨s1, s2⟩, ⟨u1, u2⟩, ⟨y1, y2⟩, d1⟩, ⟨v1, ⟨v2, v3, v4⟩, ⟨v5, v6⟩, ⟨v7, v8, v9⟩, v10, v11, v12⟩, f⟩ := id h
  obtain ⟨c1, r1, r2, r3, r4, r5⟩ := zs_T_copyFrom (d + 36) u1 s1 (Or.inr (by decide))
  have ho : ∀ b, b ≠ 2 → ∀ k, zup c1 2 3 1 b k = c1 b k := fun b hb k => zup_ne (Or.inl hb)
  have hk : ∀ k, k ≠ 3 → zup c1 2 3 1 2 k = c 2 k := fun k hk => (zup_ne (Or.inr hk)).trans (r2 2 (by decide) k)
  have g1 : zeq c (zup c1 2 3 1) 3 49 := fun b b1 b2 k => (ho b (by omega) k).trans (r2 b (by omega) k)
  have g2 : zeq c (zup c1 2 3 1) 87 681 := fun b b1 b2 k => (ho b (by omega) k).trans (r2 b (by omega) k)
  have l3 : LGo (zup c1 2 3 1) := by
    have l2 : LGo c1 := l1.far (fun b hb k => r2 b (by omega) k)
    obtain ⟨h1, f0, f1, f2, f4, f5, f6, ⟨a1, a2⟩, hK⟩ := l1
    obtain ⟨-, -, -, -, -, -, -, ⟨b1, b2⟩, hK2⟩ := l2
    refine ⟨by rw [hk _ (by decide)]; exact h1, by rw [hk _ (by decide)]; exact f0, by rw [hk _ (by decide)]; exact f1, by rw [hk _ (by decide)]; exact f2, by rw [hk _ (by decide)]; exact f4, by rw [hk _ (by decide)]; exact f5, by rw [hk _ (by decide)]; exact f6, ⟨by rw [ho _ (by decide)]; exact b1, by rw [ho _ (by decide)]; exact b2⟩, fun p p0 p1 => ?_⟩
    have e : ∀ b, 393 ≤ b → b < 681 → zup c1 2 3 1 b = c1 b := fun b b1 b2 => funext (ho b (by omega))
    obtain ⟨k1, ⟨n, k2⟩, k3⟩ := hK2 p p0 p1
    refine ⟨by rw [ho _ (by decide)]; exact k1, ⟨n, ?_⟩, fun i i0 i1 => ?_⟩
    · unfold LLk LArr at k2 ⊢
      rw [e (397 + 71 * p) (by omega) (by omega), e (397 + 71 * p + 1) (by omega) (by omega), e (397 + 71 * p + 2) (by omega) (by omega), e (397 + 71 * p + 3) (by omega) (by omega), e (397 + 71 * p + 4) (by omega) (by omega), e (397 + 71 * p + 5) (by omega) (by omega), e (397 + 71 * p + 6) (by omega) (by omega), e (397 + 71 * p + 7) (by omega) (by omega), e (397 + 71 * p + 8) (by omega) (by omega), e (397 + 71 * p + 9) (by omega) (by omega), e (397 + 71 * p + 10) (by omega) (by omega)]
      exact k2
    · have := k3 i i0 i1
      unfold BShape LArr at this ⊢
      rw [e (397 + 71 * p + 1) (by omega) (by omega), e (397 + 71 * p + 11 + 3 * i) (by omega) (by omega), e (397 + 71 * p + 11 + 3 * i + 1) (by omega) (by omega), e (397 + 71 * p + 11 + 3 * i + 2) (by omega) (by omega)]
      exact this
  have q := y1.same (c' := zup c1 2 3 1) (g2.sub (by decide) (by decide))
  have hn := y1.2.2.2.2.2.2
  have sS : zsameS c1 (zup c1 2 3 1) 49 := fun b b1 b2 k => ho b (by omega) k
  have sT : zsameS c (zup c1 2 3 1) 11 := zeqS g1 (by decide) (by decide)
  rw [ze_X11_image, if_pos l1.1, if_pos l1.1, l1.2.2.2.1, if_pos u1.2.1, l1.2.2.1, r1, zbnd_some, if_pos (show c1 2 (-1) = 11 by rw [r2 2 (by decide)]; exact l1.1), if_pos l3.1, l3.2.2.1, if_pos (s1.same sT).2.1]
  refine ⟨zup c1 2 3 1, ?_, ⟨⟨l3, ⟨t1.same (g1.sub (by decide) (by decide)), t2.same (g1.sub (by decide) (by decide))⟩, ⟨s1.same sT, RulesOK.same s1 s2 sT⟩, ⟨r4.same sS, RulesOK.same r4 (r5.rules s2) sS⟩, ⟨q.1, q.2.1 y2⟩, d1.same (g2.sub (by decide) (by decide))⟩,
    ⟨by rw [cview_same s1 sT]; exact v1, ⟨zup_eq ⟨rfl, rfl⟩, Or.inr rfl, fun _ => by rw [cview_same r4 sS, r5.view s1]; exact v1⟩, ⟨by rw [g2 87 (by decide) (by decide)]; exact v5, fun j j0 j1 => by rw [q.2.2 j j0 (by rw [v5] at hn; have : j < σ.2.2.1.1 := j1; omega)]; exact v6 j j0 j1⟩, ⟨by rw [g1 3 (by decide) (by decide)]; exact v7, by rw [show (aImage σ).2.2.2.2.1.2.1 = σ.2.2.2.1.2.1 from rfl, ← v8]; exact funext (g1 4 (by decide) (by decide)), by rw [g1 3 (by decide) (by decide)]; exact v9⟩, by rw [g2 394 (by decide) (by decide)]; exact v10, by rw [g2 394 (by decide) (by decide)]; exact v11, by rw [g2 394 (by decide) (by decide)]; exact v12⟩, fun p p0 p1 => ?_⟩, fun b hb k => (ho b (by omega) k).trans (r2 b (by omega) k)⟩
  · rw [g1 11 (by decide) (by decide), ← h.a9]; rfl
  · rcases f p p0 p1 with x | x
    · exact Or.inl (by rw [g2 _ (by omega) (by omega)]; exact x)
    · exact Or.inr (x.far (fun b b1 b2 k => g2 b (by omega) (by omega) k))
end
