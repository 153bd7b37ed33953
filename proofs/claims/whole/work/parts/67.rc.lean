/-! The class's heap and the calls' state. -/
def zeq (c c' : zC) (lo hi : Int) : Prop := ∀ b, lo ≤ b → b < hi → ∀ k, c' b k = c b k
theorem zeq.sub {c c' : zC} {lo hi l2 h2 : Int} (h : zeq c c' lo hi) (a : lo ≤ l2) (b : h2 ≤ hi) : zeq c c' l2 h2 := fun x x1 x2 k => h x (by omega) (by omega) k
theorem zeq.tr {c c1 c2 : zC} {lo hi : Int} (h : zeq c c1 lo hi) (g : zeq c1 c2 lo hi) : zeq c c2 lo hi := fun x x1 x2 k => (g x x1 x2 k).trans (h x x1 x2 k)
/-- neither the script nor the reference has changed -/
def zfr (c c' : zC) : Prop := ∀ b, (b < 2 ∨ 681 ≤ b) → ∀ k, c' b k = c b k
theorem zfr.rf (c : zC) : zfr c c := fun _ _ _ => rfl
theorem zfr.tr {c c1 c2 : zC} (h : zfr c c1) (g : zfr c1 c2) : zfr c c2 := fun b hb k => (g b hb k).trans (h b hb k)
theorem LTp.same {c c' : zC} (h : LTp c 3) (g : zeq c c' 3 11) : LTp c' 3 := h.far (fun b k hb => g b (by omega) (by omega) k)
theorem TBy.same {c c' : zC} (h : TBy c 3) (g : zeq c c' 3 11) : TBy c' 3 := fun k k0 k1 => by
  rw [g 3 (by decide) (by decide)] at k1
  rw [g (3 + 1) (by decide) (by decide)]
  exact h k k0 k1
theorem LHis.same {c c' : zC} (h : LHis c 87) (g : zeq c c' 87 393) : LHis c' 87 ∧ (HRul c 87 → HRul c' 87) ∧ ∀ j, 0 ≤ j → j < 8 → hv c' 87 j = hv c 87 j := by
  obtain ⟨h0, h1, h2, ⟨h3, h4⟩, h5, h6, h7⟩ := h
  have g0 : ∀ k, c' 87 k = c 87 k := g 87 (by decide) (by decide)
  have g1 : ∀ k, c' (87 + 1) k = c (87 + 1) k := g (87 + 1) (by decide) (by decide)
  have sj : ∀ j, 0 ≤ j → j < 8 → zsameS c c' (c (87 + 1) j) := fun j j0 j1 b b1 b2 k => by
    have := (h5 j j0 j1).1
    exact g b (by omega) (by omega) k
  refine ⟨⟨h0, by rw [g0]; exact h1, by rw [g0]; exact h2, ⟨by rw [g1]; exact h3, by rw [g1]; exact h4⟩, fun j j0 j1 => by rw [g1]; exact ⟨(h5 j j0 j1).1, (h5 j j0 j1).2.same (sj j j0 j1)⟩, fun i j i0 ij j1 => by rw [g1, g1]; exact h6 i j i0 ij j1, by rw [g0]; exact h7⟩, fun hr j j0 j1 => ?_, fun j j0 j1 => ?_⟩
  · rw [g0] at j1
    rw [g1]
    exact RulesOK.same (h5 j j0 (by omega)).2 (hr j j0 j1) (sj j j0 (by omega))
  · unfold hv
    rw [g1]
    exact cview_same (h5 j j0 j1).2 (sj j j0 j1)
theorem LEd.same {c c' : zC} (h : LEd c 394) (g : zeq c c' 394 397) : LEd c' 394 := by
  unfold LEd LArr at h ⊢
  have e : ∀ b, 394 ≤ b → b < 397 → c' b = c b := fun b b1 b2 => funext (g b b1 b2)
  rw [e 394 (by decide) (by decide), e (394 + 1) (by decide) (by decide), e (394 + 2) (by decide) (by decide)]
  exact h
def GL (c : zC) : Prop := LGo c ∧ (LTp c 3 ∧ TBy c 3) ∧ (LState c 11 ∧ RulesOK c 11) ∧ (LState c 49 ∧ RulesOK c 49) ∧ (LHis c 87 ∧ HRul c 87) ∧ LEd c 394
def GV (c : zC) (σ : aS) : Prop := cview c 11 = σ.1 ∧ (c 2 3 = σ.2.1.1 ∧ (σ.2.1.1 = 0 ∨ σ.2.1.1 = 1) ∧ (σ.2.1.1 = 1 → cview c 49 = σ.2.1.2)) ∧ (c 87 1 = σ.2.2.1.1 ∧ ∀ j, 0 ≤ j → j < σ.2.2.1.1 → hv c 87 j = σ.2.2.1.2 j) ∧ (c 3 1 = σ.2.2.2.1.1 ∧ c 4 = σ.2.2.2.1.2.1 ∧ c 3 4 = σ.2.2.2.1.2.2) ∧ (c 394 2 = σ.2.2.2.2.1 ∧ c 394 3 = σ.2.2.2.2.2.1 ∧ c 394 4 = σ.2.2.2.2.2.2)
def GF (c : zC) (A : zA2) : Prop := ∀ p, 0 ≤ p → p < 4 → c (397 + 71 * p) 13 = 0 ∨ KOK c (397 + 71 * p) A p
def RC (c : zC) (σ : aS) : Prop := GL c ∧ GV c σ ∧ GF c σ.1
/-- no Linking is fresh -/
def GN (c : zC) : Prop := ∀ p, 0 ≤ p → p < 4 → c (397 + 71 * p) 13 = 0
theorem GN.f {c : zC} (h : GN c) (A : zA2) : GF c A := fun p p0 p1 => Or.inl (h p p0 p1)
theorem zeqS {c c' : zC} {lo hi S : Int} (h : zeq c c' lo hi) (a : lo ≤ S) (b : S + 38 ≤ hi) : zsameS c c' S := fun x x1 x2 k => h x (by omega) (by omega) k
theorem GL.of {c c' : zC} (h : GL c) (g : zeq c c' 3 393) (e : zeq c c' 394 397) (l : LGo c') : GL c' := by
  obtain ⟨-, ⟨t1, t2⟩, ⟨s1, s2⟩, ⟨u1, u2⟩, ⟨y1, y2⟩, d1⟩ := h
  have q := y1.same (g.sub (by decide) (by decide))
  exact ⟨l, ⟨t1.same (g.sub (by decide) (by decide)), t2.same (g.sub (by decide) (by decide))⟩, ⟨s1.same (zeqS g (by decide) (by decide)), RulesOK.same s1 s2 (zeqS g (by decide) (by decide))⟩, ⟨u1.same (zeqS g (by decide) (by decide)), RulesOK.same u1 u2 (zeqS g (by decide) (by decide))⟩, ⟨q.1, q.2.1 y2⟩, d1.same e⟩
theorem GV.of {c c' : zC} {σ : aS} (h : GV c σ) (l : GL c) (g : zeq c c' 2 397) : GV c' σ := by
  obtain ⟨v1, ⟨v2, v3, v4⟩, ⟨v5, v6⟩, ⟨v7, v8, v9⟩, v10, v11, v12⟩ := h
  obtain ⟨-, -, ⟨s1, -⟩, ⟨u1, -⟩, ⟨y1, -⟩, -⟩ := l
  have q := y1.same (g.sub (by decide) (by decide))
  have hn := y1.2.2.2.2.2.2
  refine ⟨by rw [cview_same s1 (zeqS g (by decide) (by decide))]; exact v1, ⟨by rw [g 2 (by decide) (by decide)]; exact v2, v3, fun x => by rw [cview_same u1 (zeqS g (by decide) (by decide))]; exact v4 x⟩, ⟨by rw [g 87 (by decide) (by decide)]; exact v5, fun j j0 j1 => by rw [q.2.2 j j0 (by omega)]; exact v6 j j0 j1⟩, ⟨by rw [g 3 (by decide) (by decide)]; exact v7, by rw [← v8]; exact funext (g 4 (by decide) (by decide)), by rw [g 3 (by decide) (by decide)]; exact v9⟩, by rw [g 394 (by decide) (by decide)]; exact v10, by rw [g 394 (by decide) (by decide)]; exact v11, by rw [g 394 (by decide) (by decide)]; exact v12⟩
theorem RC.far {c c' : zC} {σ : aS} (h : RC c σ) (g : zeq c c' 2 681) : RC c' σ := by
  obtain ⟨l, v, f⟩ := h
  have l' : LGo c' := l.1.far (fun b hb k => g b (by omega) (by omega) k)
  refine ⟨l.of (g.sub (by decide) (by decide)) (g.sub (by decide) (by decide)) l', v.of l (g.sub (by decide) (by decide)), fun p p0 p1 => ?_⟩
  rcases f p p0 p1 with q | q
  · exact Or.inl (by rw [g _ (by omega) (by omega)]; exact q)
  · exact Or.inr (q.far (fun b b1 b2 k => g b (by omega) (by omega) k))
/-- a page has been followed -/
theorem RC.link {c c' : zC} {σ : aS} {p : Int} (h : RC c σ) (hp : isP p) (g : KAll c c' (397 + 71 * p)) (k : KOK c' (397 + 71 * p) σ.1 p) : RC c' σ := by
  obtain ⟨l, v, f⟩ := h
  obtain ⟨p0, p1⟩ := hp
  have g2 : zeq c c' 2 397 := fun b b1 b2 k => g.1 b (by omega) k
  have e : ∀ q, 0 ≤ q → q < 4 → q ≠ p → ∀ b, 397 + 71 * q ≤ b → b < 397 + 71 * q + 71 → c' b = c b := fun q q0 q1 qp b b1 b2 => funext (g.1 b (by omega))
  have l' : LGo c' := by
    obtain ⟨h1, f0, f1, f2, f4, f5, f6, ⟨a1, a2⟩, hK⟩ := l.1
    have e2 := g2 2 (by decide) (by decide)
    have e3 := g2 393 (by decide) (by decide)
    refine ⟨by rw [e2]; exact h1, by rw [e2]; exact f0, by rw [e2]; exact f1, by rw [e2]; exact f2, by rw [e2]; exact f4, by rw [e2]; exact f5, by rw [e2]; exact f6, ⟨by rw [e3]; exact a1, by rw [e3]; exact a2⟩, fun q q0 q1 => ?_⟩
    obtain ⟨k1, ⟨n, k2⟩, k3⟩ := hK q q0 q1
    by_cases qp : q = p
    · subst qp; exact ⟨by rw [e3]; exact k1, ⟨_, k.1⟩, k.2.1⟩
    · have e := e q q0 q1 qp
      refine ⟨by rw [e3]; exact k1, ⟨n, ?_⟩, fun i i0 i1 => ?_⟩
      · unfold LLk LArr at k2 ⊢
        rw [e (397 + 71 * q) (by omega) (by omega), e (397 + 71 * q + 1) (by omega) (by omega), e (397 + 71 * q + 2) (by omega) (by omega), e (397 + 71 * q + 3) (by omega) (by omega), e (397 + 71 * q + 4) (by omega) (by omega), e (397 + 71 * q + 5) (by omega) (by omega), e (397 + 71 * q + 6) (by omega) (by omega), e (397 + 71 * q + 7) (by omega) (by omega), e (397 + 71 * q + 8) (by omega) (by omega), e (397 + 71 * q + 9) (by omega) (by omega), e (397 + 71 * q + 10) (by omega) (by omega)]
        exact k2
      · have := k3 i i0 i1
        unfold BShape LArr at this ⊢
        rw [e (397 + 71 * q + 1) (by omega) (by omega), e (397 + 71 * q + 11 + 3 * i) (by omega) (by omega), e (397 + 71 * q + 11 + 3 * i + 1) (by omega) (by omega), e (397 + 71 * q + 11 + 3 * i + 2) (by omega) (by omega)]
        exact this
  refine ⟨l.of (g2.sub (by decide) (by decide)) (g2.sub (by decide) (by decide)) l', v.of l g2, fun q q0 q1 => ?_⟩
  by_cases qp : q = p
  · subst qp; exact Or.inr k
  · rcases f q q0 q1 with x | x
    · exact Or.inl (by rw [e q q0 q1 qp _ (by omega) (by omega)]; exact x)
    · exact Or.inr (x.far (fun b b1 b2 k => by rw [e q q0 q1 qp b b1 b2]))
/-- the state has changed, no Linking is fresh -/
theorem RC.st {c c' : zC} {σ : aS} {A : zA2} (h : RC c σ) (n : GN c) (g : ∀ b, (b < 11 ∨ 49 ≤ b) → ∀ k, c' b k = c b k) (s : LState c' 11) (r : RulesOK c' 11) (e : cview c' 11 = A) : RC c' (A, σ.2) := by
  obtain ⟨⟨l1, ⟨t1, t2⟩, -, ⟨u1, u2⟩, ⟨y1, y2⟩, d1⟩, ⟨-, ⟨v2, v3, v4⟩, ⟨v5, v6⟩, ⟨v7, v8, v9⟩, v10, v11, v12⟩, -⟩ := h
  have l' : LGo c' := l1.far (fun b hb k => g b (by omega) k)
  have g1 : zeq c c' 2 11 := fun b b1 b2 k => g b (by omega) k
  have g2 : zeq c c' 49 681 := fun b b1 b2 k => g b (by omega) k
  have q := y1.same (g2.sub (by decide) (by decide))
  have hn := y1.2.2.2.2.2.2
  refine ⟨⟨l', ⟨t1.same (g1.sub (by decide) (by decide)), t2.same (g1.sub (by decide) (by decide))⟩, ⟨s, r⟩, ⟨u1.same (zeqS g2 (by decide) (by decide)), RulesOK.same u1 u2 (zeqS g2 (by decide) (by decide))⟩, ⟨q.1, q.2.1 y2⟩, d1.same (g2.sub (by decide) (by decide))⟩,
    ⟨e, ⟨by rw [g1 2 (by decide) (by decide)]; exact v2, v3, fun x => by rw [cview_same u1 (zeqS g2 (by decide) (by decide))]; exact v4 x⟩, ⟨by rw [g2 87 (by decide) (by decide)]; exact v5, fun j j0 j1 => by rw [q.2.2 j j0 (by rw [v5] at hn; have : j < σ.2.2.1.1 := j1; omega)]; exact v6 j j0 j1⟩, ⟨by rw [g1 3 (by decide) (by decide)]; exact v7, by rw [← v8]; exact funext (g1 4 (by decide) (by decide)), by rw [g1 3 (by decide) (by decide)]; exact v9⟩, by rw [g2 394 (by decide) (by decide)]; exact v10, by rw [g2 394 (by decide) (by decide)]; exact v11, by rw [g2 394 (by decide) (by decide)]; exact v12⟩, GN.f (fun p p0 p1 => by rw [g2 _ (by omega) (by omega)]; exact n p p0 p1) _⟩
/-- the tape has changed -/
theorem RC.tp {c c' : zC} {σ : aS} {tp : Int × (Int → Int) × Int} (h : RC c σ) (g : ∀ b, (b < 3 ∨ 11 ≤ b) → ∀ k, c' b k = c b k) (t : LTp c' 3) (y : TBy c' 3) (e1 : c' 3 1 = tp.1) (e2 : c' 4 = tp.2.1) (e3 : c' 3 4 = tp.2.2) : RC c' (aTp σ tp) := by
  obtain ⟨⟨l1, -, ⟨s1, s2⟩, ⟨u1, u2⟩, ⟨y1, y2⟩, d1⟩, ⟨v1, ⟨v2, v3, v4⟩, ⟨v5, v6⟩, -, v10, v11, v12⟩, f⟩ := h
  have l' : LGo c' := l1.far (fun b hb k => g b (by omega) k)
  have g2 : zeq c c' 11 681 := fun b b1 b2 k => g b (by omega) k
  have q := y1.same (g2.sub (by decide) (by decide))
  have hn := y1.2.2.2.2.2.2
  refine ⟨⟨l', ⟨t, y⟩, ⟨s1.same (zeqS g2 (by decide) (by decide)), RulesOK.same s1 s2 (zeqS g2 (by decide) (by decide))⟩, ⟨u1.same (zeqS g2 (by decide) (by decide)), RulesOK.same u1 u2 (zeqS g2 (by decide) (by decide))⟩, ⟨q.1, q.2.1 y2⟩, d1.same (g2.sub (by decide) (by decide))⟩,
    ⟨by rw [cview_same s1 (zeqS g2 (by decide) (by decide))]; exact v1, ⟨by rw [g 2 (by decide)]; exact v2, v3, fun x => by rw [cview_same u1 (zeqS g2 (by decide) (by decide))]; exact v4 x⟩, ⟨by rw [g2 87 (by decide) (by decide)]; exact v5, fun j j0 j1 => by rw [q.2.2 j j0 (by rw [v5] at hn; have : j < σ.2.2.1.1 := j1; omega)]; exact v6 j j0 j1⟩, ⟨e1, e2, e3⟩, by rw [g2 394 (by decide) (by decide)]; exact v10, by rw [g2 394 (by decide) (by decide)]; exact v11, by rw [g2 394 (by decide) (by decide)]; exact v12⟩, fun p p0 p1 => ?_⟩
  rcases f p p0 p1 with x | x
  · exact Or.inl (by rw [g2 _ (by omega) (by omega)]; exact x)
  · exact Or.inr (x.far (fun b b1 b2 k => g2 b (by omega) (by omega) k))
/-- what the edit told, and its rows, have changed -/
theorem RC.ed {c c' : zC} {σ : aS} (h : RC c σ) (g : ∀ b, (b < 394 ∨ 397 ≤ b) → ∀ k, c' b k = c b k) (t : LEd c' 394) : RC c' (σ.1, σ.2.1, σ.2.2.1, σ.2.2.2.1, (c' 394 2, c' 394 3, c' 394 4)) := by
  obtain ⟨⟨l1, ⟨t1, t2⟩, ⟨s1, s2⟩, ⟨u1, u2⟩, ⟨y1, y2⟩, -⟩, ⟨v1, ⟨v2, v3, v4⟩, ⟨v5, v6⟩, ⟨v7, v8, v9⟩, -⟩, f⟩ := h
  have g2 : zeq c c' 2 394 := fun b b1 b2 k => g b (by omega) k
  have g3 : zeq c c' 397 681 := fun b b1 b2 k => g b (by omega) k
  have q := y1.same (g2.sub (by decide) (by decide))
  have hn := y1.2.2.2.2.2.2
  have l' : LGo c' := by
    obtain ⟨h1, f0, f1, f2, f4, f5, f6, ⟨a1, a2⟩, hK⟩ := l1
    have e2 := g2 2 (by decide) (by decide)
    have e3 := g2 393 (by decide) (by decide)
    refine ⟨by rw [e2]; exact h1, by rw [e2]; exact f0, by rw [e2]; exact f1, by rw [e2]; exact f2, by rw [e2]; exact f4, by rw [e2]; exact f5, by rw [e2]; exact f6, ⟨by rw [e3]; exact a1, by rw [e3]; exact a2⟩, fun q q0 q1 => ?_⟩
    obtain ⟨k1, ⟨n, k2⟩, k3⟩ := hK q q0 q1
    have e : ∀ b, 397 + 71 * q ≤ b → b < 397 + 71 * q + 71 → c' b = c b := fun b b1 b2 => funext (g3 b (by omega) (by omega))
    refine ⟨by rw [e3]; exact k1, ⟨n, ?_⟩, fun i i0 i1 => ?_⟩
    · unfold LLk LArr at k2 ⊢
      rw [e (397 + 71 * q) (by omega) (by omega), e (397 + 71 * q + 1) (by omega) (by omega), e (397 + 71 * q + 2) (by omega) (by omega), e (397 + 71 * q + 3) (by omega) (by omega), e (397 + 71 * q + 4) (by omega) (by omega), e (397 + 71 * q + 5) (by omega) (by omega), e (397 + 71 * q + 6) (by omega) (by omega), e (397 + 71 * q + 7) (by omega) (by omega), e (397 + 71 * q + 8) (by omega) (by omega), e (397 + 71 * q + 9) (by omega) (by omega), e (397 + 71 * q + 10) (by omega) (by omega)]
      exact k2
    · have := k3 i i0 i1
      unfold BShape LArr at this ⊢
      rw [e (397 + 71 * q + 1) (by omega) (by omega), e (397 + 71 * q + 11 + 3 * i) (by omega) (by omega), e (397 + 71 * q + 11 + 3 * i + 1) (by omega) (by omega), e (397 + 71 * q + 11 + 3 * i + 2) (by omega) (by omega)]
      exact this
  refine ⟨⟨l', ⟨t1.same (g2.sub (by decide) (by decide)), t2.same (g2.sub (by decide) (by decide))⟩, ⟨s1.same (zeqS g2 (by decide) (by decide)), RulesOK.same s1 s2 (zeqS g2 (by decide) (by decide))⟩, ⟨u1.same (zeqS g2 (by decide) (by decide)), RulesOK.same u1 u2 (zeqS g2 (by decide) (by decide))⟩, ⟨q.1, q.2.1 y2⟩, t⟩,
    ⟨by rw [cview_same s1 (zeqS g2 (by decide) (by decide))]; exact v1, ⟨by rw [g2 2 (by decide) (by decide)]; exact v2, v3, fun x => by rw [cview_same u1 (zeqS g2 (by decide) (by decide))]; exact v4 x⟩, ⟨by rw [g2 87 (by decide) (by decide)]; exact v5, fun j j0 j1 => by rw [q.2.2 j j0 (by rw [v5] at hn; have : j < σ.2.2.1.1 := j1; omega)]; exact v6 j j0 j1⟩, ⟨by rw [g2 3 (by decide) (by decide)]; exact v7, by rw [← v8]; exact funext (g2 4 (by decide) (by decide)), by rw [g2 3 (by decide) (by decide)]; exact v9⟩, rfl, rfl, rfl⟩, fun p p0 p1 => ?_⟩
  rcases f p p0 p1 with x | x
  · exact Or.inl (by rw [g3 _ (by omega) (by omega)]; exact x)
  · exact Or.inr (x.far (fun b b1 b2 k => g3 b (by omega) (by omega) k))
