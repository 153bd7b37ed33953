/-! The class itself over the calls' state: links of a page, changes, edits. -/
theorem KAll.fr {c c' : zC} {p : Int} (g : KAll c c' (397 + 71 * p)) (hp : isP p) : zfr c c' := fun b hb k => g.1 b (by have := hp.1; have := hp.2; omega) k
theorem KAll.z {c c' : zC} {p : Int} (g : KAll c c' (397 + 71 * p)) (hp : isP p) : zeq c c' 2 397 := fun b b1 b2 k => g.1 b (by have := hp.1; omega) k
theorem zfor_lk {c : zC} {K n i : Int} (h : LLk c K n) : LLk (zfor c i) K n := by
  have e : ∀ k, k ≠ 13 → ∀ b, zfor c i b k = c b k := fun k hk b => zfor_o (Or.inl hk)
  unfold LLk LArr at h ⊢
  simp only [e (-1) (by decide), e (-2) (by decide), e 0 (by decide), e 1 (by decide), e 2 (by decide), e 3 (by decide), e 4 (by decide), e 5 (by decide), e 6 (by decide), e 7 (by decide), e 8 (by decide), e 9 (by decide), e 10 (by decide)]
  exact h
theorem zfor_go {c : zC} {i : Int} (h : LGo c) : LGo (zfor c i) := by
  have e : ∀ k, k ≠ 13 → ∀ b, zfor c i b k = c b k := fun k hk b => zfor_o (Or.inl hk)
  have e2 : ∀ b, b < 397 → ∀ k, zfor c i b k = c b k := fun b hb k => zfor_o (Or.inr (Or.inl hb))
  obtain ⟨h1, f0, f1, f2, f4, f5, f6, ⟨a1, a2⟩, hK⟩ := h
  refine ⟨by rw [e2 2 (by decide)]; exact h1, by rw [e2 2 (by decide)]; exact f0, by rw [e2 2 (by decide)]; exact f1, by rw [e2 2 (by decide)]; exact f2, by rw [e2 2 (by decide)]; exact f4, by rw [e2 2 (by decide)]; exact f5, by rw [e2 2 (by decide)]; exact f6, ⟨by rw [e2 393 (by decide)]; exact a1, by rw [e2 393 (by decide)]; exact a2⟩, fun q q0 q1 => ?_⟩
  obtain ⟨k1, ⟨n, k2⟩, k3⟩ := hK q q0 q1
  refine ⟨by rw [e2 393 (by decide)]; exact k1, ⟨n, zfor_lk k2⟩, fun i0 i1 i2 => ?_⟩
  have := k3 i0 i1 i2
  unfold BShape LArr at this ⊢
  rw [zfor_o (b := 397 + 71 * q + 1) (k := i0) (by omega)]
  simp only [e (-1) (by decide), e (-2) (by decide), e 0 (by decide), e 1 (by decide)]
  exact this
theorem eOn_congr {f f' g g' : Int → Int} {i j : Int} (hf : ∀ k, 0 ≤ k → k < 20 → f k = f' k) (hg : ∀ k, 0 ≤ k → k < 20 → g k = g' k) (i0 : 0 ≤ i) (i1 : i < 20) : eOn f i g j ↔ eOn f' i g' j := by
  show f i ≠ -5 ∧ (j < 0 ∨ 20 ≤ j ∨ g j ≠ f i) ↔ f' i ≠ -5 ∧ (j < 0 ∨ 20 ≤ j ∨ g' j ≠ f' i)
  rw [hf i i0 i1]
  by_cases q : 0 ≤ j ∧ j < 20
  · rw [hg j q.1 q.2]
  · exact ⟨fun h => ⟨h.1, by omega⟩, fun h => ⟨h.1, by omega⟩⟩
theorem eFst_congr {f g : Int → Prop} [DecidablePred f] [DecidablePred g] : ∀ {n : Nat}, (∀ i : Nat, i < n → (f i ↔ g i)) → eFst f n = eFst g n := by
  intro n
  induction n with
  | zero => intro _; rfl
  | succ n ih =>
    intro h
    have e := ih (fun i hi => h i (by omega))
    have q := h n (by omega)
    show (if f (n : Int) then (if eFst f n = -5 then (n : Int) else eFst f n) else eFst f n) = (if g (n : Int) then (if eFst g n = -5 then (n : Int) else eFst g n) else eFst g n)
    rw [e]
    by_cases x : f (n : Int)
    · rw [if_pos x, if_pos (q.mp x)]
    · rw [if_neg x, if_neg (fun y => x (q.mpr y))]
section
variable {c : zC} {σ : aS} {p : Int} (d : Nat)
theorem G_link (h : RC c σ) (hv : VOK σ.1) (hp : isP p) : ∃ c', zrun zTab (d + 5) 130 [2, p] c = some (397 + 71 * p, c') ∧ RC c' σ ∧ KOK c' (397 + 71 * p) σ.1 p ∧ zfr c c' ∧ zeq c c' 2 397 := by
  obtain ⟨l, v, f⟩ := id h
  have e := v.1
  obtain ⟨c', r1, r2, r3⟩ := zs_G_linkingOf d l.1 l.2.2.1.1 l.2.2.1.2 hp (by rw [e]; exact hv.pg hp) (by rw [e]; exact hv.sn) (by rw [e]; exact f p hp.1 hp.2)
  rw [e] at r3
  exact ⟨c', r1, h.link hp r2 r3, r3, r2.fr hp, r2.z hp⟩
theorem G_link0 (h : RC c σ) (hp : ¬ isP p) : zrun zTab (d + 1) 130 [2, p] c = some (0, c) := by
  obtain ⟨⟨⟨h1, f0, f1, f2, f4, f5, f6, ⟨a1, a2⟩, hK⟩, -⟩, -⟩ := h
  rw [ze_X11_linkingOf]
  by_cases e : p < 0
  · rw [if_pos e, ze_X11_linkingOf_22, if_pos rfl]
  · rw [if_neg e, if_pos h1, f5, if_pos a1, a2, if_neg (by omega), ze_X11_linkingOf_22, if_pos rfl]
theorem G_start (h : RC c σ) : ∃ c', zrun zTab (d + 5) 126 [2] c = some (0, c') ∧ RC c' (aPut σ σ.1) ∧ GN c' ∧ zfr c c' ∧ zeq c c' 2 87 ∧ zeq c c' 393 397 := by
  obtain ⟨l, v, f⟩ := id h
  obtain ⟨-, ⟨t1, t2⟩, ⟨s1, s2⟩, ⟨u1, u2⟩, ⟨y1, y2⟩, d1⟩ := id l
  obtain ⟨v1, ⟨v2, v3, v4⟩, ⟨v5, v6⟩, ⟨v7, v8, v9⟩, v10, v11, v12⟩ := id v
  obtain ⟨c1, r1, r2, r3, r4, r5, r6, r7, r8⟩ := zs_G_startChange d l.1 y1 y2 s1 s2
  have w : ∀ b, b < 397 → ∀ k, zfor c1 4 b k = c1 b k := fun b hb k => zfor_o (Or.inr (Or.inl hb))
  have g : ∀ b, b < 397 → (b < 87 ∨ 393 ≤ b) → ∀ k, zfor c1 4 b k = c b k := fun b hb hb2 k => (w b hb k).trans (r2.1 b (by omega) k)
  have g1 : zeq c (zfor c1 4) 2 87 := fun b b1 b2 k => g b (by omega) (by omega) k
  have g3 : zeq c (zfor c1 4) 393 397 := fun b b1 b2 k => g b (by omega) (by omega) k
  have q := r4.same (c' := zfor c1 4) (fun b b1 b2 k => w b (by omega) k)
  have gn : GN (zfor c1 4) := fun p p0 p1 => by unfold zfor; rw [if_pos (by omega)]
  have hn := r4.2.2.2.2.2.2
  refine ⟨zfor c1 4, r1, ⟨⟨zfor_go r3, ⟨t1.same (g1.sub (by decide) (by decide)), t2.same (g1.sub (by decide) (by decide))⟩, ⟨s1.same (zeqS g1 (by decide) (by decide)), RulesOK.same s1 s2 (zeqS g1 (by decide) (by decide))⟩, ⟨u1.same (zeqS g1 (by decide) (by decide)), RulesOK.same u1 u2 (zeqS g1 (by decide) (by decide))⟩, ⟨q.1, q.2.1 r5⟩, d1.same (g3.sub (by decide) (by decide))⟩,
    ⟨by rw [cview_same s1 (zeqS g1 (by decide) (by decide))]; exact v1, ⟨by rw [g1 2 (by decide) (by decide)]; exact v2, v3, fun x => by rw [cview_same u1 (zeqS g1 (by decide) (by decide))]; exact v4 x⟩, ⟨?_, fun j j0 j1 => ?_⟩, ⟨by rw [g1 3 (by decide) (by decide)]; exact v7, by rw [show (aPut σ σ.1).2.2.2.1.2.1 = σ.2.2.2.1.2.1 from rfl, ← v8]; exact funext (g1 4 (by decide) (by decide)), by rw [g1 3 (by decide) (by decide)]; exact v9⟩, by rw [g3 394 (by decide) (by decide)]; exact v10, by rw [g3 394 (by decide) (by decide)]; exact v11, by rw [g3 394 (by decide) (by decide)]; exact v12⟩, gn.f _⟩, gn, fun b hb k => ?_, g1, g3⟩
  · rw [w 87 (by decide), r6, v5]; rfl
  · have j1 : j < (if σ.2.2.1.1 < 8 then σ.2.2.1.1 + 1 else 8) := j1
    rw [v5] at r6
    rw [q.2.2 j j0 (by split at j1 <;> omega)]
    show hv c1 87 j = if j < (if σ.2.2.1.1 < 8 then σ.2.2.1.1 else 7) then σ.2.2.1.2 (if σ.2.2.1.1 < 8 then j else j + 1) else σ.1
    by_cases e : j < (if σ.2.2.1.1 < 8 then σ.2.2.1.1 else 7)
    · rw [if_pos e, r7 j j0 (by rw [r6]; split at e <;> split <;> omega), v5, v6 _ (by split <;> omega) (by split at e <;> split <;> omega)]
    · rw [if_neg e, show j = c1 87 1 - 1 by rw [r6]; split at e <;> split at j1 <;> split <;> omega, r8]
      exact v1
  · rw [zfor_o (by omega)]
    exact r2.1 b (by omega) k
theorem G_sEdit (h : RC c σ) (hv : VOK σ.1) (hp : isP p) : ∃ c', zrun zTab (d + 6) 127 [2, p] c = some (0, c') ∧ RC c' (aPut σ σ.1) ∧ GN c' ∧ zfr c c' ∧ zeq c c' 2 87 ∧ ∀ k, 0 ≤ k → k < 20 → c' 395 k = mTo σ.1 p k := by
  obtain ⟨c2, r1, r2, r3, r4, r5⟩ := G_link d h hv hp
  obtain ⟨⟨l1, -, -, -, -, l6⟩, v, -⟩ := id r2
  have o : ∀ b, b ≠ 395 → ∀ k, zrow c2 395 (mTo σ.1 p) 20 b k = c2 b k := fun b hb k => zrow_o (Or.inl hb)
  have on : ∀ b k, k < 0 → zrow c2 395 (mTo σ.1 p) 20 b k = c2 b k := fun b k hk => zrow_o (Or.inr hk)
  have hE : LEd (zrow c2 395 (mTo σ.1 p) 20) 394 := by
    obtain ⟨e0, e1, e2, e3, e4, e5⟩ := l6
    exact ⟨e0, by rw [on _ _ (by decide)]; exact e1, by rw [o 394 (by decide)]; exact e2, by rw [o 394 (by decide)]; exact e3, ⟨by rw [on _ _ (by decide)]; exact e4.1, by rw [on _ _ (by decide)]; exact e4.2⟩, ⟨by rw [on _ _ (by decide)]; exact e5.1, by rw [on _ _ (by decide)]; exact e5.2⟩⟩
  have hc := r2.ed (c' := zrow c2 395 (mTo σ.1 p) 20) (fun b hb k => o b (by omega) k) hE
  rw [o 394 (by decide), o 394 (by decide), o 394 (by decide), v.2.2.2.2.1, v.2.2.2.2.2.1, v.2.2.2.2.2.2] at hc
  have hc : RC (zrow c2 395 (mTo σ.1 p) 20) σ := hc
  obtain ⟨c3, q1, q2, q3, q4, q5, q6⟩ := G_start d hc
  refine ⟨c3, ?_, q2, q3, (r4.tr (fun b hb k => o b (by omega) k)).tr q4, ((r5.sub (by decide) (by decide)).tr (fun b b1 b2 k => o b (by omega) k)).tr q5, fun k k0 k1 => ?_⟩
  · rw [ze_X11_startEdit, if_pos h.1.1.1, r1, zbnd_some, if_neg (by have := hp.1; omega), if_pos l1.1, l1.2.2.2.2.2.2.1, if_pos l6.2.1, if_pos r3.1.2.1, l6.2.2.1, zs_K_copyLinked (d + 2) (R := 394 + 1) (by have := hp.1; omega) (by decide) ⟨l6.2.2.2.2.1.1, l6.2.2.2.2.1.2⟩ r3, zbnd_some]
    rw [show (394 : Int) + 1 = 395 from rfl, if_pos hc.1.1.1, q1, zbnd_some]
  · rw [q6 395 (by decide) (by decide), zrow_i k0 k1]
theorem G_eEdit (h : RC c σ) (hv : VOK σ.1) (hp : isP p) {a m n : Int} (ha : 0 ≤ a ∧ a < 1000) (hm : 0 ≤ m ∧ m < 1000) (hn : 0 ≤ n ∧ n < 1000) {f : Int → Int} (hf : ∀ k, 0 ≤ k → k < 20 → c 395 k = f k) : ∃ c', zrun zTab (d + 6) 128 [2, p, a, m, n] c = some (0, c') ∧ RC c' (σ.1, σ.2.1, σ.2.2.1, σ.2.2.2.1, (zcnt (fun i => eOn (mTo σ.1 p) i f (ePl i a n m)) 20, zcnt (fun i => eOn f i (mTo σ.1 p) (ePl i a m n)) 20, eFst (fun i => eOn (mTo σ.1 p) i f (ePl i a n m)) 20)) ∧ zfr c c' ∧ zeq c c' 2 87 := by
  obtain ⟨c2, r1, r2, r3, r4, r5⟩ := G_link d h hv hp
  obtain ⟨⟨l1, -, -, -, -, l6⟩, v, -⟩ := id r2
  have o : ∀ b, b ≠ 396 → ∀ k, zrow c2 396 (mTo σ.1 p) 20 b k = c2 b k := fun b hb k => zrow_o (Or.inl hb)
  have on : ∀ b k, k < 0 → zrow c2 396 (mTo σ.1 p) 20 b k = c2 b k := fun b k hk => zrow_o (Or.inr hk)
  have hE : LEd (zrow c2 396 (mTo σ.1 p) 20) 394 := by
    obtain ⟨e0, e1, e2, e3, e4, e5⟩ := l6
    exact ⟨e0, by rw [on _ _ (by decide)]; exact e1, by rw [o 394 (by decide)]; exact e2, by rw [o 394 (by decide)]; exact e3, ⟨by rw [on _ _ (by decide)]; exact e4.1, by rw [on _ _ (by decide)]; exact e4.2⟩, ⟨by rw [on _ _ (by decide)]; exact e5.1, by rw [on _ _ (by decide)]; exact e5.2⟩⟩
  obtain ⟨c3, q1, q2, q3, q4, q5⟩ := zs_E_compare (d + 3) hE ha hm hn
  have ob : ∀ b, (b < 394 ∨ 397 ≤ b) → ∀ k, c3 b k = c2 b k := fun b hb k => (q2 b k (Or.inl (by omega))).trans (o b (by omega) k)
  have hc := r2.ed (c' := c3) ob (q2.ed hE)
  have h6 : ∀ k, 0 ≤ k → k < 20 → zrow c2 396 (mTo σ.1 p) 20 (394 + 2) k = mTo σ.1 p k := fun k k0 k1 => zrow_i k0 k1
  have h5 : ∀ k, 0 ≤ k → k < 20 → zrow c2 396 (mTo σ.1 p) 20 (394 + 1) k = f k := fun k k0 k1 => by
    rw [o _ (by decide), show (394 : Int) + 1 = 395 from rfl, r5 395 (by decide) (by decide)]
    exact hf k k0 k1
  have z1 := zcnt_congr (n := 20) (f := fun i => eOn (zrow c2 396 (mTo σ.1 p) 20 (394 + 2)) i (zrow c2 396 (mTo σ.1 p) 20 (394 + 1)) (ePl i a n m)) (g := fun i => eOn (mTo σ.1 p) i f (ePl i a n m)) (fun i hi => eOn_congr (i := (i : Int)) h6 h5 (by omega) (by omega))
  have z2 := zcnt_congr (n := 20) (f := fun i => eOn (zrow c2 396 (mTo σ.1 p) 20 (394 + 1)) i (zrow c2 396 (mTo σ.1 p) 20 (394 + 2)) (ePl i a m n)) (g := fun i => eOn f i (mTo σ.1 p) (ePl i a m n)) (fun i hi => eOn_congr (i := (i : Int)) h5 h6 (by omega) (by omega))
  have z3 := eFst_congr (n := 20) (f := fun i => eOn (zrow c2 396 (mTo σ.1 p) 20 (394 + 2)) i (zrow c2 396 (mTo σ.1 p) 20 (394 + 1)) (ePl i a n m)) (g := fun i => eOn (mTo σ.1 p) i f (ePl i a n m)) (fun i hi => eOn_congr (i := (i : Int)) h6 h5 (by omega) (by omega))
  rw [q3, q4, q5, z1, z2, z3] at hc
  refine ⟨c3, ?_, hc, r4.tr (fun b hb k => ob b (by omega) k), (r5.sub (by decide) (by decide)).tr (fun b b1 b2 k => ob b (by omega) k)⟩
  rw [ze_X11_endEdit, if_pos h.1.1.1, r1, zbnd_some, if_neg (by have := hp.1; omega), if_pos l1.1, l1.2.2.2.2.2.2.1, if_pos l6.2.1, if_pos r3.1.2.1, l6.2.2.2.1, zs_K_copyLinked (d + 2) (R := 394 + 2) (by have := hp.1; omega) (by decide) ⟨l6.2.2.2.2.2.1, l6.2.2.2.2.2.2⟩ r3, zbnd_some]
  rw [show (394 : Int) + 2 = 396 from rfl, o 2 (by decide), if_pos l1.1, o 2 (by decide), l1.2.2.2.2.2.2.1, if_pos hE.2.1, q1, zbnd_some]
end
