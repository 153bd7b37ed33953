/-! The two constructors: the class, the reference. -/
/-- the view at the start -/
def A0 : zA2 := vcut (fun t _ => if t = 1 then 20 else if t = 14 then 3 else 0)
/-- the calls' state at the start; the tape's bytes are what lies there -/
def s0 (B : Int → Int) : aS := (A0, (0, A0), (0, fun _ => A0), (0, B, -5), (-5, -5, -5))
theorem NT.v {c : zC} {S : Int} (h : NT c S) : cview c S = A0 := by
  obtain ⟨-, h3, h4, h5, h6, hp⟩ := h
  rw [← cview_cut]
  unfold A0
  refine vcut_ext (fun p p0 p1 => ?_) (fun p i p0 p1 i0 i1 i2 => ?_) h4 (fun r r0 r1 => ?_) h3 (fun s x0 x1 => ?_) (fun s h x0 x1 y0 y1 y2 => ?_) h5 h6
  · rw [cv_0 p0 p1, cv_1 p0 p1]; exact hp p p0 p1
  · rw [cv_0 p0 p1, (hp p p0 p1).1] at i2; omega
  · rw [cv_4, h4] at r1; omega
  · rw [cv_9, h3] at x1; omega
  · rw [cv_9, h3] at x1; omega
theorem NT.r {c : zC} {S : Int} (h : NT c S) : RulesOK c S := fun r hr => by rw [h.2.2.1] at hr; omega
def NK (c : zC) (K : Int) : Prop := LLk c K 0 ∧ LLb c K ∧ c K 13 = 0
theorem NK.same {c c' : zC} {K : Int} (h : NK c K) (g : ∀ b, K ≤ b → b < K + 71 → ∀ k, c' b k = c b k) : NK c' K := by
  obtain ⟨h1, h2, h3⟩ := h
  refine ⟨h1.same (g K (by omega) (by omega)) (fun b k b0 b1 hk => g b (by omega) (by omega) k), fun i i0 i1 => ?_, (g K (by omega) (by omega) 13).trans h3⟩
  have q := h2 i i0 i1
  exact ⟨(g (K + 1) (by omega) (by omega) i).trans q.1, q.2.same (fun b b0 b1 k => g b (by omega) (by omega) k)⟩
/-- the class, its Linkings made one by one -/
def GI (c0 c : zC) (p : Int) : Prop := (∀ b k, b ≠ 0 → b < 397 → (b ≠ 393 ∨ k < 0) → c b k = c0 b k) ∧ (∀ q, 0 ≤ q → q < p → c 393 q = 397 + 71 * q ∧ NK c (397 + 71 * q)) ∧ c 0 0 = 397 + 71 * p ∧ c 0 1 = c0 0 1 + 1978 * p
theorem GI.next {c0 c c3 : zC} {p : Int} (h : GI c0 c p) (h0 : 0 ≤ p) (x : NX c c3 (397 + 71 * p) 393 p 71 1978) (hn : NK c3 (397 + 71 * p)) : GI c0 c3 (p + 1) := by
  obtain ⟨f, g, z, s⟩ := h
  refine ⟨fun b k b0 bl hb => (x.1 b k b0 (by omega) (by omega)).trans (f b k b0 bl hb), fun q q0 q1 => ?_, by rw [x.2.2.1]; omega, by rw [x.2.2.2, s]; omega⟩
  by_cases e : q = p
  · subst e; exact ⟨x.2.1, hn⟩
  · have g := g q q0 (by omega)
    exact ⟨(x.1 _ _ (by decide) (by omega) (Or.inr e)).trans g.1, g.2.same (fun b b0 b1 k => x.1 b k (by omega) (by omega) (by omega))⟩
theorem I_go_l (d : Nat) {c0 : zC} (g1 : c0 2 (-1) = 11) (g2 : c0 2 5 = 393) (g3 : c0 393 (-1) = 113 ∧ c0 393 (-2) = 4) : ∀ (t F j : Nat) (c : zC), t ≤ F → j + t = 4 → GI c0 c j → ∃ c', zex zc_X11_init zk_X11_init (zrun zTab (d + 2)) (F + 1) 69 [(2, 2), (0, (j : Int))] [] c = some (0, c') ∧ GI c0 c' 4 := by
  intro t
  induction t with
  | zero =>
    intro F j c hF hj h
    obtain rfl : j = 4 := by omega
    exact ⟨c, by rw [ze_X11_init_69, if_pos ((h.1 2 _ (by decide) (by decide) (by decide)).trans g1), (h.1 2 5 (by decide) (by decide) (by decide)).trans g2, if_pos ((h.1 393 _ (by decide) (by decide) (by decide)).trans g3.1), (h.1 393 (-2) (by decide) (by decide) (by decide)).trans g3.2, if_neg (by omega)], h⟩
  | succ t ih =>
    intro F j c hF hj h
    obtain ⟨F, rfl⟩ : ∃ G, F = G + 1 := ⟨F - 1, by omega⟩
    have k1 := (h.1 2 _ (by decide) (by decide) (by decide)).trans g1
    have k2 := (h.1 2 5 (by decide) (by decide) (by decide)).trans g2
    have a1 := (h.1 393 _ (by decide) (by decide) (by decide)).trans g3.1
    have b1 := (h.1 393 (-2) (by decide) (by decide) (by decide)).trans g3.2
    obtain ⟨-, -, z, -⟩ := id h
    obtain ⟨c2, r2, g2, n1, n2, n3⟩ := I_link d (c := znew c 4 14) (t := 397 + 71 * (j : Int)) (by rw [znw_0 (by omega), z]) (by omega) (znw_k z) (znw_v z (by decide)) (znw_v z (by decide))
    have g := g2.mk z (by omega)
    obtain ⟨x, y⟩ := NX_ok (R := 393) (j := (j : Int)) z g (by omega) (by omega)
    rw [ze_X11_init_69, if_pos k1, k2, if_pos a1, b1, if_pos (by omega), if_pos k1, if_pos (znw_k rfl), z, r2, zbnd_some, if_pos (by rw [g.2.2 _ _ (by omega) (by omega) (by omega), g.2.2 _ _ (by omega) (by omega) (by omega)]; exact ⟨a1, by omega, by omega⟩), if_pos n1.2.1, zw_id' (by omega) (by omega), show (j : Int) + 1 = ((j + 1 : Nat) : Int) by omega]
    refine ih F (j + 1) _ (by omega) (by omega) ?_
    rw [show ((j + 1 : Nat) : Int) = (j : Int) + 1 by omega]
    exact h.next (by omega) x ((show NK c2 _ from ⟨n1, n2, n3⟩).same (fun b b0 b1 k => y b b0 k))
theorem NX.two {c c3 : zC} {a j n m : Int} (x : NX c c3 a 2 j n m) : ∀ b k, 3 ≤ b → b < a → c3 b k = c b k := fun b k b0 b1 => x.1 b k (by omega) b1 (by omega)
theorem I_go (d : Nat) {c : zC} (h0 : c 0 0 = 3) (hk : c 2 (-1) = 11) (h3 : c 2 3 = 0) : ∃ c', zrun zTab (d + 4) 98 [2] c = some (0, c') ∧ RC c' (s0 (c' 4)) ∧ (∀ k, c' 1 k = c 1 k) ∧ c' 0 0 = 681 ∧ c' 0 1 = c 0 1 + 11006 := by
  obtain ⟨F, hF⟩ : ∃ F, 19999 = F + 30 := ⟨19969, rfl⟩
  obtain ⟨e1, r1, g1, t1, t2, t3⟩ := I_tape (d + 1) (c := znew c 10 9) (t := 3) (by rw [znw_0 (by rw [h0]; decide), h0]) (by decide) (znw_k h0) (znw_v h0 (by decide))
  have g1 : zng c e1 3 8 145 := (g1.mk h0 (by decide)).num (by decide) (by decide)
  obtain ⟨x1, y1⟩ := NX_ok (R := 2) (j := 0) h0 g1 (by decide) (by decide)
  have w1 : e1 2 (-1) = 11 := (g1.2.2 2 _ (by decide) (by decide) (by rw [h0]; decide)).trans hk
  rw [ze_X11_init, if_neg (by decide), if_pos (znw_k rfl), h0, r1, zbnd_some, if_pos w1, hF]
  generalize zup e1 2 0 3 = c1 at x1 y1 ⊢
  have z1 : c1 0 0 = 11 := x1.2.2.1
  have k1 : c1 2 (-1) = 11 := (x1.1 2 _ (by decide) (by decide) (by decide)).trans hk
  obtain ⟨e2, r2, g2, n2⟩ := I_state (d + 1) (c := znew c1 9 7) (t := 11) (by rw [znw_0 (by rw [z1]; decide), z1]) (by decide) (znw_k z1) (znw_v z1 (by decide)) (znw_v z1 (by decide))
  have g2 : zng c1 e2 11 38 289 := (g2.mk z1 (by decide)).num (by decide) (by decide)
  obtain ⟨x2, y2⟩ := NX_ok (R := 2) (j := 1) z1 g2 (by decide) (by decide)
  have w2 : e2 2 (-1) = 11 := (g2.2.2 2 _ (by decide) (by decide) (by rw [z1]; decide)).trans k1
  rw [ze_X11_init_15, if_pos (znw_k rfl), z1, r2, zbnd_some, if_pos w2]
  generalize zup e2 2 1 11 = c2 at x2 y2 ⊢
  have z2 : c2 0 0 = 49 := x2.2.2.1
  have k2 : c2 2 (-1) = 11 := (x2.1 2 _ (by decide) (by decide) (by decide)).trans k1
  obtain ⟨e3, r3, g3, n3⟩ := I_state (d + 1) (c := znew c2 9 7) (t := 49) (by rw [znw_0 (by rw [z2]; decide), z2]) (by decide) (znw_k z2) (znw_v z2 (by decide)) (znw_v z2 (by decide))
  have g3 : zng c2 e3 49 38 289 := (g3.mk z2 (by decide)).num (by decide) (by decide)
  obtain ⟨x3, y3⟩ := NX_ok (R := 2) (j := 2) z2 g3 (by decide) (by decide)
  have w3 : e3 2 (-1) = 11 := (g3.2.2 2 _ (by decide) (by decide) (by rw [z2]; decide)).trans k2
  rw [ze_X11_init_26, if_pos (znw_k rfl), z2, r3, zbnd_some, if_pos w3]
  generalize zup e3 2 2 49 = c3 at x3 y3 ⊢
  have z3 : c3 0 0 = 87 := x3.2.2.1
  have k3 : c3 2 (-1) = 11 := (x3.1 2 _ (by decide) (by decide) (by decide)).trans k2
  obtain ⟨e4, r4, g4, n4, v4⟩ := I_his d (c := znew c3 3 2) (t := 87) (by rw [znw_0 (by rw [z3]; decide), z3]) (by decide) (znw_k z3) (znw_v z3 (by decide))
  have g4 : zng c3 e4 87 306 2322 := (g4.mk z3 (by decide)).num (by decide) (by decide)
  obtain ⟨x4, y4⟩ := NX_ok (R := 2) (j := 4) z3 g4 (by decide) (by decide)
  have w4 : e4 2 (-1) = 11 := (g4.2.2 2 _ (by decide) (by decide) (by rw [z3]; decide)).trans k3
  rw [ze_X11_init_37, if_pos (znw_k rfl), z3, r4, zbnd_some, if_pos w4]
  generalize zup e4 2 4 87 = c4 at x4 y4 ⊢
  have z4 : c4 0 0 = 393 := x4.2.2.1
  have k4 : c4 2 (-1) = 11 := (x4.1 2 _ (by decide) (by decide) (by decide)).trans k3
  rw [ze_X11_init_48, if_pos (by rw [znw_o (by rw [z4]; decide) (by decide)]; exact k4), z4]
  have R5 := NR_ok (kd := 113) (n := 4) (f := 5) (t := 2) z4 (by decide) (by decide)
  generalize zup (znew c4 113 4) 2 5 393 = c5 at R5 ⊢
  have z5 : c5 0 0 = 394 := R5.z
  have k5 : c5 2 (-1) = 11 := (R5.tt (by decide)).trans k4
  obtain ⟨e6, r6, g6, n6, v6, v7, v8⟩ := I_edit (d + 2) (c := znew c5 2 5) (t := 394) (by rw [znw_0 (by rw [z5]; decide), z5]) (by decide) (znw_k z5)
  have g6 : zng c5 e6 394 3 45 := (g6.mk z5 (by decide)).num (by decide) (by decide)
  obtain ⟨x6, y6⟩ := NX_ok (R := 2) (j := 6) z5 g6 (by decide) (by decide)
  have w6 : e6 2 (-1) = 11 := (g6.2.2 2 _ (by decide) (by decide) (by rw [z5]; decide)).trans k5
  rw [ze_X11_init_56, if_pos (znw_k rfl), z5, r6, zbnd_some, if_pos w6]
  generalize zup e6 2 6 394 = c6 at x6 y6 ⊢
  have z6 : c6 0 0 = 397 := x6.2.2.1
  have k6 : c6 2 (-1) = 11 := (x6.1 2 _ (by decide) (by decide) (by decide)).trans k5
  have o6 : ∀ b k, 3 ≤ b → b < 394 → c6 b k = c5 b k := x6.two
  have q5 : c6 2 5 = 393 := (x6.1 2 5 (by decide) (by decide) (by decide)).trans R5.2.2.1
  have q393 : c6 393 (-1) = 113 ∧ c6 393 (-2) = 4 := by rw [o6 393 _ (by decide) (by decide), o6 393 _ (by decide) (by decide)]; exact R5.1
  rw [ze_X11_init_67]
  obtain ⟨c8, r8, f8, l8, z8, s8⟩ := I_go_l (d + 1) k6 q5 q393 4 (F + 23) 0 c6 (by omega) (by omega) ⟨fun b k _ _ _ => rfl, fun q q0 q1 => by omega, z6, by omega⟩
  have o8 : ∀ b k, 3 ≤ b → b < 397 → b ≠ 393 → c8 b k = c6 b k := fun b k b0 b1 b2 => f8 b k (by omega) b1 (Or.inl b2)
  have o5 : ∀ b k, 3 ≤ b → b < 393 → c5 b k = c4 b k := fun b k b0 b1 => R5.2.2.2.2.1 b k (by omega) (by omega) (by omega)
  have o4 : ∀ b k, 3 ≤ b → b < 393 → c8 b k = c4 b k := fun b k b0 b1 => by rw [o8 b k b0 (by omega) (by omega), o6 b k b0 (by omega), o5 b k b0 b1]
  have p6 : ∀ b, 394 ≤ b → b < 397 → ∀ k, c8 b k = e6 b k := fun b b0 b1 k => by rw [o8 b k (by omega) b1 (by omega), y6 b b0 k]
  have p4 : ∀ b, 87 ≤ b → b < 393 → ∀ k, c8 b k = e4 b k := fun b b0 b1 k => by rw [o4 b k (by omega) b1, y4 b b0 k]
  have p3 : ∀ b, 49 ≤ b → b < 49 + 38 → ∀ k, c8 b k = e3 b k := fun b b0 b1 k => by rw [o4 b k (by omega) (by omega), x4.two b k (by omega) (by omega), y3 b b0 k]
  have p2 : ∀ b, 11 ≤ b → b < 11 + 38 → ∀ k, c8 b k = e2 b k := fun b b0 b1 k => by rw [o4 b k (by omega) (by omega), x4.two b k (by omega) (by omega), x3.two b k (by omega) (by omega), y2 b b0 k]
  have p1 : ∀ b, 3 ≤ b → b < 11 → ∀ k, c8 b k = e1 b k := fun b b0 b1 k => by rw [o4 b k (by omega) (by omega), x4.two b k (by omega) (by omega), x3.two b k (by omega) (by omega), x2.two b k (by omega) (by omega), y1 b b0 k]
  have N2 := n2.same p2
  have N3 := n3.same p3
  have T1 : LTp c8 3 := t1.same (fun b b0 b1 k => p1 b b0 b1 k)
  have H4 := n4.same (fun b b0 b1 k => p4 b b0 b1 k)
  have E6 : LEd c8 394 := n6.same (fun b b0 b1 k => p6 b b0 b1 k)
  have T2 : c8 3 1 = 0 := (p1 3 (by decide) (by decide) 1).trans t2
  have T3 : c8 3 4 = -5 := (p1 3 (by decide) (by decide) 4).trans t3
  have V4 : c8 87 1 = 0 := (p4 87 (by decide) (by decide) 1).trans v4
  have u2 : ∀ k, c8 2 k = c6 2 k := fun k => f8 2 k (by decide) (by decide) (Or.inl (by decide))
  have u6 : ∀ k, k ≠ 6 → c6 2 k = c5 2 k := fun k hk => x6.1 2 k (by decide) (by decide) (Or.inr hk)
  have u5 : ∀ k, k ≠ 5 → c5 2 k = c4 2 k := fun k hk => R5.tt hk
  have u4 : ∀ k, k ≠ 4 → c4 2 k = c3 2 k := fun k hk => x4.1 2 k (by decide) (by decide) (Or.inr hk)
  have u3 : ∀ k, k ≠ 2 → c3 2 k = c2 2 k := fun k hk => x3.1 2 k (by decide) (by decide) (Or.inr hk)
  have u2b : ∀ k, k ≠ 1 → c2 2 k = c1 2 k := fun k hk => x2.1 2 k (by decide) (by decide) (Or.inr hk)
  have u1 : ∀ k, k ≠ 0 → c1 2 k = c 2 k := fun k hk => x1.1 2 k (by decide) (by decide) (Or.inr hk)
  have f0 : c8 2 0 = 3 := by rw [u2 0, u6 0 (by decide), u5 0 (by decide), u4 0 (by decide), u3 0 (by decide), u2b 0 (by decide)]; exact x1.2.1
  have f1 : c8 2 1 = 11 := by rw [u2 1, u6 1 (by decide), u5 1 (by decide), u4 1 (by decide), u3 1 (by decide)]; exact x2.2.1
  have f2 : c8 2 2 = 49 := by rw [u2 2, u6 2 (by decide), u5 2 (by decide), u4 2 (by decide)]; exact x3.2.1
  have f4 : c8 2 4 = 87 := by rw [u2 4, u6 4 (by decide), u5 4 (by decide)]; exact x4.2.1
  have f5 : c8 2 5 = 393 := (u2 5).trans q5
  have f6 : c8 2 6 = 394 := (u2 6).trans x6.2.1
  have f3 : c8 2 3 = 0 := by rw [u2 3, u6 3 (by decide), u5 3 (by decide), u4 3 (by decide), u3 3 (by decide), u2b 3 (by decide), u1 3 (by decide)]; exact h3
  have lg : LGo c8 := ⟨(u2 _).trans k6, f0, f1, f2, f4, f5, f6, ⟨(f8 393 _ (by decide) (by decide) (by decide)).trans q393.1, (f8 393 _ (by decide) (by decide) (by decide)).trans q393.2⟩, fun p p0 p1 => ⟨(l8 p p0 p1).1, ⟨0, (l8 p p0 p1).2.1⟩, (l8 p p0 p1).2.2.1⟩⟩
  refine ⟨c8, r8, ⟨⟨lg, ⟨T1, fun k k0 k1 => by rw [T2] at k1; omega⟩, ⟨N2.1, N2.r⟩, ⟨N3.1, N3.r⟩, ⟨H4.1, fun j j0 j1 => by rw [V4] at j1; omega⟩, E6⟩, ⟨N2.v, ⟨f3, Or.inl rfl, fun x => absurd (show (0 : Int) = 1 from x) (by decide)⟩, ⟨V4, fun j j0 j1 => absurd (show j < 0 from j1) (by omega)⟩, ⟨T2, rfl, T3⟩, (p6 394 (by decide) (by decide) 2).trans v6, (p6 394 (by decide) (by decide) 3).trans v7, (p6 394 (by decide) (by decide) 4).trans v8⟩, fun p p0 p1 => Or.inl (l8 p p0 p1).2.2.2⟩, fun k => ?_, z8, ?_⟩
  · rw [f8 1 k (by decide) (by decide) (Or.inl (by decide)), x6.1 1 k (by decide) (by decide) (Or.inl (by decide)), R5.2.2.2.2.1 1 k (by decide) (by decide) (by decide), x4.1 1 k (by decide) (by decide) (Or.inl (by decide)), x3.1 1 k (by decide) (by decide) (Or.inl (by decide)), x2.1 1 k (by decide) (by decide) (Or.inl (by decide)), x1.1 1 k (by decide) (by decide) (Or.inl (by decide))]
  · rw [s8, x6.2.2.2, R5.2.2.2.2.2.2, x4.2.2.2, x3.2.2.2, x2.2.2.2, x1.2.2.2]; omega
/-- the reference before its numbers are set -/
theorem I_mo_r (d : Nat) {c : zC} {t : Int} (h0 : c 0 0 = t + 1) (ht : 0 < t) (hk : c t (-1) = 12) : ∃ F c16, zrun zTab (d + 1) 137 [t] c = zex zc_X12_init zk_X12_init (zrun zTab d) (F + 6) 139 [(2, t), (0, 0)] [] c16 ∧ c16 t (-1) = 12 ∧ zng c c16 t 16 25677 ∧ (∀ k, (∀ q ∈ ([(0, 100, 14820), (3, 100, 80), (9, 100, 240), (11, 100, 57), (12, 100, 20), (13, 100, 860), (14, 100, 860), (15, 100, 8600), (16, 100, 10), (17, 100, 10), (18, 100, 20), (19, 100, 20), (20, 100, 20), (21, 100, 20), (23, 100, 20), (28, 100, 20)] : List (Int × Int × Int)), k ≠ q.1) → c16 t k = c t k) ∧ NRa c16 t [(0, 100, 14820), (3, 100, 80), (9, 100, 240), (11, 100, 57), (12, 100, 20), (13, 100, 860), (14, 100, 860), (15, 100, 8600), (16, 100, 10), (17, 100, 10), (18, 100, 20), (19, 100, 20), (20, 100, 20), (21, 100, 20), (23, 100, 20), (28, 100, 20)] (t + 1) := by
  obtain ⟨F, hF⟩ : ∃ F, 19999 = F + 30 := ⟨19969, rfl⟩
  rw [ze_X12_init, if_neg (by omega), if_pos (by rw [znw_o (by omega) (by omega)]; exact hk), h0, hF]
  have R1 := NR_ok (kd := 100) (n := 14820) (f := 0) h0 ht (by omega)
  generalize zup (znew c 100 14820) t 0 (t + 1) = c1 at R1 ⊢
  have k1 : c1 t (-1) = 12 := (R1.tt (by decide)).trans hk
  rw [ze_X12_init_13, if_pos ((R1.kk ht (by omega) (by decide)).trans hk), R1.z]
  have R2 := NR_ok (kd := 100) (n := 80) (f := 3) R1.z ht (by omega)
  generalize zup (znew c1 100 80) t 3 (t + 1 + 1) = c2 at R2 ⊢
  have k2 : c2 t (-1) = 12 := (R2.tt (by decide)).trans k1
  rw [ze_X12_init_21, if_pos ((R2.kk ht (by omega) (by decide)).trans k1), R2.z]
  have R3 := NR_ok (kd := 100) (n := 240) (f := 9) R2.z ht (by omega)
  generalize zup (znew c2 100 240) t 9 (t + 1 + 1 + 1) = c3 at R3 ⊢
  have k3 : c3 t (-1) = 12 := (R3.tt (by decide)).trans k2
  rw [ze_X12_init_30, if_pos ((R3.kk ht (by omega) (by decide)).trans k2), R3.z]
  have R4 := NR_ok (kd := 100) (n := 57) (f := 11) R3.z ht (by omega)
  generalize zup (znew c3 100 57) t 11 (t + 1 + 1 + 1 + 1) = c4 at R4 ⊢
  have k4 : c4 t (-1) = 12 := (R4.tt (by decide)).trans k3
  rw [ze_X12_init_38, if_pos ((R4.kk ht (by omega) (by decide)).trans k3), R4.z]
  have R5 := NR_ok (kd := 100) (n := 20) (f := 12) R4.z ht (by omega)
  generalize zup (znew c4 100 20) t 12 (t + 1 + 1 + 1 + 1 + 1) = c5 at R5 ⊢
  have k5 : c5 t (-1) = 12 := (R5.tt (by decide)).trans k4
  rw [ze_X12_init_46, if_pos ((R5.kk ht (by omega) (by decide)).trans k4), R5.z]
  have R6 := NR_ok (kd := 100) (n := 860) (f := 13) R5.z ht (by omega)
  generalize zup (znew c5 100 860) t 13 (t + 1 + 1 + 1 + 1 + 1 + 1) = c6 at R6 ⊢
  have k6 : c6 t (-1) = 12 := (R6.tt (by decide)).trans k5
  rw [ze_X12_init_55, if_pos ((R6.kk ht (by omega) (by decide)).trans k5), R6.z]
  have R7 := NR_ok (kd := 100) (n := 860) (f := 14) R6.z ht (by omega)
  generalize zup (znew c6 100 860) t 14 (t + 1 + 1 + 1 + 1 + 1 + 1 + 1) = c7 at R7 ⊢
  have k7 : c7 t (-1) = 12 := (R7.tt (by decide)).trans k6
  rw [ze_X12_init_64, if_pos ((R7.kk ht (by omega) (by decide)).trans k6), R7.z]
  have R8 := NR_ok (kd := 100) (n := 8600) (f := 15) R7.z ht (by omega)
  generalize zup (znew c7 100 8600) t 15 (t + 1 + 1 + 1 + 1 + 1 + 1 + 1 + 1) = c8 at R8 ⊢
  have k8 : c8 t (-1) = 12 := (R8.tt (by decide)).trans k7
  rw [ze_X12_init_73, if_pos ((R8.kk ht (by omega) (by decide)).trans k7), R8.z]
  have R9 := NR_ok (kd := 100) (n := 10) (f := 16) R8.z ht (by omega)
  generalize zup (znew c8 100 10) t 16 (t + 1 + 1 + 1 + 1 + 1 + 1 + 1 + 1 + 1) = c9 at R9 ⊢
  have k9 : c9 t (-1) = 12 := (R9.tt (by decide)).trans k8
  rw [ze_X12_init_81, if_pos ((R9.kk ht (by omega) (by decide)).trans k8), R9.z]
  have R10 := NR_ok (kd := 100) (n := 10) (f := 17) R9.z ht (by omega)
  generalize zup (znew c9 100 10) t 17 (t + 1 + 1 + 1 + 1 + 1 + 1 + 1 + 1 + 1 + 1) = c10 at R10 ⊢
  have k10 : c10 t (-1) = 12 := (R10.tt (by decide)).trans k9
  rw [ze_X12_init_89, if_pos ((R10.kk ht (by omega) (by decide)).trans k9), R10.z]
  have R11 := NR_ok (kd := 100) (n := 20) (f := 18) R10.z ht (by omega)
  generalize zup (znew c10 100 20) t 18 (t + 1 + 1 + 1 + 1 + 1 + 1 + 1 + 1 + 1 + 1 + 1) = c11 at R11 ⊢
  have k11 : c11 t (-1) = 12 := (R11.tt (by decide)).trans k10
  rw [ze_X12_init_97, if_pos ((R11.kk ht (by omega) (by decide)).trans k10), R11.z]
  have R12 := NR_ok (kd := 100) (n := 20) (f := 19) R11.z ht (by omega)
  generalize zup (znew c11 100 20) t 19 (t + 1 + 1 + 1 + 1 + 1 + 1 + 1 + 1 + 1 + 1 + 1 + 1) = c12 at R12 ⊢
  have k12 : c12 t (-1) = 12 := (R12.tt (by decide)).trans k11
  rw [ze_X12_init_105, if_pos ((R12.kk ht (by omega) (by decide)).trans k11), R12.z]
  have R13 := NR_ok (kd := 100) (n := 20) (f := 20) R12.z ht (by omega)
  generalize zup (znew c12 100 20) t 20 (t + 1 + 1 + 1 + 1 + 1 + 1 + 1 + 1 + 1 + 1 + 1 + 1 + 1) = c13 at R13 ⊢
  have k13 : c13 t (-1) = 12 := (R13.tt (by decide)).trans k12
  rw [ze_X12_init_113, if_pos ((R13.kk ht (by omega) (by decide)).trans k12), R13.z]
  have R14 := NR_ok (kd := 100) (n := 20) (f := 21) R13.z ht (by omega)
  generalize zup (znew c13 100 20) t 21 (t + 1 + 1 + 1 + 1 + 1 + 1 + 1 + 1 + 1 + 1 + 1 + 1 + 1 + 1) = c14 at R14 ⊢
  have k14 : c14 t (-1) = 12 := (R14.tt (by decide)).trans k13
  rw [ze_X12_init_121, if_pos ((R14.kk ht (by omega) (by decide)).trans k13), R14.z]
  have R15 := NR_ok (kd := 100) (n := 20) (f := 23) R14.z ht (by omega)
  generalize zup (znew c14 100 20) t 23 (t + 1 + 1 + 1 + 1 + 1 + 1 + 1 + 1 + 1 + 1 + 1 + 1 + 1 + 1 + 1) = c15 at R15 ⊢
  have k15 : c15 t (-1) = 12 := (R15.tt (by decide)).trans k14
  rw [ze_X12_init_129, if_pos ((R15.kk ht (by omega) (by decide)).trans k14), R15.z]
  have R16 := NR_ok (kd := 100) (n := 20) (f := 28) R15.z ht (by omega)
  generalize zup (znew c15 100 20) t 28 (t + 1 + 1 + 1 + 1 + 1 + 1 + 1 + 1 + 1 + 1 + 1 + 1 + 1 + 1 + 1 + 1) = c16 at R16 ⊢
  have k16 : c16 t (-1) = 12 := (R16.tt (by decide)).trans k15
  have H := NRs.ok ht _ c c16 (t + 1) (by omega) h0 (NRs.cons R1 (NRs.cons R2 (NRs.cons R3 (NRs.cons R4 (NRs.cons R5 (NRs.cons R6 (NRs.cons R7 (NRs.cons R8 (NRs.cons R9 (NRs.cons R10 (NRs.cons R11 (NRs.cons R12 (NRs.cons R13 (NRs.cons R14 (NRs.cons R15 (NRs.cons R16 (NRs.nil _ _ _))))))))))))))))) (by simp [NRd])
  obtain ⟨H1, H2, H3⟩ := H
  have H1 : zng c c16 t 16 25677 := H1
  rw [ze_X12_init_137]
  exact ⟨F + 8, c16, rfl, k16, H1, H2, H3⟩
theorem I_mo (d : Nat) {c : zC} (B : Int → Int) (h0 : c 0 0 = 682) (hk : c 681 (-1) = 12) (hv : ∀ k, 0 ≤ k → c 681 k = 0) : ∃ c', zrun zTab (d + 1) 137 [681] c = some (0, c') ∧ RM c' (s0 B) ∧ (∀ b k, b ≠ 0 → b < 681 → c' b k = c b k) ∧ c' 0 0 = 698 ∧ c' 0 1 = c 0 1 + 25677 := by
  obtain ⟨F, c1, r, k1, H1, H2, H3⟩ := I_mo_r d h0 (by decide) hk
  obtain ⟨⟨⟨a1, b1⟩, z1, p1⟩, ⟨⟨⟨a2, b2⟩, z2, p2⟩, ⟨⟨⟨a3, b3⟩, z3, p3⟩, ⟨⟨⟨a4, b4⟩, z4, p4⟩, ⟨⟨⟨a5, b5⟩, z5, p5⟩, ⟨⟨⟨a6, b6⟩, z6, p6⟩, ⟨⟨⟨a7, b7⟩, z7, p7⟩, ⟨⟨⟨a8, b8⟩, z8, p8⟩, ⟨⟨⟨a9, b9⟩, z9, p9⟩, ⟨⟨⟨a10, b10⟩, z10, p10⟩, ⟨⟨⟨a11, b11⟩, z11, p11⟩, ⟨⟨⟨a12, b12⟩, z12, p12⟩, ⟨⟨⟨a13, b13⟩, z13, p13⟩, ⟨⟨⟨a14, b14⟩, z14, p14⟩, ⟨⟨⟨a15, b15⟩, z15, p15⟩, ⟨⟨⟨a16, b16⟩, z16, p16⟩, -⟩⟩⟩⟩⟩⟩⟩⟩⟩⟩⟩⟩⟩⟩⟩⟩ := H3
  have M : MO c1 := ⟨k1, ⟨p1, p2, p3, p4, p5, p6, p7, p8, p9, p10, p11, p12, p13, p14, p15, p16⟩, ⟨⟨a1, b1⟩, ⟨a2, b2⟩, ⟨a3, b3⟩, ⟨a4, b4⟩, ⟨a5, b5⟩, ⟨a6, b6⟩, ⟨a7, b7⟩, ⟨a8, b8⟩, ⟨a9, b9⟩, ⟨a10, b10⟩, ⟨a11, b11⟩, ⟨a12, b12⟩, ⟨a13, b13⟩, ⟨a14, b14⟩, ⟨a15, b15⟩, ⟨a16, b16⟩⟩⟩
  have z : ∀ k, 0 ≤ k → c1 682 k = 0 := z1
  have v : ∀ k, k = 1 ∨ k = 2 ∨ k = 4 ∨ k = 8 ∨ k = 24 → c1 681 k = 0 := fun k hk => by rcases hk with rfl | rfl | rfl | rfl | rfl <;> exact (H2 _ (by decide)).trans (hv _ (by decide))
  clear H2 hv
  have M1 : MO (zup (c1) 682 1 20) := M.ms ((MS.rf _).up (by decide) (Or.inl (by decide)))
  have M2 : MO (zup (zup (c1) 682 1 20) 682 243 20) := M1.ms ((MS.rf _).up (by decide) (Or.inl (by decide)))
  have M3 : MO (zup (zup (zup (c1) 682 1 20) 682 243 20) 682 485 20) := M2.ms ((MS.rf _).up (by decide) (Or.inl (by decide)))
  have M4 : MO (zup (zup (zup (zup (c1) 682 1 20) 682 243 20) 682 485 20) 682 727 20) := M3.ms ((MS.rf _).up (by decide) (Or.inl (by decide)))
  have M5 : MO (zup (zup (zup (zup (zup (c1) 682 1 20) 682 243 20) 682 485 20) 682 727 20) 682 1480 3) := M4.ms ((MS.rf _).up (by decide) (Or.inl (by decide)))
  rw [r, ze_X12_init_139, if_pos (by decide), if_pos M.k, M.f.1, show zadd (zmul 242 0) 1 = 1 from by decide, if_pos (M.r682 (by decide) (by decide)), show zw (0 + 1) = 1 from by decide, ze_X12_init_139, if_pos (by decide), if_pos M1.k, M1.f.1, show zadd (zmul 242 1) 1 = 243 from by decide, if_pos (M1.r682 (by decide) (by decide)), show zw (1 + 1) = 2 from by decide, ze_X12_init_139, if_pos (by decide), if_pos M2.k, M2.f.1, show zadd (zmul 242 2) 1 = 485 from by decide, if_pos (M2.r682 (by decide) (by decide)), show zw (2 + 1) = 3 from by decide, ze_X12_init_139, if_pos (by decide), if_pos M3.k, M3.f.1, show zadd (zmul 242 3) 1 = 727 from by decide, if_pos (M3.r682 (by decide) (by decide)), show zw (3 + 1) = 4 from by decide, ze_X12_init_139, if_neg (by decide), if_pos M4.k, M4.f.1, if_pos (M4.r682 (by decide) (by decide))]
  have fz : ∀ k, 0 ≤ k → k ≠ 1 → k ≠ 243 → k ≠ 485 → k ≠ 727 → k ≠ 1480 → (zup (zup (zup (zup (zup (c1) 682 1 20) 682 243 20) 682 485 20) 682 727 20) 682 1480 3) 682 k = 0 := fun k k0 e1 e2 e3 e4 e5 => by rw [zup_ne (Or.inr e5), zup_ne (Or.inr e4), zup_ne (Or.inr e3), zup_ne (Or.inr e2), zup_ne (Or.inr e1)]; exact z k k0
  have f5 : (zup (zup (zup (zup (zup (c1) 682 1 20) 682 243 20) 682 485 20) 682 727 20) 682 1480 3) 682 1480 = 3 := zup_eq ⟨rfl, rfl⟩
  have f1 : (zup (zup (zup (zup (zup (c1) 682 1 20) 682 243 20) 682 485 20) 682 727 20) 682 1480 3) 682 1 = 20 := by rw [zup_ne (Or.inr (by decide)), zup_ne (Or.inr (by decide)), zup_ne (Or.inr (by decide)), zup_ne (Or.inr (by decide)), zup_eq ⟨rfl, rfl⟩]
  have f2 : (zup (zup (zup (zup (zup (c1) 682 1 20) 682 243 20) 682 485 20) 682 727 20) 682 1480 3) 682 243 = 20 := by rw [zup_ne (Or.inr (by decide)), zup_ne (Or.inr (by decide)), zup_ne (Or.inr (by decide)), zup_eq ⟨rfl, rfl⟩]
  have f3 : (zup (zup (zup (zup (zup (c1) 682 1 20) 682 243 20) 682 485 20) 682 727 20) 682 1480 3) 682 485 = 20 := by rw [zup_ne (Or.inr (by decide)), zup_ne (Or.inr (by decide)), zup_eq ⟨rfl, rfl⟩]
  have f4 : (zup (zup (zup (zup (zup (c1) 682 1 20) 682 243 20) 682 485 20) 682 727 20) 682 1480 3) 682 727 = 20 := by rw [zup_ne (Or.inr (by decide)), zup_eq ⟨rfl, rfl⟩]
  have fo : ∀ b k, b ≠ 682 → (zup (zup (zup (zup (zup (c1) 682 1 20) 682 243 20) 682 485 20) 682 727 20) 682 1480 3) b k = c1 b k := fun b k hb => by rw [zup_ne (Or.inl hb), zup_ne (Or.inl hb), zup_ne (Or.inl hb), zup_ne (Or.inl hb), zup_ne (Or.inl hb)]
  clear M M1 M2 M3 M4
  generalize zup (zup (zup (zup (zup (c1) 682 1 20) 682 243 20) 682 485 20) 682 727 20) 682 1480 3 = w at M5 fz f1 f2 f3 f4 f5 fo ⊢
  have fp : ∀ p, isP p → w 682 (0 + 242 * p + 1) = 20 := fun p hp => by
    have p0 := hp.1
    have p1 := hp.2
    obtain rfl | rfl | rfl | rfl : p = 0 ∨ p = 1 ∨ p = 2 ∨ p = 3 := by omega
    · exact f1
    · exact f2
    · exact f3
    · exact f4
  have fq : ∀ p, isP p → w 682 (0 + 242 * p) = 0 := fun p hp => fz _ (by have := hp.1; omega) (by omega) (by have := hp.1; have := hp.2; omega) (by have := hp.1; have := hp.2; omega) (by have := hp.1; have := hp.2; omega) (by have := hp.1; have := hp.2; omega)
  have q968 : w 682 (0 + 968) = 0 := fz _ (by decide) (by decide) (by decide) (by decide) (by decide) (by decide)
  have q1023 : w 682 (0 + 1023) = 0 := fz _ (by decide) (by decide) (by decide) (by decide) (by decide) (by decide)
  have q1481 : w 682 (0 + 1481) = 0 := fz _ (by decide) (by decide) (by decide) (by decide) (by decide) (by decide)
  have fv : ∀ k, k = 1 ∨ k = 2 ∨ k = 4 ∨ k = 8 ∨ k = 24 → w 681 k = 0 := fun k hk => (fo 681 k (by decide)).trans (v k hk)
  have ok : MOK (w 682) 0 := by
    refine ⟨fun p hp => ⟨by rw [fq p hp]; decide, by rw [fp p hp]; decide, fun i i0 i1 => ?_, fun i j i0 ij j1 => ?_⟩, ⟨by rw [q968]; decide, fun r r0 r1 => ?_⟩, ⟨by rw [q1023]; decide, fun r r0 r1 => ?_⟩, ?_, by rw [q1481]; decide⟩
    · rw [fq p hp] at i1; omega
    · rw [fq p hp] at j1; omega
    · rw [q968] at r1; omega
    · rw [q1023] at r1; omega
    · rw [show (0 : Int) + 1480 = 1480 from rfl, f5]; decide
  have vw : mview (w 682) 0 = A0 := by
    unfold mview A0
    refine vcut_ext (fun p p0 p1 => ⟨fq p ⟨p0, p1⟩, fp p ⟨p0, p1⟩⟩) (fun p i p0 p1 i0 i1 i2 => ?_) q968 (fun r r0 r1 => ?_) q1023 (fun s x0 x1 => ?_) (fun s h x0 x1 y0 y1 y2 => ?_) f5 q1481
    · have i2 : i < w 682 (0 + 242 * p) := i2
      rw [fq p ⟨p0, p1⟩] at i2; omega
    · have r1 : r < w 682 (0 + 968) := r1
      rw [q968] at r1; omega
    · have x1 : s < w 682 (0 + 1023) := x1
      rw [q1023] at x1; omega
    · have x1 : s < w 682 (0 + 1023) := x1
      rw [q1023] at x1; omega
  have e1 := fv 1 (by decide)
  have e2 := fv 2 (by decide)
  have e4 := fv 4 (by decide)
  have e8 := fv 8 (by decide)
  have e24 := fv 24 (by decide)
  refine ⟨w, rfl, ⟨M5, ⟨⟨ok, vw⟩, ⟨e1, by rw [e1]; decide, fun j j0 j1 => by rw [e1] at j1; omega⟩, e2, Or.inl e2, fun x => by rw [e2] at x; exact absurd x (by decide)⟩, ⟨e4, by rw [e4]; decide, fun k k0 k1 => by rw [e4] at k1; omega, Or.inl ⟨e8, rfl⟩⟩, Or.inl ⟨e24, rfl⟩⟩, fun b k b0 bl => (fo b k (by omega)).trans (H1.2.2 b k b0 (by omega) (by omega)), (fo 0 0 (by decide)).trans (by rw [H1.1, h0]; decide), (fo 0 1 (by decide)).trans H1.2.1⟩
