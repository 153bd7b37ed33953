/-! The constructor of a Linking. -/
/-- a Linking whose Bases are made one by one -/
def KI (c0 c : zC) (K j : Int) : Prop := LLk c K 0 ∧ c K 13 = 0 ∧ (∀ i, 0 ≤ i → i < j → c (K + 1) i = K + 11 + 3 * i ∧ BShape c (K + 11 + 3 * i)) ∧ (∀ b k, b ≠ 0 → b < K → c b k = c0 b k) ∧ c 0 0 = K + 11 + 3 * j ∧ c 0 1 = c0 0 1 + 184 + 89 * j
theorem BShape.same {c c' : zC} {B : Int} (h : BShape c B) (g : ∀ b, B ≤ b → b < B + 3 → ∀ k, c' b k = c b k) : BShape c' B := by
  unfold BShape LArr at h ⊢
  rw [funext (g B (by omega) (by omega)), funext (g (B + 1) (by omega) (by omega)), funext (g (B + 2) (by omega) (by omega))]
  exact h
theorem LLk.same {c c' : zC} {K n : Int} (h : LLk c K n) (g : ∀ k, c' K k = c K k) (g2 : ∀ b k, K < b → b < K + 11 → k < 0 → c' b k = c b k) : LLk c' K n := by
  have e : ∀ i k, 1 ≤ i → i ≤ 10 → k < 0 → c' (K + i) k = c (K + i) k := fun i k i0 i1 hk => g2 _ k (by omega) (by omega) hk
  unfold LLk LArr at h ⊢
  rw [e 1 _ (by decide) (by decide) (by decide), e 1 _ (by decide) (by decide) (by decide), e 2 _ (by decide) (by decide) (by decide), e 2 _ (by decide) (by decide) (by decide), e 3 _ (by decide) (by decide) (by decide), e 3 _ (by decide) (by decide) (by decide), e 4 _ (by decide) (by decide) (by decide), e 4 _ (by decide) (by decide) (by decide), e 5 _ (by decide) (by decide) (by decide), e 5 _ (by decide) (by decide) (by decide), e 6 _ (by decide) (by decide) (by decide), e 6 _ (by decide) (by decide) (by decide), e 7 _ (by decide) (by decide) (by decide), e 7 _ (by decide) (by decide) (by decide), e 8 _ (by decide) (by decide) (by decide), e 8 _ (by decide) (by decide) (by decide), e 9 _ (by decide) (by decide) (by decide), e 9 _ (by decide) (by decide) (by decide), e 10 _ (by decide) (by decide) (by decide)]
  simp only [g]
  exact h
theorem KI.next {c0 c c3 : zC} {K j : Int} (h : KI c0 c K j) (hK : 0 < K) (h0 : 0 ≤ j) (x : NX c c3 (K + 11 + 3 * j) (K + 1) j 3 89) (hn : BShape c3 (K + 11 + 3 * j)) : KI c0 c3 K (j + 1) := by
  obtain ⟨h1, h2, g, f, z, s⟩ := h
  refine ⟨h1.same (fun k => x.1 K k (by omega) (by omega) (by omega)) (fun b k b0 b1 hk => x.1 b k (by omega) (by omega) (by omega)), (x.1 K _ (by omega) (by omega) (by omega)).trans h2, fun i i0 i1 => ?_, fun b k b0 bl => (x.1 b k b0 (by omega) (by omega)).trans (f b k b0 bl), by rw [x.2.2.1]; omega, by rw [x.2.2.2, s]; omega⟩
  by_cases q : i = j
  · subst q; exact ⟨x.2.1, hn⟩
  · have g := g i i0 (by omega)
    exact ⟨(x.1 _ _ (by omega) (by omega) (Or.inr q)).trans g.1, g.2.same (fun b b0 b1 k => x.1 b k (by omega) (by omega) (by omega))⟩
theorem I_lk_l (d : Nat) {c0 : zC} {K : Int} (hK : 0 < K) : ∀ (t F j : Nat) (c : zC), t ≤ F → j + t = 20 → KI c0 c K j → ∃ c', zex zc_X3_init zk_X3_init (zrun zTab (d + 1)) (F + 1) 90 [(2, K), (0, (j : Int))] [] c = some (0, c') ∧ KI c0 c' K 20 := by
  intro t
  induction t with
  | zero =>
    intro F j c hF hj h
    obtain rfl : j = 20 := by omega
    obtain ⟨⟨k0, k1, ⟨q0, -⟩, ⟨⟨a1, b1⟩, -⟩, -⟩, -⟩ := id h
    exact ⟨c, by rw [ze_X3_init_90, if_pos k1, q0, if_pos a1, b1, if_neg (by omega)], h⟩
  | succ t ih =>
    intro F j c hF hj h
    obtain ⟨F, rfl⟩ : ∃ G, F = G + 1 := ⟨F - 1, by omega⟩
    obtain ⟨⟨k0, k1, ⟨q0, -⟩, ⟨⟨a1, b1⟩, -⟩, -⟩, -, -, -, z, -⟩ := id h
    obtain ⟨c2, r2, g2, n2⟩ := I_bases d (c := znew c 1 3) (t := K + 11 + 3 * (j : Int)) (by rw [znw_0 (by omega), z]) (by omega) (znw_k z)
    have g := g2.mk z (by omega)
    obtain ⟨x, y⟩ := NX_ok (R := K + 1) (j := (j : Int)) z g (by omega) (by omega)
    rw [ze_X3_init_90, if_pos k1, q0, if_pos a1, b1, if_pos (by omega), if_pos k1, if_pos (znw_k rfl), z, r2, zbnd_some, if_pos (by rw [g.2.2 _ _ (by omega) (by omega) (by omega), g.2.2 _ _ (by omega) (by omega) (by omega)]; exact ⟨a1, by omega, by omega⟩), if_pos n2.1, zw_id' (by omega) (by omega), show (j : Int) + 1 = ((j + 1 : Nat) : Int) by omega]
    refine ih F (j + 1) _ (by omega) (by omega) ?_
    rw [show ((j + 1 : Nat) : Int) = (j : Int) + 1 by omega]
    exact h.next hK (by omega) x (n2.same (fun b b0 b1 k => y b b0 k))
theorem I_link (d : Nat) {c : zC} {t : Int} (h0 : c 0 0 = t + 1) (ht : 0 < t) (hk : c t (-1) = 4) (h10 : c t 10 = 0) (h13 : c t 13 = 0) : ∃ c', zrun zTab (d + 2) 14 [t] c = some (0, c') ∧ zng c c' t 70 1964 ∧ LLk c' t 0 ∧ LLb c' t ∧ c' t 13 = 0 := by
  obtain ⟨F, hF⟩ : ∃ F, 19999 = F + 30 := ⟨19969, rfl⟩
  have j2 : t + 1 + 1 = t + 2 := by omega
  have j3 : t + 1 + 1 + 1 = t + 3 := by omega
  have j4 : t + 1 + 1 + 1 + 1 = t + 4 := by omega
  have j5 : t + 1 + 1 + 1 + 1 + 1 = t + 5 := by omega
  have j6 : t + 1 + 1 + 1 + 1 + 1 + 1 = t + 6 := by omega
  have j7 : t + 1 + 1 + 1 + 1 + 1 + 1 + 1 = t + 7 := by omega
  have j8 : t + 1 + 1 + 1 + 1 + 1 + 1 + 1 + 1 = t + 8 := by omega
  have j9 : t + 1 + 1 + 1 + 1 + 1 + 1 + 1 + 1 + 1 = t + 9 := by omega
  rw [ze_X3_init, if_neg (by omega), if_pos (by rw [znw_o (by omega) (by omega)]; exact hk), h0, hF]
  have R1 := NR_ok (kd := 110) (n := 20) (f := 0) h0 ht (by omega)
  generalize zup (znew c 110 20) t 0 (t + 1) = c1 at R1 ⊢
  have k1 : c1 t (-1) = 4 := (R1.tt (by decide)).trans hk
  rw [ze_X3_init_13, if_pos ((R1.kk ht (by omega) (by decide)).trans hk), R1.z]
  have R2 := NR_ok (kd := 100) (n := 20) (f := 1) R1.z ht (by omega)
  generalize zup (znew c1 100 20) t 1 (t + 1 + 1) = c2 at R2 ⊢
  have k2 : c2 t (-1) = 4 := (R2.tt (by decide)).trans k1
  rw [ze_X3_init_21, if_pos ((R2.kk ht (by omega) (by decide)).trans k1), R2.z]
  have R3 := NR_ok (kd := 101) (n := 20) (f := 2) R2.z ht (by omega)
  generalize zup (znew c2 101 20) t 2 (t + 1 + 1 + 1) = c3 at R3 ⊢
  have k3 : c3 t (-1) = 4 := (R3.tt (by decide)).trans k2
  rw [ze_X3_init_29, if_pos ((R3.kk ht (by omega) (by decide)).trans k2), R3.z]
  have R4 := NR_ok (kd := 100) (n := 20) (f := 3) R3.z ht (by omega)
  generalize zup (znew c3 100 20) t 3 (t + 1 + 1 + 1 + 1) = c4 at R4 ⊢
  have k4 : c4 t (-1) = 4 := (R4.tt (by decide)).trans k3
  rw [ze_X3_init_37, if_pos ((R4.kk ht (by omega) (by decide)).trans k3), R4.z]
  have R5 := NR_ok (kd := 100) (n := 20) (f := 4) R4.z ht (by omega)
  generalize zup (znew c4 100 20) t 4 (t + 1 + 1 + 1 + 1 + 1) = c5 at R5 ⊢
  have k5 : c5 t (-1) = 4 := (R5.tt (by decide)).trans k4
  rw [ze_X3_init_45, if_pos ((R5.kk ht (by omega) (by decide)).trans k4), R5.z]
  have R6 := NR_ok (kd := 100) (n := 20) (f := 5) R5.z ht (by omega)
  generalize zup (znew c5 100 20) t 5 (t + 1 + 1 + 1 + 1 + 1 + 1) = c6 at R6 ⊢
  have k6 : c6 t (-1) = 4 := (R6.tt (by decide)).trans k5
  rw [ze_X3_init_53, if_pos ((R6.kk ht (by omega) (by decide)).trans k5), R6.z]
  have R7 := NR_ok (kd := 102) (n := 20) (f := 6) R6.z ht (by omega)
  generalize zup (znew c6 102 20) t 6 (t + 1 + 1 + 1 + 1 + 1 + 1 + 1) = c7 at R7 ⊢
  have k7 : c7 t (-1) = 4 := (R7.tt (by decide)).trans k6
  rw [ze_X3_init_61, if_pos ((R7.kk ht (by omega) (by decide)).trans k6), R7.z]
  have R8 := NR_ok (kd := 100) (n := 20) (f := 7) R7.z ht (by omega)
  generalize zup (znew c7 100 20) t 7 (t + 1 + 1 + 1 + 1 + 1 + 1 + 1 + 1) = c8 at R8 ⊢
  have k8 : c8 t (-1) = 4 := (R8.tt (by decide)).trans k7
  rw [ze_X3_init_69, if_pos ((R8.kk ht (by omega) (by decide)).trans k7), R8.z]
  have R9 := NR_ok (kd := 100) (n := 20) (f := 8) R8.z ht (by omega)
  generalize zup (znew c8 100 20) t 8 (t + 1 + 1 + 1 + 1 + 1 + 1 + 1 + 1 + 1) = c9 at R9 ⊢
  have k9 : c9 t (-1) = 4 := (R9.tt (by decide)).trans k8
  have H := NRs.ok ht _ c c9 (t + 1) (by omega) h0 (NRs.cons R1 (NRs.cons R2 (NRs.cons R3 (NRs.cons R4 (NRs.cons R5 (NRs.cons R6 (NRs.cons R7 (NRs.cons R8 (NRs.cons R9 (NRs.nil _ _ _)))))))))) (by simp [NRd])
  obtain ⟨H1, H2, H3⟩ := H
  have H1 : zng c c9 t 9 180 := H1
  have v10 : c9 t 10 = 0 := (H2 10 (by simp)).trans h10
  have v13 : c9 t 13 = 0 := (H2 13 (by simp)).trans h13
  clear H2 R1 R2 R3 R4 R5 R6 R7 R8 R9
  have z9 : c9 0 0 = t + 10 := by rw [H1.1, h0]; omega
  have o : ∀ b k, b ≠ 0 → b < t + 10 → (znew c9 6 4) b k = c9 b k := fun b k b0 bl => znw_o (by omega) b0
  rw [ze_X3_init_77, if_pos (znw_k rfl), z9, I_pass d (by omega), zbnd_some, if_pos (by rw [o _ _ (by omega) (by omega)]; exact k9), ze_X3_init_88]
  have E : ∀ b k, b ≠ 0 → b < t + 10 → b ≠ t → (zup (znew c9 6 4) t 9 (t + 10)) b k = c9 b k := fun b k b0 bl hb => by rw [zup_ne (Or.inl hb), o b k b0 bl]
  have Et : ∀ k, k ≠ 9 → (zup (znew c9 6 4) t 9 (t + 10)) t k = c9 t k := fun k hk => by rw [zup_ne (Or.inr hk), o t k (by omega) (by omega)]
  have e9 : (zup (znew c9 6 4) t 9 (t + 10)) t 9 = t + 10 := zup_eq ⟨rfl, rfl⟩
  have e10 : (zup (znew c9 6 4) t 9 (t + 10)) (t + 10) (-1) = 6 := by rw [zup_ne (by omega)]; exact znw_k z9
  have z : (zup (znew c9 6 4) t 9 (t + 10)) 0 0 = t + 11 := by rw [zup_ne (by omega), znw_0 (by omega), z9]; omega
  have s : (zup (znew c9 6 4) t 9 (t + 10)) 0 1 = c 0 1 + 184 := by rw [zup_ne (by omega), znw_1 (by omega), H1.2.1]; omega
  generalize zup (znew c9 6 4) t 9 (t + 10) = cx at E Et e9 e10 z s ⊢
  have fr : ∀ b k, b ≠ 0 → b < t → cx b k = c b k := fun b k b0 bl => (E b k b0 (by omega) (by omega)).trans (H1.2.2 b k b0 (by omega) (by omega))
  have H4 := NRa.same (c' := cx) _ (t + 1) (fun b k b0 b1 => E b k (by omega) (by have b1 : b < t + 1 + 9 := b1; omega) (by omega)) (fun q hq => by simp at hq; rcases hq with rfl | rfl | rfl | rfl | rfl | rfl | rfl | rfl | rfl <;> exact Et _ (by decide)) H3
  have kx := (Et (-1) (by decide)).trans k9
  have x10 := (Et 10 (by decide)).trans v10
  have x13 := (Et 13 (by decide)).trans v13
  clear H1 H3 E Et k1 k2 k3 k4 k5 k6 k7 k8 k9
  have I0 : KI c cx t 0 := by
    obtain ⟨⟨⟨a1, b1⟩, z1, p1⟩, ⟨⟨⟨a2, b2⟩, z2, p2⟩, ⟨⟨⟨a3, b3⟩, z3, p3⟩, ⟨⟨⟨a4, b4⟩, z4, p4⟩, ⟨⟨⟨a5, b5⟩, z5, p5⟩, ⟨⟨⟨a6, b6⟩, z6, p6⟩, ⟨⟨⟨a7, b7⟩, z7, p7⟩, ⟨⟨⟨a8, b8⟩, z8, p8⟩, ⟨⟨⟨a9, b9⟩, z9, p9⟩, -⟩⟩⟩⟩⟩⟩⟩⟩⟩ := H4
    rw [j2] at a2 b2 p2
    rw [j3] at a3 b3 p3
    rw [j4] at a4 b4 p4
    rw [j5] at a5 b5 p5
    rw [j6] at a6 b6 p6
    rw [j7] at a7 b7 p7
    rw [j8] at a8 b8 p8
    rw [j9] at a9 b9 p9
    exact ⟨⟨ht, kx, ⟨p1, p2, p3, p4, p5, p6, p7, p8, p9, e9⟩, ⟨⟨a1, b1⟩, ⟨a2, b2⟩, ⟨a3, b3⟩, ⟨a4, b4⟩, ⟨a5, b5⟩, ⟨a6, b6⟩, ⟨a7, b7⟩, ⟨a8, b8⟩, ⟨a9, b9⟩, e10⟩, x10, by decide, by decide⟩, x13, fun q q0 q1 => absurd q1 (Int.not_lt.mpr q0), fr, z.trans (by omega), s.trans (by omega)⟩
  obtain ⟨c5, r5, i5⟩ := I_lk_l d ht 20 (F + 19) 0 cx (by omega) (by omega) I0
  clear I0 H4 fr
  exact ⟨c5, r5, ⟨by rw [i5.2.2.2.2.1, h0]; omega, by rw [i5.2.2.2.2.2]; omega, fun b k b0 bt bl => i5.2.2.2.1 b k b0 (by omega)⟩, i5.1, i5.2.2.1, i5.2.1⟩
