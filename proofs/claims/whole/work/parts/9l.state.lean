/-! The constructors of a state, of the history, of a Linking. -/
theorem NRa.same {c c' : zC} {t : Int} : ∀ (l : List (Int × Int × Int)) (a : Int), (∀ b k, a ≤ b → b < a + NRn l → c' b k = c b k) → (∀ q ∈ l, c' t q.1 = c t q.1) → NRa c t l a → NRa c' t l a
  | [], _, _, _, _ => trivial
  | q :: l, a, g, e, h => by
    have hn := NRn_0 l
    have ga : ∀ k, c' a k = c a k := fun k => g a k (Int.le_refl a) (by show a < a + (NRn l + 1); omega)
    exact ⟨⟨⟨(ga _).trans h.1.1.1, (ga _).trans h.1.1.2⟩, fun k hk => (ga k).trans (h.1.2.1 k hk), (e q List.mem_cons_self).trans h.1.2.2⟩, NRa.same l (a + 1) (fun b k b0 b1 => g b k (by omega) (by show b < a + (NRn l + 1); omega)) (fun r hr => e r (List.mem_cons_of_mem _ hr)) h.2⟩
/-- a part is made and hung into cell R at place j -/
def NX (c c3 : zC) (a R j n m : Int) : Prop := (∀ b k, b ≠ 0 → b < a → (b ≠ R ∨ k ≠ j) → c3 b k = c b k) ∧ c3 R j = a ∧ c3 0 0 = a + n ∧ c3 0 1 = c 0 1 + m
theorem NX_ok {c c2 : zC} {a R j n m : Int} (h0 : c 0 0 = a) (h : zng c c2 a n m) (hR : R ≠ 0) (hR2 : R < a) : NX c (zup c2 R j a) a R j n m ∧ ∀ b, a ≤ b → ∀ k, (zup c2 R j a) b k = c2 b k := by
  refine ⟨⟨fun b k b0 bl hb => ?_, zup_eq ⟨rfl, rfl⟩, ?_, ?_⟩, fun b hb k => zup_ne (by omega)⟩
  · rw [zup_ne hb]; exact h.2.2 b k b0 (by omega) (by omega)
  · rw [zup_ne (Or.inl (Ne.symm hR)), h.1, h0]
  · rw [zup_ne (Or.inl (Ne.symm hR)), h.2.1]
theorem zng.mk {c c2 : zC} {a kd s n m : Int} (h0 : c 0 0 = a) (ha : 0 < a) (h : zng (znew c kd s) c2 a n m) : zng c c2 a (1 + n) (s + m) := (((zng.rf c a).new (kd := kd) (s := s) (by omega) (by decide)).tr h (Or.inl rfl) (by decide)).num (by omega) (by omega)
def NT (c : zC) (S : Int) : Prop := LState c S ∧ c S 3 = 0 ∧ c S 4 = 0 ∧ c S 5 = 3 ∧ c S 6 = 0 ∧ ∀ p, 0 ≤ p → p < 4 → c (S + 4 + 3 * p) 2 = 0 ∧ c (S + 4 + 3 * p) 3 = 20
theorem NT.same {c c' : zC} {S : Int} (h : NT c S) (g : ∀ b, S ≤ b → b < S + 38 → ∀ k, c' b k = c b k) : NT c' S := by
  obtain ⟨h1, h2, h3, h4, h5, h6⟩ := h
  refine ⟨h1.same g, by rw [g S (by omega) (by omega)]; exact h2, by rw [g S (by omega) (by omega)]; exact h3, by rw [g S (by omega) (by omega)]; exact h4, by rw [g S (by omega) (by omega)]; exact h5, fun p p0 p1 => ?_⟩
  rw [g _ (by omega) (by omega), g _ (by omega) (by omega)]
  exact h6 p p0 p1
/-- a state whose parts are made one by one: p pages, s senses, r rules -/
def SB (c0 c : zC) (S : Int) : Prop := (c S (-1) = 9 ∧ c S 0 = S + 1 ∧ c S 1 = S + 2 ∧ c S 2 = S + 3) ∧ (LArr c (S + 1) 114 4 ∧ LArr c (S + 2) 117 8 ∧ LArr c (S + 3) 116 6) ∧ (c S 3 = 0 ∧ c S 4 = 0 ∧ c S 5 = 3 ∧ c S 6 = 0) ∧ ∀ b k, b ≠ 0 → b < S → c b k = c0 b k
def SI (c0 c : zC) (S p s r : Int) : Prop := SB c0 c S ∧ (∀ q, 0 ≤ q → q < p → c (S + 1) q = S + 4 + 3 * q ∧ NP c (S + 4 + 3 * q)) ∧ (∀ j, 0 ≤ j → j < s → c (S + 2) j = S + 16 + 2 * j ∧ NS c (S + 16 + 2 * j)) ∧ (∀ j, 0 ≤ j → j < r → c (S + 3) j = S + 32 + j ∧ c (S + 32 + j) (-1) = 7) ∧
  c 0 0 = S + 4 + 3 * p + 2 * s + r ∧ c 0 1 = c0 0 1 + 18 + 44 * p + 8 * s + 4 * r
section
variable {c0 c c3 : zC} {S p s r : Int}
theorem SB.nx {a i j n m : Int} (h : SB c0 c S) (hS : 0 < S) (ha : S + 4 ≤ a) (x : NX c c3 a (S + i) j n m) (hi : 1 ≤ i ∧ i ≤ 3) (hj : 0 ≤ j) : SB c0 c3 S := by
  obtain ⟨⟨h1, h2, h3, h4⟩, ⟨⟨a1, b1⟩, ⟨a2, b2⟩, ⟨a3, b3⟩⟩, ⟨v1, v2, v3, v4⟩, f⟩ := h
  have e : ∀ k, c3 S k = c S k := fun k => x.1 S k (by omega) (by omega) (by omega)
  have e2 : ∀ q k, 1 ≤ q → q ≤ 3 → k < 0 → c3 (S + q) k = c (S + q) k := fun q k q0 q1 hk => x.1 _ k (by omega) (by omega) (by omega)
  refine ⟨⟨(e _).trans h1, (e _).trans h2, (e _).trans h3, (e _).trans h4⟩, ⟨⟨?_, ?_⟩, ⟨?_, ?_⟩, ⟨?_, ?_⟩⟩, ⟨(e _).trans v1, (e _).trans v2, (e _).trans v3, (e _).trans v4⟩, fun b k b0 bl => (x.1 b k b0 (by omega) (by omega)).trans (f b k b0 bl)⟩
  · exact (e2 1 _ (by decide) (by decide) (by decide)).trans a1
  · exact (e2 1 _ (by decide) (by decide) (by decide)).trans b1
  · exact (e2 2 _ (by decide) (by decide) (by decide)).trans a2
  · exact (e2 2 _ (by decide) (by decide) (by decide)).trans b2
  · exact (e2 3 _ (by decide) (by decide) (by decide)).trans a3
  · exact (e2 3 _ (by decide) (by decide) (by decide)).trans b3
theorem SI.page (h : SI c0 c S p 0 0) (hS : 0 < S) (h0 : 0 ≤ p) (x : NX c c3 (S + 4 + 3 * p) (S + 1) p 3 44) (hn : NP c3 (S + 4 + 3 * p)) : SI c0 c3 S (p + 1) 0 0 := by
  obtain ⟨b, g1, -, -, z, s⟩ := h
  refine ⟨b.nx hS (by omega) x (by decide) h0, fun q q0 q1 => ?_, fun j j0 j1 => by omega, fun j j0 j1 => by omega, by rw [x.2.2.1]; omega, by rw [x.2.2.2, s]; omega⟩
  by_cases e : q = p
  · subst e; exact ⟨x.2.1, hn⟩
  · have g := g1 q q0 (by omega)
    exact ⟨(x.1 _ _ (by omega) (by omega) (Or.inr e)).trans g.1, g.2.same (fun b b0 b1 k => x.1 b k (by omega) (by omega) (by omega))⟩
theorem SI.sense (h : SI c0 c S 4 s 0) (hS : 0 < S) (h0 : 0 ≤ s) (x : NX c c3 (S + 16 + 2 * s) (S + 2) s 2 8) (hn : NS c3 (S + 16 + 2 * s)) : SI c0 c3 S 4 (s + 1) 0 := by
  obtain ⟨b, g1, g2, -, z, w⟩ := h
  refine ⟨b.nx hS (by omega) x (by decide) h0, fun q q0 q1 => ?_, fun j j0 j1 => ?_, fun j j0 j1 => by omega, by rw [x.2.2.1]; omega, by rw [x.2.2.2, w]; omega⟩
  · have g := g1 q q0 q1
    exact ⟨(x.1 _ _ (by omega) (by omega) (by omega)).trans g.1, g.2.same (fun b b0 b1 k => x.1 b k (by omega) (by omega) (by omega))⟩
  · by_cases e : j = s
    · subst e; exact ⟨x.2.1, hn⟩
    · have g := g2 j j0 (by omega)
      exact ⟨(x.1 _ _ (by omega) (by omega) (Or.inr e)).trans g.1, g.2.same (fun b b0 b1 k => x.1 b k (by omega) (by omega) (by omega))⟩
theorem SI.rule (h : SI c0 c S 4 8 r) (hS : 0 < S) (h0 : 0 ≤ r) (x : NX c c3 (S + 32 + r) (S + 3) r 1 4) (hn : c3 (S + 32 + r) (-1) = 7) : SI c0 c3 S 4 8 (r + 1) := by
  obtain ⟨b, g1, g2, g3, z, w⟩ := h
  refine ⟨b.nx hS (by omega) x (by decide) h0, fun q q0 q1 => ?_, fun j j0 j1 => ?_, fun j j0 j1 => ?_, by rw [x.2.2.1]; omega, by rw [x.2.2.2, w]; omega⟩
  · have g := g1 q q0 q1
    exact ⟨(x.1 _ _ (by omega) (by omega) (by omega)).trans g.1, g.2.same (fun b b0 b1 k => x.1 b k (by omega) (by omega) (by omega))⟩
  · have g := g2 j j0 j1
    exact ⟨(x.1 _ _ (by omega) (by omega) (by omega)).trans g.1, g.2.same (fun b b0 b1 k => x.1 b k (by omega) (by omega) (by omega))⟩
  · by_cases e : j = r
    · subst e; exact ⟨x.2.1, hn⟩
    · have g := g3 j j0 (by omega)
      exact ⟨(x.1 _ _ (by omega) (by omega) (Or.inr e)).trans g.1, (x.1 _ _ (by omega) (by omega) (by omega)).trans g.2⟩
theorem SI.ok (h : SI c0 c S 4 8 6) (hS : 0 < S) : NT c S := by
  obtain ⟨⟨⟨h1, h2, h3, h4⟩, ⟨a1, a2, a3⟩, ⟨v1, v2, v3, v4⟩, -⟩, g1, g2, g3, -, -⟩ := h
  refine ⟨⟨hS, h1, h2, h3, h4, a1, a2, a3, fun p p0 p1 => ⟨(g1 p p0 p1).1, (g1 p p0 p1).2.1⟩, fun j j0 j1 => ?_, fun i j i0 ij j1 => ?_, fun j j0 j1 => ?_, fun i j i0 ij j1 => ?_, by omega, by omega, by omega, by omega⟩, v1, v2, v3, v4, fun p p0 p1 => (g1 p p0 p1).2.2⟩
  · have g := g2 j j0 j1
    rw [g.1]
    exact ⟨⟨by omega, by omega, by omega⟩, g.2.1⟩
  · rw [(g2 i i0 (by omega)).1, (g2 j (by omega) j1).1]; omega
  · have g := g3 j j0 j1
    rw [g.1]
    exact ⟨⟨by omega, by omega⟩, g.2⟩
  · rw [(g3 i i0 (by omega)).1, (g3 j (by omega) j1).1]; omega
end
section
variable {c0 : zC} {S : Int} (d : Nat)
theorem I_st_r (hS : 0 < S) : ∀ (t F j : Nat) (c : zC), t ≤ F → j + t = 6 → SI c0 c S 4 8 j → ∃ c', zex zc_X8_init zk_X8_init (zrun zTab (d + 1)) (F + 1) 102 [(2, S), (0, (j : Int))] [] c = some (0, c') ∧ SI c0 c' S 4 8 6 := by
  intro t
  induction t with
  | zero =>
    intro F j c hF hj h
    obtain rfl : j = 6 := by omega
    obtain ⟨⟨⟨h1, h2, h3, h4⟩, ⟨-, -, ⟨a3, b3⟩⟩, -, -⟩, -⟩ := id h
    exact ⟨c, by rw [ze_X8_init_102, if_pos h1, h4, if_pos a3, b3, if_neg (by omega)], h⟩
  | succ t ih =>
    intro F j c hF hj h
    obtain ⟨F, rfl⟩ : ∃ G, F = G + 1 := ⟨F - 1, by omega⟩
    obtain ⟨⟨⟨h1, h2, h3, h4⟩, ⟨-, -, ⟨a3, b3⟩⟩, -, -⟩, -, -, -, z, -⟩ := id h
    have z : c 0 0 = S + 32 + (j : Int) := by omega
    have g := (((zng.rf (znew c 7 4) (S + 32 + (j : Int))).mk z (by omega)))
    obtain ⟨x, y⟩ := NX_ok (R := S + 3) (j := (j : Int)) z g (by omega) (by omega)
    rw [ze_X8_init_102, if_pos h1, h4, if_pos a3, b3, if_pos (by omega), if_pos h1, if_pos (znw_k rfl), z, I_rule d (by omega), zbnd_some, if_pos (by rw [znw_o (by omega) (by omega), znw_o (by omega) (by omega)]; exact ⟨a3, by omega, by omega⟩), if_pos (znw_k z), zw_id' (by omega) (by omega), show (j : Int) + 1 = ((j + 1 : Nat) : Int) by omega]
    refine ih F (j + 1) _ (by omega) (by omega) ?_
    rw [show ((j + 1 : Nat) : Int) = (j : Int) + 1 by omega]
    exact h.rule hS (by omega) x (by rw [y _ (by omega)]; exact znw_k z)
theorem I_st_s (hS : 0 < S) : ∀ (t F j : Nat) (c : zC), t + 10 ≤ F → j + t = 8 → SI c0 c S 4 j 0 → ∃ c', zex zc_X8_init zk_X8_init (zrun zTab (d + 1)) (F + 1) 72 [(2, S), (0, (j : Int))] [] c = some (0, c') ∧ SI c0 c' S 4 8 6 := by
  intro t
  induction t with
  | zero =>
    intro F j c hF hj h
    obtain rfl : j = 8 := by omega
    obtain ⟨F, rfl⟩ : ∃ G, F = G + 1 := ⟨F - 1, by omega⟩
    obtain ⟨⟨⟨h1, h2, h3, h4⟩, ⟨-, ⟨a2, b2⟩, -⟩, -, -⟩, -⟩ := id h
    rw [ze_X8_init_72, if_pos h1, h3, if_pos a2, b2, if_neg (by omega)]
    exact I_st_r d hS 6 F 0 c (by omega) (by omega) h
  | succ t ih =>
    intro F j c hF hj h
    obtain ⟨F, rfl⟩ : ∃ G, F = G + 1 := ⟨F - 1, by omega⟩
    obtain ⟨⟨⟨h1, h2, h3, h4⟩, ⟨-, ⟨a2, b2⟩, -⟩, -, -⟩, -, -, -, z, -⟩ := id h
    have z : c 0 0 = S + 16 + 2 * (j : Int) := by omega
    obtain ⟨c2, r2, g2, n2⟩ := I_sense d (c := znew c 8 4) (t := S + 16 + 2 * (j : Int)) (by rw [znw_0 (by omega), z]) (by omega) (znw_k z) (znw_v z (by decide))
    have g := g2.mk z (by omega)
    obtain ⟨x, y⟩ := NX_ok (R := S + 2) (j := (j : Int)) z g (by omega) (by omega)
    rw [ze_X8_init_72, if_pos h1, h3, if_pos a2, b2, if_pos (by omega), if_pos h1, if_pos (znw_k rfl), z, r2, zbnd_some, if_pos (by rw [g.2.2 _ _ (by omega) (by omega) (by omega), g.2.2 _ _ (by omega) (by omega) (by omega)]; exact ⟨a2, by omega, by omega⟩), if_pos n2.1.1, zw_id' (by omega) (by omega), show (j : Int) + 1 = ((j + 1 : Nat) : Int) by omega]
    refine ih F (j + 1) _ (by omega) (by omega) ?_
    rw [show ((j + 1 : Nat) : Int) = (j : Int) + 1 by omega]
    exact h.sense hS (by omega) x (n2.same (fun b b0 b1 k => y b b0 k))
theorem I_st_p (hS : 0 < S) : ∀ (t F j : Nat) (c : zC), t + 30 ≤ F → j + t = 4 → SI c0 c S j 0 0 → ∃ c', zex zc_X8_init zk_X8_init (zrun zTab (d + 1)) (F + 1) 42 [(2, S), (0, (j : Int))] [] c = some (0, c') ∧ SI c0 c' S 4 8 6 := by
  intro t
  induction t with
  | zero =>
    intro F j c hF hj h
    obtain rfl : j = 4 := by omega
    obtain ⟨F, rfl⟩ : ∃ G, F = G + 1 := ⟨F - 1, by omega⟩
    obtain ⟨⟨⟨h1, h2, h3, h4⟩, ⟨⟨a1, b1⟩, -, -⟩, -, -⟩, -⟩ := id h
    rw [ze_X8_init_42, if_pos h1, h2, if_pos a1, b1, if_neg (by omega)]
    exact I_st_s d hS 8 F 0 c (by omega) (by omega) h
  | succ t ih =>
    intro F j c hF hj h
    obtain ⟨F, rfl⟩ : ∃ G, F = G + 1 := ⟨F - 1, by omega⟩
    obtain ⟨⟨⟨h1, h2, h3, h4⟩, ⟨⟨a1, b1⟩, -, -⟩, -, -⟩, -, -, -, z, -⟩ := id h
    have z : c 0 0 = S + 4 + 3 * (j : Int) := by omega
    obtain ⟨c2, r2, g2, n2⟩ := I_page d (c := znew c 5 4) (t := S + 4 + 3 * (j : Int)) (by rw [znw_0 (by omega), z]) (by omega) (znw_k z) (znw_v z (by decide))
    have g := g2.mk z (by omega)
    obtain ⟨x, y⟩ := NX_ok (R := S + 1) (j := (j : Int)) z g (by omega) (by omega)
    rw [ze_X8_init_42, if_pos h1, h2, if_pos a1, b1, if_pos (by omega), if_pos h1, if_pos (znw_k rfl), z, r2, zbnd_some, if_pos (by rw [g.2.2 _ _ (by omega) (by omega) (by omega), g.2.2 _ _ (by omega) (by omega) (by omega)]; exact ⟨a1, by omega, by omega⟩), if_pos n2.1.1, zw_id' (by omega) (by omega), show (j : Int) + 1 = ((j + 1 : Nat) : Int) by omega]
    refine ih F (j + 1) _ (by omega) (by omega) ?_
    rw [show ((j + 1 : Nat) : Int) = (j : Int) + 1 by omega]
    exact h.page hS (by omega) x (n2.same (fun b b0 b1 k => y b b0 k))
end
theorem I_state (d : Nat) {c : zC} {t : Int} (h0 : c 0 0 = t + 1) (ht : 0 < t) (hk : c t (-1) = 9) (hv3 : c t 3 = 0) (hv4 : c t 4 = 0) : ∃ c', zrun zTab (d + 2) 66 [t] c = some (0, c') ∧ zng c c' t 37 282 ∧ NT c' t := by
  obtain ⟨F, hF⟩ : ∃ F, 19999 = F + 30 := ⟨19969, rfl⟩
  have j2 : t + 1 + 1 = t + 2 := by omega
  have j3 : t + 1 + 1 + 1 = t + 3 := by omega
  rw [ze_X8_init, if_neg (by omega), if_pos (by rw [znw_o (by omega) (by omega)]; exact hk), h0, hF]
  have R1 := NR_ok (kd := 114) (n := 4) (f := 0) h0 ht (by omega)
  generalize zup (znew c 114 4) t 0 (t + 1) = c1 at R1 ⊢
  have k1 : c1 t (-1) = 9 := (R1.tt (by decide)).trans hk
  rw [ze_X8_init_12, if_pos ((R1.kk ht (by omega) (by decide)).trans hk), R1.z]
  have R2 := NR_ok (kd := 117) (n := 8) (f := 1) R1.z ht (by omega)
  generalize zup (znew c1 117 8) t 1 (t + 1 + 1) = c2 at R2 ⊢
  have k2 : c2 t (-1) = 9 := (R2.tt (by decide)).trans k1
  rw [ze_X8_init_21, if_pos ((R2.kk ht (by omega) (by decide)).trans k1), R2.z]
  have R3 := NR_ok (kd := 116) (n := 6) (f := 2) R2.z ht (by omega)
  generalize zup (znew c2 116 6) t 2 (t + 1 + 1 + 1) = c3 at R3 ⊢
  have k3 : c3 t (-1) = 9 := (R3.tt (by decide)).trans k2
  have H := NRs.ok ht _ c c3 (t + 1) (by omega) h0 (NRs.cons R1 (NRs.cons R2 (NRs.cons R3 (NRs.nil _ _ _)))) (by simp [NRd])
  obtain ⟨H1, H2, H3⟩ := H
  have H1 : zng c c3 t 3 18 := H1
  have v3 : c3 t 3 = 0 := (H2 3 (by simp)).trans hv3
  have v4 : c3 t 4 = 0 := (H2 4 (by simp)).trans hv4
  clear H2 R1 R2 R3
  have q5 : (zup c3 t 5 3) t (-1) = 9 := (zup_ne (Or.inr (by decide))).trans k3
  rw [ze_X8_init_30, if_pos k3, ze_X8_init_35, if_pos q5, ze_X8_init_40]
  have G : zng c (zup (zup c3 t 5 3) t 6 0) t 3 18 := (H1.up (by omega) (Or.inl rfl)).up (by omega) (Or.inl rfl)
  have e : ∀ b k, b ≠ t → (zup (zup c3 t 5 3) t 6 0) b k = c3 b k := fun b k hb => by rw [zup_ne (Or.inl hb), zup_ne (Or.inl hb)]
  have et : ∀ k, k ≠ 5 → k ≠ 6 → (zup (zup c3 t 5 3) t 6 0) t k = c3 t k := fun k h5 h6 => by rw [zup_ne (Or.inr h6), zup_ne (Or.inr h5)]
  have f5 : (zup (zup c3 t 5 3) t 6 0) t 5 = 3 := by rw [zup_ne (Or.inr (by decide)), zup_eq ⟨rfl, rfl⟩]
  have f6 : (zup (zup c3 t 5 3) t 6 0) t 6 = 0 := zup_eq ⟨rfl, rfl⟩
  generalize zup (zup c3 t 5 3) t 6 0 = c4 at G e et f5 f6 ⊢
  have H4 := NRa.same (c' := c4) _ (t + 1) (fun b k b0 b1 => e b k (by omega)) (fun q hq => by simp at hq; rcases hq with rfl | rfl | rfl <;> exact et _ (by decide) (by decide)) H3
  have z4 : c4 0 0 = t + 4 := by rw [G.1, h0]; omega
  have I0 : SI c c4 t 0 0 0 := by
    obtain ⟨⟨⟨a1, b1⟩, z1, p1⟩, ⟨⟨⟨a2, b2⟩, z2, p2⟩, ⟨⟨⟨a3, b3⟩, z3, p3⟩, -⟩⟩⟩ := H4
    rw [j2] at a2 b2 p2
    rw [j3] at a3 b3 p3
    exact ⟨⟨⟨(et _ (by decide) (by decide)).trans k3, p1, p2, p3⟩, ⟨⟨a1, b1⟩, ⟨a2, b2⟩, ⟨a3, b3⟩⟩, ⟨(et _ (by decide) (by decide)).trans v3, (et _ (by decide) (by decide)).trans v4, f5, f6⟩, fun b k b0 bl => G.2.2 b k b0 (Int.ne_of_lt bl) (Int.lt_trans bl (by rw [h0]; exact Int.lt_succ t))⟩, fun q q0 q1 => absurd q1 (Int.not_lt.mpr q0), fun q q0 q1 => absurd q1 (Int.not_lt.mpr q0), fun q q0 q1 => absurd q1 (Int.not_lt.mpr q0), z4.trans (by omega), G.2.1.trans (by omega)⟩
  obtain ⟨c5, r5, i5⟩ := I_st_p d ht 4 (F + 24) 0 c4 (by omega) (by omega) I0
  clear I0 H4 H3 H1 G e et
  refine ⟨c5, r5, ⟨by rw [i5.2.2.2.2.1, h0]; omega, by rw [i5.2.2.2.2.2]; omega, fun b k b0 bt bl => i5.1.2.2.2 b k b0 (by omega)⟩, i5.ok ht⟩
