/-! The reference: the call replace. -/
section
variable {c : zC} {σ : aS} {p i s : Int} (d : Nat)
theorem zm_puts (h : MO c) (hp : isP p) (hi : 0 ≤ i ∧ i < 20) : zrun zTab (d + 2) 188 [681, p, i, s] c = some (0, zcpg (zup c 682 (242 * p + 2 + 12 * i) s) 682 (242 * p + 3 + 12 * i) 684 1 11) := by
  have p0 := hp.1
  have p1 := hp.2
  have m1 := h.ms ((MS.rf c).up (b := 682) (k := 242 * p + 2 + 12 * i) (v := s) (by omega) (Or.inl (by decide)))
  have lp : ∀ (t F : Nat) (k : Int), t ≤ F → k + t = 11 → 0 ≤ k → zex zc_X12_puts zk_X12_puts (zrun zTab (d + 1)) (F + 1) 14 [(2, 681), (0, p), (0, i), (3, 0), (0, k + 1)] [] (zcpg (zup c 682 (242 * p + 2 + 12 * i) s) 682 (242 * p + 3 + 12 * i) 684 1 k) = some (0, zcpg (zup c 682 (242 * p + 2 + 12 * i) s) 682 (242 * p + 3 + 12 * i) 684 1 11) := by
    intro t
    induction t with
    | zero =>
      intro F k hF hk hk0
      rw [ze_X12_puts_14, if_neg (by omega), show k = 11 by omega]
    | succ t ih =>
      intro F k hF hk hk0
      obtain ⟨F, rfl⟩ : ∃ G, F = G + 1 := ⟨F - 1, by omega⟩
      have mo := m1.ms (zcpg_ms (T := 682) (P := 242 * p + 3 + 12 * i) (R := 684) (a := 1) (m := k) (by omega) (by decide))
      have e684 : zcpg (zup c 682 (242 * p + 2 + 12 * i) s) 682 (242 * p + 3 + 12 * i) 684 1 k 684 (k + 1) = zup c 682 (242 * p + 2 + 12 * i) s 684 (1 + k) := by rw [zcpg_o (by omega), show k + 1 = 1 + k by omega]
      rw [ze_X12_puts_14, if_pos (by omega), if_pos mo.k, zm_wordAt d hp (by omega), zbnd_some, if_pos mo.k, mo.f.2.2.1, mo.f.1, if_pos (mo.r684 (by omega) (by omega)), zadd_id (by omega) (by omega), if_pos (mo.r682 (by omega) (by omega)), e684, show 242 * p + 2 + 12 * i + (k + 1) = 242 * p + 3 + 12 * i + k by omega, zcpg_up hk0, zw_id' (by omega) (by omega)]
      exact ih F (k + 1) (by omega) (by omega) (by omega)
  have run := lp 11 19998 0 (by omega) (by omega) (by omega)
  rw [zcpg_0] at run
  rw [ze_X12_puts, if_pos h.k, zm_wordAt d hp (by omega), zbnd_some, h.f.1, if_pos (h.r682 (by omega) (by omega))]
  exact run
/-- an edit begins -/
theorem RM.editBegins (h : RM c σ) (hp : isP p) : ∃ c2 c3 : zC, zrun zTab (d + 8) 140 [681] c = some (0, c2) ∧ c2 681 (-1) = 12 ∧ zrun zTab (d + 8) 185 [681, p] c2 = some (σ.1 0 p, c3) ∧ RM c3 (aPut σ σ.1) ∧ (∀ k, 0 ≤ k → k < σ.1 0 p → c3 696 k = mN (mTo σ.1 p k)) ∧ (∀ k, c3 684 k = c 684 k) ∧ zlo c c3 := by
  obtain ⟨c2, r1, r2, r3, r4, r5, r6⟩ := M_keeps (d + 6) h
  obtain ⟨c3, q1, q2, q3⟩ := r2.beg d hp
  exact ⟨c2, c3, r1, r2.1.k, q1, r2.l2 q2, q3, fun k => by rw [q2.2.1 684 (by decide) (by decide), r4 684 (by decide) (by decide)], fun b hb k => by rw [q2.2.1 b (by omega) (by omega), r4 b (by omega) (by omega)]⟩
theorem mTo_all (A : zA2) (p : Int) : ∀ k, mTo A p k = -5 ∨ 0 ≤ mTo A p k := fun k => mTo_rng A p k
theorem M_rep (h : RM c σ) : MC c (zrun zTab (d + 40) 190 [681, p, i] c) (aRep σ p i) := by
  have n20 : ∀ q, isP q → 0 ≤ c 682 (242 * q) ∧ c 682 (242 * q) ≤ 20 := fun q hq => (h.ok.1.pg hq).1
  rw [ze_X12_replace, if_pos h.1.k, zm_isWord (d + 36) h.1 n20, zbnd_some]
  unfold aRep
  by_cases hw : isP p ∧ 0 ≤ i ∧ i < c 682 (242 * p)
  · obtain ⟨hp, hi0, hi1⟩ := id hw
    have p0 := hp.1
    have p1 := hp.2
    have a0 := h.a0 hp
    have hn := n20 p hp
    have hW : isW σ.1 p i := ⟨hp, hi0, by rw [a0]; exact hi1⟩
    obtain ⟨c1, r1, r2, r3, r4, r5, r6⟩ := h.oneWord (d + 32)
    rw [if_pos hw, if_neg (by decide), if_neg (show ¬ ¬ isW σ.1 p i from fun q => q hW), if_pos h.1.k, r1, zbnd_some]
    generalize tOne σ.2.2.2.1.2.1 σ.2.2.2.1.1 σ.2.2.2.1.2.2 = W at r2 r3 r4 ⊢
    by_cases e : W.2.2.1 = -1
    · obtain ⟨w1, w2⟩ := r4 e
      obtain ⟨c2, c3, q1, q2, q3, q4, q5, q6, q7⟩ := r2.editBegins (d + 31) hp
      have m3 := q4.1
      have e30 : c3 682 (242 * p) = σ.1 0 p := (q4.a0 hp).symm
      have ms4 : ∀ s, MS c3 (zcpg (zup c3 682 (242 * p + 2 + 12 * i) s) 682 (242 * p + 3 + 12 * i) 684 1 11) := fun s => ((MS.rf c3).up (by omega) (Or.inl (by decide))).tr (zcpg_ms (by omega) (by decide))
      have o : ∀ k, (k ≤ 242 * p + 2 + 12 * i ∨ 242 * p + 2 + 12 * i + 12 ≤ k) → zcpg (zup c3 682 (242 * p + 2 + 12 * i) (c3 682 (242 * p + 2 + 12 * i))) 682 (242 * p + 3 + 12 * i) 684 1 11 682 k = c3 682 k := fun k hk => by
        rw [zcpg_o (by omega)]
        by_cases x : k = 242 * p + 2 + 12 * i
        · rw [x, zup_eq ⟨rfl, rfl⟩]
        · rw [zup_ne (by omega)]
      have wd := w1.eq (g := zcpg (zup c3 682 (242 * p + 2 + 12 * i) (c3 682 (242 * p + 2 + 12 * i))) 682 (242 * p + 3 + 12 * i) 684 1 11 682) (b := 242 * p + 3 + 12 * i) (fun k k0 k1 => by
        rw [zcpg_i k0 (by omega), zup_ne (by omega), q6])
      have pg := mset_rep (v := W.1) q4.ok.1 hp ⟨hi0, by rw [e30, a0]; exact hi1⟩ o wd.1 (wd.2.trans w2)
      rw [q4.ok.2] at pg
      have h5 : RM (zcpg (zup c3 682 (242 * p + 2 + 12 * i) (c3 682 (242 * p + 2 + 12 * i))) 682 (242 * p + 3 + 12 * i) 684 1 11) (uRep σ.1 p i W.1, (aPut (aRd σ W.2) σ.1).2) := RM.st q4 (ms4 _) (fun k hk => by rw [zcpg_o (by omega), zup_ne (by omega)]) (fun k hk => by rw [zcpg_o (by omega), zup_ne (by omega)]) (fun k => by rw [zcpg_o (by omega), zup_ne (by omega)]) pg.1 pg.2
      have nn : uRep σ.1 p i W.1 0 p = σ.1 0 p := by
        have x := h5.a0 hp
        rw [o _ (by omega), e30] at x
        exact x
      obtain ⟨c6, u1, u2, u3⟩ := h5.tells (d + 31) (f := mTo σ.1 p) (nold := σ.1 0 p) (a := i) (m := 1) (n := 1) hp (by rw [a0]; exact hn) (by show uRep σ.1 p i W.1 0 p = _; rw [nn]; omega) (by omega) (Or.inr (Or.inl ⟨rfl, rfl⟩)) (fun k k0 k1 => by rw [zcpg_o (by omega), zup_ne (by omega)]; exact q5 k k0 k1) (mTo_all σ.1 p) (fun k hk => mTo_hi hk)
      rw [if_pos e, if_neg (by decide), if_pos e, if_pos r2.1.k, q1, zbnd_some, if_pos q2, q3, zbnd_some, if_pos m3.k, zm_sectionOf (d + 37) m3 hp ⟨hi0, by omega⟩, zbnd_some, if_pos m3.k, zm_puts (d + 37) m3 hp ⟨hi0, by omega⟩, zbnd_some, if_pos h5.1.k]
      have u1 : zrun zTab (d + 39) 186 [681, p, σ.1 0 p, i, 1, 1] (zcpg (zup c3 682 (242 * p + 2 + 12 * i) (c3 682 (242 * p + 2 + 12 * i))) 682 (242 * p + 3 + 12 * i) 684 1 11) = some (0, c6) := u1
      have en : (aRd σ W.2).1 0 p = σ.1 0 p := rfl
      rw [en, u1, zbnd_some]
      exact MC.of rfl u2 (((r6.tr q7).tr (fun b hb k => by rw [zcpg_o (by omega), zup_ne (by omega)])).tr u3)
    · rw [if_neg e, if_pos rfl, if_neg e, if_pos r2.1.k, r3]
      exact MC.of rfl r2 r6
  · rw [if_neg hw, if_pos rfl, if_pos (show ¬ isW σ.1 p i from fun q => hw ⟨q.1, q.2.1, by rw [← h.a0 q.1]; exact q.2.2⟩)]
    exact MC.of rfl h (zlo.rf c)
end
