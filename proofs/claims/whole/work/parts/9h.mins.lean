/-! The reference: the call insert. -/
def zsu (c : zC) (E x : Int) : zC := fun b k => if b = 682 ∧ x + 12 < k ∧ k < E + 12 then c 682 (k - 12) else c b k
section
variable {c : zC} {σ : aS} {p i n s E : Int} (d : Nat)
theorem zsu_o {x b k : Int} (h : b ≠ 682 ∨ k ≤ x + 12 ∨ E + 12 ≤ k) : zsu c E x b k = c b k := by unfold zsu; rw [if_neg (by omega)]
theorem zsu_0 : zsu c E (E - 1) = c := by funext b k; exact zsu_o (by omega)
theorem zsu_i {x k : Int} (h : x + 12 < k) (h1 : k < E + 12) : zsu c E x 682 k = c 682 (k - 12) := by unfold zsu; rw [if_pos ⟨rfl, h, h1⟩]
theorem zsu_up {x : Int} (h : x < E) : zup (zsu c E x) 682 (x + 12) (c 682 x) = zsu c E (x - 1) := by
  funext b k
  unfold zsu
  by_cases e : b = 682 ∧ k = x + 12
  · rw [zup_eq e, if_pos (by omega), e.2, show x + 12 - 12 = x by omega]
  · rw [zup_ne (by omega)]
    by_cases e2 : b = 682 ∧ x + 12 < k ∧ k < E + 12
    · rw [if_pos e2, if_pos (by omega)]
    · rw [if_neg e2, if_neg (by omega)]
theorem zsu_ms {x : Int} (h : -12 ≤ x) : MS c (zsu c E x) := ⟨fun b k hk => zsu_o (by omega), fun k _ => zsu_o (Or.inl (by decide))⟩
theorem zm_ins_101 (h : MO c) (hp : isP p) (hi : 0 ≤ i ∧ i ≤ n) (hn : n < 20) : ∀ (t F : Nat) (x : Int), t ≤ F → x + 1 = 242 * p + 2 + 12 * i + t → x < 242 * p + 2 + 12 * n → zex zc_X12_insert zk_X12_insert (zrun zTab (d + 1)) (F + 1) 101 [(2, 681), (0, p), (0, i), (0, n), (0, s), (0, x)] [] (zsu c (242 * p + 2 + 12 * n) x) = zex zc_X12_insert zk_X12_insert (zrun zTab (d + 1)) (F - t + 1) 101 [(2, 681), (0, p), (0, i), (0, n), (0, s), (0, 242 * p + 2 + 12 * i - 1)] [] (zsu c (242 * p + 2 + 12 * n) (242 * p + 2 + 12 * i - 1)) := by
  have p0 := hp.1
  have p1 := hp.2
  intro t
  induction t with
  | zero => intro F x hF hx hx2; rw [show x = 242 * p + 2 + 12 * i - 1 by omega]; rfl
  | succ t ih =>
    intro F x hF hx hx2
    obtain ⟨F, rfl⟩ : ∃ G, F = G + 1 := ⟨F - 1, by omega⟩
    have mo := h.ms (zsu_ms (E := 242 * p + 2 + 12 * n) (x := x) (by omega))
    rw [ze_X12_insert_101, zm_wordAt d hp (by omega), zbnd_some, if_neg (by omega), if_pos mo.k, if_pos mo.k, mo.f.1, if_pos (mo.r682 (by omega) (by omega)), zadd_id (by omega) (by omega), if_pos (mo.r682 (by omega) (by omega)), zsu_o (b := 682) (k := x) (by omega), zsu_up hx2, zw_id' (by omega) (by omega), show x + -1 = x - 1 by omega, ih F (x - 1) (by omega) (by omega) (by omega), show F + 1 - (t + 1) = F - t by omega]
theorem M_insPut (h : RM c σ) (hp : isP p) (hi : 0 ≤ i ∧ i ≤ σ.1 0 p) (hn : σ.1 0 p < 20) {w : Int} (w1 : mWd (c 684) 1) (w2 : mV (c 684) 1 = w) (hrow : ∀ k, 0 ≤ k → k < σ.1 0 p → c 696 k = mN (mTo σ.1 p k)) (hs : s = mSecIns σ.1 p i) (F : Nat) (hF : 300 ≤ F) : ∃ c', zex zc_X12_insert zk_X12_insert (zrun zTab (d + 8)) F 101 [(2, 681), (0, p), (0, i), (0, σ.1 0 p), (0, s), (0, 242 * p + 2 + 12 * σ.1 0 p - 1)] [] c = some (σ.1 0 p + 1, c') ∧ RM c' (uIns σ.1 p i w, σ.2.1, σ.2.2.1, σ.2.2.2.1, aTell σ.1 (uIns σ.1 p i w) p i 0 1) ∧ zlo c c' := by
  have p0 := hp.1
  have p1 := hp.2
  have a0 := h.a0 hp
  have n20 := (h.ok.1.pg hp).1
  obtain ⟨F, rfl⟩ : ∃ G, F = G + 1 := ⟨F - 1, by omega⟩
  have run := zm_ins_101 (d + 7) (s := s) h.1 hp hi hn (12 * (σ.1 0 p - i)).toNat F (242 * p + 2 + 12 * σ.1 0 p - 1) (by omega) (by omega) (by omega)
  rw [zsu_0] at run
  have run : zex zc_X12_insert zk_X12_insert (zrun zTab (d + 8)) (F + 1) 101 [(2, 681), (0, p), (0, i), (0, σ.1 0 p), (0, s), (0, 242 * p + 2 + 12 * σ.1 0 p - 1)] [] c = _ := run
  rw [run]
  have ms3 : MS c (zsu c (242 * p + 2 + 12 * σ.1 0 p) (242 * p + 2 + 12 * i - 1)) := zsu_ms (by omega)
  have ms4 : MS c (zcpg (zup (zsu c (242 * p + 2 + 12 * σ.1 0 p) (242 * p + 2 + 12 * i - 1)) 682 (242 * p + 2 + 12 * i) s) 682 (242 * p + 3 + 12 * i) 684 1 11) := (ms3.up (by omega) (Or.inl (by decide))).tr (zcpg_ms (by omega) (by decide))
  have ms5 : MS c (zup (zcpg (zup (zsu c (242 * p + 2 + 12 * σ.1 0 p) (242 * p + 2 + 12 * i - 1)) 682 (242 * p + 2 + 12 * i) s) 682 (242 * p + 3 + 12 * i) 684 1 11) 682 (242 * p) (σ.1 0 p + 1)) := ms4.up (by omega) (Or.inl (by decide))
  have m3 := h.1.ms ms3
  have m4 := h.1.ms ms4
  have o : ∀ b k, (b ≠ 682 ∨ k < 242 * p ∨ 242 * p < k ∧ k < 242 * p + 2 + 12 * i ∨ 242 * p + 242 ≤ k) → zup (zcpg (zup (zsu c (242 * p + 2 + 12 * σ.1 0 p) (242 * p + 2 + 12 * i - 1)) 682 (242 * p + 2 + 12 * i) s) 682 (242 * p + 3 + 12 * i) 684 1 11) 682 (242 * p) (σ.1 0 p + 1) b k = c b k := fun b k hk => by
    rw [zup_ne (by omega), zcpg_o (by omega), zup_ne (by omega), zsu_o (by omega)]
  have e00 : zcpg (zup (zsu c (242 * p + 2 + 12 * σ.1 0 p) (242 * p + 2 + 12 * i - 1)) 682 (242 * p + 2 + 12 * i) s) 682 (242 * p + 3 + 12 * i) 684 1 11 682 (242 * p) = σ.1 0 p := by rw [zcpg_o (by omega), zup_ne (by omega), zsu_o (by omega)]; exact a0.symm
  have wd := w1.eq (g := zup (zcpg (zup (zsu c (242 * p + 2 + 12 * σ.1 0 p) (242 * p + 2 + 12 * i - 1)) 682 (242 * p + 2 + 12 * i) s) 682 (242 * p + 3 + 12 * i) 684 1 11) 682 (242 * p) (σ.1 0 p + 1) 682) (b := 242 * p + 3 + 12 * i) (fun k k0 k1 => by
    rw [zup_ne (by omega), zcpg_i k0 (by omega), zup_ne (by omega), zsu_o (Or.inl (by decide))])
  have pg := mset_ins (g := zup (zcpg (zup (zsu c (242 * p + 2 + 12 * σ.1 0 p) (242 * p + 2 + 12 * i - 1)) 682 (242 * p + 2 + 12 * i) s) 682 (242 * p + 3 + 12 * i) 684 1 11) 682 (242 * p) (σ.1 0 p + 1) 682) (v := w) (i := i) h.ok.1 hp (by rw [← a0]; exact hi) (by rw [← a0]; exact hn) (fun k hk => o 682 k (by omega)) (by rw [zup_eq ⟨rfl, rfl⟩, a0]) (by rw [zup_ne (by omega), zcpg_o (by omega), zup_eq ⟨rfl, rfl⟩, h.ok.2]; exact hs) wd.1 (wd.2.trans w2) (fun k k0 k1 => by
    rw [← a0] at k1
    rw [zup_ne (by omega), zcpg_o (by omega), zup_ne (by omega), zsu_i (by omega) (by omega), show k + 12 - 12 = k by omega])
  rw [h.ok.2] at pg
  have h5 : RM (zup (zcpg (zup (zsu c (242 * p + 2 + 12 * σ.1 0 p) (242 * p + 2 + 12 * i - 1)) 682 (242 * p + 2 + 12 * i) s) 682 (242 * p + 3 + 12 * i) 684 1 11) 682 (242 * p) (σ.1 0 p + 1)) (uIns σ.1 p i w, σ.2) := RM.st h ms5 (fun k hk => o _ _ (Or.inl (by decide))) (fun k hk => o _ _ (by omega)) (fun k => o _ _ (Or.inl (by decide))) pg.1 pg.2
  have nn : uIns σ.1 p i w 0 p = σ.1 0 p + 1 := by
    have x := h5.a0 hp
    rw [zup_eq ⟨rfl, rfl⟩] at x
    exact x
  obtain ⟨c6, u1, u2, u3⟩ := h5.tells d (f := mTo σ.1 p) (nold := σ.1 0 p) (a := i) (m := 0) (n := 1) hp (by rw [a0]; exact n20) (by show uIns σ.1 p i w 0 p = _; rw [nn]; omega) (by omega) (Or.inl ⟨rfl, rfl⟩) (fun k k0 k1 => by rw [o _ _ (Or.inl (by decide))]; exact hrow k k0 k1) (mTo_all σ.1 p) (fun k hk => mTo_hi hk)
  refine ⟨c6, ?_, u2, fun b hb k => (u3 b hb k).trans (o _ _ (Or.inl (by omega)))⟩
  have e6 : c6 682 (242 * p) = σ.1 0 p + 1 := by
    have x := u2.a0 hp
    rw [← nn]
    exact x.symm
  rw [ze_X12_insert_101, zm_wordAt (d + 7) hp (by omega), zbnd_some, if_pos (by omega), if_pos m3.k, zm_puts (d + 6) m3 hp (by omega), zbnd_some, if_pos m4.k, m4.f.1, zmul_id (by omega) (by omega), if_pos (m4.r682 (by omega) (by omega)), if_pos (m4.r682 (by omega) (by omega)), e00, zadd_id (by omega) (by omega), if_pos h5.1.k, u1, zbnd_some, if_pos u2.1.k, zm_words (d + 7) u2.1 hp, zbnd_some, e6]
theorem M_ins (h : RM c σ) : MC c (zrun zTab (d + 40) 189 [681, p, i] c) (aIns σ p i) := by
  rw [ze_X12_insert, zm_isPage, zbnd_some]
  unfold aIns
  by_cases hp : isP p
  · have p0 := hp.1
    have p1 := hp.2
    have a0 := h.a0 hp
    have n20 := (h.ok.1.pg hp).1
    rw [if_pos hp, if_neg (by decide), if_pos h.1.k, zm_words (d + 38) h.1 hp, zbnd_some, zm_in, zbnd_some, ← a0]
    rw [← a0] at n20
    by_cases hi : 0 ≤ i ∧ i ≤ σ.1 0 p
    · rw [if_pos hi, if_neg (by decide), if_neg (show ¬ ¬ (isP p ∧ 0 ≤ i ∧ i ≤ σ.1 0 p) from fun q => q ⟨hp, hi⟩), if_pos h.1.k, zm_words (d + 38) h.1 hp, zbnd_some, ← a0]
      by_cases e20 : σ.1 0 p = 20
      · rw [if_pos e20, if_pos (by omega)]
        exact MC.of rfl h (zlo.rf c)
      · obtain ⟨c1, r1, r2, r3, r4, r5, r6⟩ := h.oneWord (d + 32)
        have lt : ¬ 20 ≤ σ.1 0 p := by omega
        rw [if_neg e20, if_neg lt, if_pos h.1.k, r1, zbnd_some]
        generalize tOne σ.2.2.2.1.2.1 σ.2.2.2.1.1 σ.2.2.2.1.2.2 = W at r2 r3 r4 ⊢
        by_cases e : W.2.2.1 = -1
        · obtain ⟨w1, w2⟩ := r4 e
          obtain ⟨c2, c3, q1, q2, q3, q4, q5, q6, q7⟩ := r2.editBegins (d + 31) hp
          have m3 := q4.1
          have q3 : zrun zTab (d + 39) 185 [681, p] c2 = some (σ.1 0 p, c3) := q3
          have e30 : c3 682 (242 * p) = σ.1 0 p := (q4.a0 hp).symm
          have e684 : c3 684 = c1 684 := funext q6
          rw [if_pos e, if_neg (by decide), if_pos e, if_pos r2.1.k, q1, zbnd_some, if_pos q2, q3, zbnd_some]
          have fin : ∀ s : Int, s = mSecIns σ.1 p i → MC c (zex zc_X12_insert zk_X12_insert (zrun zTab (d + 39)) 19999 101 [(2, 681), (0, p), (0, i), (0, σ.1 0 p), (0, s), (0, 242 * p + 2 + 12 * σ.1 0 p - 1)] [] c3) (σ.1 0 p + 1, aEd (aRd σ W.2) (uIns σ.1 p i W.1) p i 0 1) := fun s hs => by
            obtain ⟨c6, u1, u2, u3⟩ := M_insPut (d + 31) (w := W.1) (s := s) (i := i) q4 hp hi (by show σ.1 0 p < 20; omega) (by rw [e684]; exact w1) (by rw [e684]; exact w2) q5 hs 19999 (by decide)
            have u1 : zex zc_X12_insert zk_X12_insert (zrun zTab (d + 39)) 19999 101 [(2, 681), (0, p), (0, i), (0, σ.1 0 p), (0, s), (0, 242 * p + 2 + 12 * σ.1 0 p - 1)] [] c3 = some (σ.1 0 p + 1, c6) := u1
            rw [u1]
            exact MC.of rfl u2 ((r6.tr q7).tr u3)
          by_cases e0 : σ.1 0 p = 0
          · have f0 := fin 0 (by unfold mSecIns; rw [if_neg (by omega), if_pos e0])
            rw [if_pos e0, zm_wordAt (d + 38) hp (by omega), zbnd_some, zsub_id (by omega) (by omega)]
            exact f0
          · rw [if_neg e0]
            by_cases ei : i < σ.1 0 p
            · have se : c3 682 (242 * p + 2 + 12 * i) = mSecIns σ.1 p i := by
                have x := mw_2 (f := c3 682) hp hi.1 (by omega) (by rw [e30]; exact ei)
                rw [q4.ok.2] at x
                unfold mSecIns
                rw [if_pos ei]
                exact x.symm
              rw [if_pos ei, if_pos m3.k, zm_sectionOf (d + 37) m3 hp (by omega), zbnd_some, zm_wordAt (d + 38) hp (by omega), zbnd_some, zsub_id (by omega) (by omega)]
              exact fin _ se
            · have se : c3 682 (242 * p + 2 + 12 * (σ.1 0 p - 1)) = mSecIns σ.1 p i := by
                have x := mw_2 (f := c3 682) hp (i := σ.1 0 p - 1) (by omega) (by omega) (by rw [e30]; omega)
                rw [q4.ok.2] at x
                unfold mSecIns
                rw [if_neg ei, if_neg e0]
                exact x.symm
              rw [if_neg ei, if_pos m3.k, zsub_id (x := σ.1 0 p) (by omega) (by omega), zm_sectionOf (d + 37) m3 hp (by omega), zbnd_some, zm_wordAt (d + 38) hp (by omega), zbnd_some, zsub_id (by omega) (by omega)]
              exact fin _ se
        · rw [if_neg e, if_pos rfl, if_neg e, if_pos r2.1.k, r3]
          exact MC.of rfl r2 r6
    · rw [if_neg hi, if_pos rfl, if_pos (show ¬ (isP p ∧ 0 ≤ i ∧ i ≤ σ.1 0 p) from fun q => hi q.2)]
      exact MC.of rfl h (zlo.rf c)
  · rw [if_neg hp, if_pos rfl, if_pos (show ¬ (isP p ∧ 0 ≤ i ∧ i ≤ σ.1 0 p) from fun q => hp q.1)]
    exact MC.of rfl h (zlo.rf c)
end
