/-! The class itself: words of a page, senses and rules that come. -/
section
variable {c c' : zC} {S : Int}
theorem st_pg (h : LState c S) {p n : Int} {f g : Int → Int} (hp : isP p) (o : ∀ b, (b < S + 4 + 3 * p ∨ S + 4 + 3 * p + 2 < b) → ∀ k, c' b k = c b k) (on : ∀ b k, k < 0 → c' b k = c b k) (e : c' (S + 4 + 3 * p) 0 = c (S + 4 + 3 * p) 0 ∧ c' (S + 4 + 3 * p) 1 = c (S + 4 + 3 * p) 1 ∧ c' (S + 4 + 3 * p) 3 = c (S + 4 + 3 * p) 3) (hn : c' (S + 4 + 3 * p) 2 = n) (n0 : 0 ≤ n ∧ n ≤ 20)
    (hf : ∀ i, 0 ≤ i → i < n → c' (S + 4 + 3 * p + 2) i = f i ∧ c' (S + 4 + 3 * p + 1) i = g i) : LState c' S ∧ (RulesOK c S → RulesOK c' S) ∧ cview c' S = uPg (cview c S) p n f g := by
  have s0 := h.1
  have p0 := hp.1
  have p1 := hp.2
  have n3 := h.n3
  have n4 := h.n4
  refine ⟨h.mk2 on (fun k q1 q2 => o S (by omega) k) (fun k => o _ (by omega) k) (fun k => o _ (by omega) k) (fun k => o _ (by omega) k) (fun q hq => ?_) (fun j j0 j1 => ?_) (by rw [o S (by omega)]; exact h.n3) (by rw [o S (by omega)]; exact h.n4), fun hr => hr.mk2 (o S (by omega) _) (fun k => o _ (by omega) k) (fun r r0 r1 k => ?_), ?_⟩
  · have hP := h.pg hq
    have := hq.1
    have := hq.2
    by_cases x : q = p
    · subst x
      rw [hn]
      exact ⟨e.1, e.2.1, n0⟩
    · rw [o _ (by omega) 0, o _ (by omega) 1, o _ (by omega) 2]
      exact ⟨rfl, rfl, hP.2.2.2.2.2⟩
  · have hs := h.sn j0 j1
    rw [o _ (by omega) 1, o _ (by omega) 2]
    exact ⟨rfl, hs.2.2.2.2⟩
  · have := (h.rl r0 (by omega)).1
    exact o _ (by omega) k
  · unfold uPg
    refine cv_raw (fun q hq => ?_) (fun q i hq i0 i1 i2 => ?_) ?_ (fun r r0 r1 => ?_) ?_ (fun s s0 s1 => ?_) (fun s x s0 s1 x0 x1 x2 => ?_) ?_ ?_
    · have := hq.1
      have := hq.2
      show _ = (if q = p then n else cview c S 0 q) ∧ _ = cview c S 1 q
      rw [cv_0 hq.1 hq.2, cv_1 hq.1 hq.2]
      by_cases x : q = p
      · subst x
        rw [if_pos rfl]
        exact ⟨hn, e.2.2⟩
      · rw [if_neg x, o _ (by omega) 2, o _ (by omega) 3]
        exact ⟨rfl, rfl⟩
    · have := hq.1
      have := hq.2
      have i2 : i < (if q = p then n else cview c S 0 q) := i2
      show _ = (if (20 * q + i) / 20 = p then f ((20 * q + i) % 20) else cview c S 2 (20 * q + i)) ∧ _ = (if (20 * q + i) / 20 = p then g ((20 * q + i) % 20) else cview c S 3 (20 * q + i))
      rw [show (20 * q + i) / 20 = q by omega, show (20 * q + i) % 20 = i by omega]
      by_cases x : q = p
      · subst x
        rw [if_pos rfl] at i2
        rw [if_pos rfl, if_pos rfl]
        exact hf i i0 i2
      · rw [if_neg x, cv_0 hq.1 hq.2] at i2
        rw [if_neg x, if_neg x, o _ (by omega) i, o _ (by omega) i]
        exact ⟨(cv_2 hq.1 hq.2 i0 i1 i2).symm, (cv_3 hq.1 hq.2 i0 i1 i2).symm⟩
    · exact (o S (by omega) 4).trans cv_4.symm
    · have r1 : r < cview c S 4 0 := r1
      rw [cv_4] at r1
      have := (h.rl r0 (by omega)).1
      rw [o (S + 3) (by omega) r, o _ (by omega) 0, o _ (by omega) 1, o _ (by omega) 2, o _ (by omega) 3]
      exact ⟨(cv_5 r0 r1).symm, (cv_6 r0 r1).symm, (cv_7 r0 r1).symm, (cv_8 r0 r1).symm⟩
    · exact (o S (by omega) 3).trans cv_9.symm
    · have s1 : s < cview c S 9 0 := s1
      rw [cv_9] at s1
      have := (h.sn s0 (by omega)).1
      rw [o (S + 2) (by omega) s, o _ (by omega) 0, o _ (by omega) 2, o _ (by omega) 3]
      exact ⟨(cv_10 s0 s1).symm, (cv_11 s0 s1).symm, (cv_13 s0 s1).symm⟩
    · have s1 : s < cview c S 9 0 := s1
      rw [cv_9] at s1
      have x2 : x < cview c S 11 s := x2
      rw [cv_11 s0 s1] at x2
      have := (h.sn s0 (by omega)).1
      rw [o (S + 2) (by omega) s, o _ (by omega) x]
      exact (cv_12 s0 s1 x0 x1 x2).symm
    · exact (o S (by omega) 5).trans cv_14.symm
    · exact (o S (by omega) 6).trans cv_15.symm
theorem st_addS (h : LState c S) (hn : c S 3 < 8) {G : Int} {l : List Int} (g : LSense c G) (hl : c G 2 = (l.length : Int)) (hh : ∀ k, 0 ≤ k → k < (l.length : Int) → c (G + 1) k = l.getD k.toNat 0) : LState (zup (zcpS c (c (S + 2) (c S 3)) G) S 3 (c S 3 + 1)) S ∧ (RulesOK c S → RulesOK (zup (zcpS c (c (S + 2) (c S 3)) G) S 3 (c S 3 + 1)) S) ∧ cview (zup (zcpS c (c (S + 2) (c S 3)) G) S 3 (c S 3 + 1)) S = uAddS (cview c S) (c G 0) l (c G 3) := by
  have n3 := h.n3
  have n4 := h.n4
  have s0 := h.1
  have hQ := h.sn n3.1 hn
  have ds : ∀ j, 0 ≤ j → j < 8 → j ≠ c S 3 → c (S + 2) j ≠ c (S + 2) (c S 3) := fun j j0 j1 jn => by
    have hd := h.2.2.2.2.2.2.2.2.2.2.1
    by_cases x : j < c S 3
    · exact hd j _ j0 x hn
    · exact fun q => hd _ j n3.1 (by omega) j1 q.symm
  generalize hq : c (S + 2) (c S 3) = Q at hQ ds ⊢
  have o : ∀ b, b ≠ Q → b ≠ Q + 1 → ∀ k, (b ≠ S ∨ k ≠ 3) → zup (zcpS c Q G) S 3 (c S 3 + 1) b k = c b k := fun b hb hb2 k hk => by rw [zup_ne hk, zcpS_o hb hb2]
  have on : ∀ b k, k < 0 → zup (zcpS c Q G) S 3 (c S 3 + 1) b k = c b k := fun b k hk => by rw [zup_ne (by omega), zcpS_n hk]
  have om : zup (zcpS c Q G) S 3 (c S 3 + 1) S 3 = c S 3 + 1 := zup_eq ⟨rfl, rfl⟩
  have oQ1 : zup (zcpS c Q G) S 3 (c S 3 + 1) Q 1 = c Q 1 := by rw [zup_ne (by omega), zcpS_1]
  have oQ : ∀ k, (k = 0 ∨ k = 2 ∨ k = 3) → zup (zcpS c Q G) S 3 (c S 3 + 1) Q k = c G k := fun k hk => by rw [zup_ne (by omega), zcpS_k hk]
  have oH : ∀ k, 0 ≤ k → k < 4 → zup (zcpS c Q G) S 3 (c S 3 + 1) (Q + 1) k = c (G + 1) k := fun k k0 k1 => by rw [zup_ne (by omega), zcpS_h k0 k1]
  generalize zup (zcpS c Q G) S 3 (c S 3 + 1) = c' at o on om oQ1 oQ oH ⊢
  refine ⟨h.mk2 on (fun k q1 q2 => o S (by omega) (by omega) k (by omega)) (fun k => o _ (by omega) (by omega) k (by omega)) (fun k => o _ (by omega) (by omega) k (by omega)) (fun k => o _ (by omega) (by omega) k (by omega)) (fun q hq => ?_) (fun j j0 j1 => ?_) (by rw [om]; omega) (by rw [o S (by omega) (by omega) 4 (by omega)]; exact n4), fun hr => hr.mk2 (o S (by omega) (by omega) 4 (by omega)) (fun k => o _ (by omega) (by omega) k (by omega)) (fun r r0 r1 k => ?_), ?_⟩
  · have hP := h.pg hq
    have := hq.1
    have := hq.2
    rw [o _ (by omega) (by omega) 0 (by omega), o _ (by omega) (by omega) 1 (by omega), o _ (by omega) (by omega) 2 (by omega)]
    exact ⟨rfl, rfl, hP.2.2.2.2.2⟩
  · have hs := h.sn j0 j1
    by_cases x : j = c S 3
    · rw [x, hq, oQ1, oQ 2 (by omega)]
      exact ⟨rfl, by rw [hl]; have := g.2.2.2; rw [hl] at this; exact this⟩
    · have := ds j j0 j1 x
      rw [o _ (by omega) (by omega) 1 (by omega), o _ (by omega) (by omega) 2 (by omega)]
      exact ⟨rfl, hs.2.2.2.2⟩
  · have := (h.rl r0 (by omega)).1
    exact o _ (by omega) (by omega) k (by omega)
  · unfold uAddS uSn
    refine cv_raw (fun q hq => ?_) (fun q i hq i0 i1 i2 => ?_) ?_ (fun r r0 r1 => ?_) ?_ (fun s s0 s1 => ?_) (fun s x s0 s1 x0 x1 x2 => ?_) ?_ ?_
    · have := hq.1
      have := hq.2
      rw [o _ (by omega) (by omega) 2 (by omega), o _ (by omega) (by omega) 3 (by omega)]
      exact ⟨(cv_0 hq.1 hq.2).symm, (cv_1 hq.1 hq.2).symm⟩
    · have := hq.1
      have := hq.2
      have i2 : i < cview c S 0 q := i2
      rw [cv_0 hq.1 hq.2] at i2
      rw [o _ (by omega) (by omega) i (by omega), o _ (by omega) (by omega) i (by omega)]
      exact ⟨(cv_2 hq.1 hq.2 i0 i1 i2).symm, (cv_3 hq.1 hq.2 i0 i1 i2).symm⟩
    · exact (o S (by omega) (by omega) 4 (by omega)).trans cv_4.symm
    · have r1 : r < cview c S 4 0 := r1
      rw [cv_4] at r1
      have := (h.rl r0 (by omega)).1
      rw [o (S + 3) (by omega) (by omega) r (by omega), o _ (by omega) (by omega) 0 (by omega), o _ (by omega) (by omega) 1 (by omega), o _ (by omega) (by omega) 2 (by omega), o _ (by omega) (by omega) 3 (by omega)]
      exact ⟨(cv_5 r0 r1).symm, (cv_6 r0 r1).symm, (cv_7 r0 r1).symm, (cv_8 r0 r1).symm⟩
    · rw [om]
      show c S 3 + 1 = cview c S 9 0 + 1
      rw [cv_9]
    · have s1 : s < cview c S 9 0 + 1 := s1
      rw [cv_9] at s1
      rw [o (S + 2) (by omega) (by omega) s (by omega)]
      show _ = (if s = cview c S 9 0 then c G 0 else cview c S 10 s) ∧ _ = (if s = cview c S 9 0 then (l.length : Int) else cview c S 11 s) ∧ _ = (if s = cview c S 9 0 then c G 3 else cview c S 13 s)
      rw [cv_9]
      by_cases x : s = c S 3
      · rw [if_pos x, if_pos x, if_pos x, x, hq, oQ 0 (by omega), oQ 2 (by omega), oQ 3 (by omega), hl]
        exact ⟨rfl, rfl, rfl⟩
      · have s2 : s < c S 3 := by omega
        have := (h.sn s0 (by omega)).1
        have := ds s s0 (by omega) x
        rw [if_neg x, if_neg x, if_neg x, o _ (by omega) (by omega) 0 (by omega), o _ (by omega) (by omega) 2 (by omega), o _ (by omega) (by omega) 3 (by omega)]
        exact ⟨(cv_10 s0 s2).symm, (cv_11 s0 s2).symm, (cv_13 s0 s2).symm⟩
    · have s1 : s < cview c S 9 0 + 1 := s1
      rw [cv_9] at s1
      have x2 : x < (if s = cview c S 9 0 then (l.length : Int) else cview c S 11 s) := x2
      rw [cv_9] at x2
      rw [o (S + 2) (by omega) (by omega) s (by omega)]
      show _ = (if (4 * s + x) / 4 = cview c S 9 0 then l.getD ((4 * s + x) % 4).toNat 0 else cview c S 12 (4 * ((4 * s + x) / 4) + (4 * s + x) % 4))
      rw [show (4 * s + x) / 4 = s by omega, show (4 * s + x) % 4 = x by omega, cv_9]
      by_cases y : s = c S 3
      · rw [if_pos y] at x2
        rw [if_pos y, y, hq, oH x x0 x1]
        exact hh x x0 x2
      · rw [if_neg y] at x2
        have s2 : s < c S 3 := by omega
        rw [cv_11 s0 s2] at x2
        have := (h.sn s0 (by omega)).1
        have := ds s s0 (by omega) y
        rw [if_neg y, o _ (by omega) (by omega) x (by omega)]
        exact (cv_12 s0 s2 x0 x1 x2).symm
    · exact (o S (by omega) (by omega) 5 (by omega)).trans cv_14.symm
    · exact (o S (by omega) (by omega) 6 (by omega)).trans cv_15.symm
theorem st_addR (h : LState c S) (hn : c S 4 < 6) {G e f : Int} (g : c G (-1) = 7) (h0 : c G 0 = e) (h1 : c G 1 = f) (h2 : c G 2 = 5 * mlen e) (h3 : c G 3 = 5 * mlen f) : LState (zup (zcpR c (c (S + 3) (c S 4)) G) S 4 (c S 4 + 1)) S ∧ (RulesOK c S → RuleOK c G → RulesOK (zup (zcpR c (c (S + 3) (c S 4)) G) S 4 (c S 4 + 1)) S) ∧ cview (zup (zcpR c (c (S + 3) (c S 4)) G) S 4 (c S 4 + 1)) S = uAddR (cview c S) e f := by
  have n3 := h.n3
  have n4 := h.n4
  have s0 := h.1
  have hQ := h.rl n4.1 hn
  have ds : ∀ j, 0 ≤ j → j < 6 → j ≠ c S 4 → c (S + 3) j ≠ c (S + 3) (c S 4) := fun j j0 j1 jn => by
    have hd := h.2.2.2.2.2.2.2.2.2.2.2.2.1
    by_cases x : j < c S 4
    · exact hd j _ j0 x hn
    · exact fun q => hd _ j n4.1 (by omega) j1 q.symm
  generalize hq : c (S + 3) (c S 4) = Q at hQ ds ⊢
  have o : ∀ b, b ≠ Q → ∀ k, (b ≠ S ∨ k ≠ 4) → zup (zcpR c Q G) S 4 (c S 4 + 1) b k = c b k := fun b hb k hk => by rw [zup_ne hk, zcpR_o hb]
  have on : ∀ b k, k < 0 → zup (zcpR c Q G) S 4 (c S 4 + 1) b k = c b k := fun b k hk => by rw [zup_ne (by omega), zcpR_n hk]
  have om : zup (zcpR c Q G) S 4 (c S 4 + 1) S 4 = c S 4 + 1 := zup_eq ⟨rfl, rfl⟩
  have oQ : ∀ k, 0 ≤ k → k ≤ 3 → zup (zcpR c Q G) S 4 (c S 4 + 1) Q k = c G k := fun k k0 k1 => by rw [zup_ne (by omega), zcpR_k k0 k1]
  generalize zup (zcpR c Q G) S 4 (c S 4 + 1) = c' at o on om oQ ⊢
  refine ⟨h.mk2 on (fun k q1 q2 => o S (by omega) k (by omega)) (fun k => o _ (by omega) k (by omega)) (fun k => o _ (by omega) k (by omega)) (fun k => o _ (by omega) k (by omega)) (fun q hq => ?_) (fun j j0 j1 => ?_) (by rw [o S (by omega) 3 (by omega)]; exact n3) (by rw [om]; omega), fun hr hg r r1 => ?_, ?_⟩
  · have hP := h.pg hq
    have := hq.1
    have := hq.2
    rw [o _ (by omega) 0 (by omega), o _ (by omega) 1 (by omega), o _ (by omega) 2 (by omega)]
    exact ⟨rfl, rfl, hP.2.2.2.2.2⟩
  · have hs := h.sn j0 j1
    rw [o _ (by omega) 1 (by omega), o _ (by omega) 2 (by omega)]
    exact ⟨rfl, hs.2.2.2.2⟩
  · rw [om] at r1
    rw [o (S + 3) (by omega) r (by omega)]
    by_cases x : (r : Int) = c S 4
    · rw [x, hq]
      obtain ⟨el, rl, y⟩ := hg
      refine ⟨el, rl, ?_⟩
      rw [oQ 0 (by omega) (by omega), oQ 1 (by omega) (by omega), oQ 2 (by omega) (by omega), oQ 3 (by omega) (by omega)]
      exact y
    · have := ds r (by omega) (by omega) x
      exact (hr r (by omega)).same (fun k => o _ this k (by have := (h.rl (j := (r : Int)) (by omega) (by omega)).1; omega))
  · unfold uAddR uRl
    refine cv_raw (fun q hq => ?_) (fun q i hq i0 i1 i2 => ?_) ?_ (fun r r0 r1 => ?_) ?_ (fun s s0 s1 => ?_) (fun s x s0 s1 x0 x1 x2 => ?_) ?_ ?_
    · have := hq.1
      have := hq.2
      rw [o _ (by omega) 2 (by omega), o _ (by omega) 3 (by omega)]
      exact ⟨(cv_0 hq.1 hq.2).symm, (cv_1 hq.1 hq.2).symm⟩
    · have := hq.1
      have := hq.2
      have i2 : i < cview c S 0 q := i2
      rw [cv_0 hq.1 hq.2] at i2
      rw [o _ (by omega) i (by omega), o _ (by omega) i (by omega)]
      exact ⟨(cv_2 hq.1 hq.2 i0 i1 i2).symm, (cv_3 hq.1 hq.2 i0 i1 i2).symm⟩
    · rw [om]
      show c S 4 + 1 = cview c S 4 0 + 1
      rw [cv_4]
    · have r1 : r < cview c S 4 0 + 1 := r1
      rw [cv_4] at r1
      rw [o (S + 3) (by omega) r (by omega)]
      show _ = (if r = cview c S 4 0 then e else cview c S 5 r) ∧ _ = (if r = cview c S 4 0 then f else cview c S 6 r) ∧ _ = (if r = cview c S 4 0 then mlen e else cview c S 7 r) ∧ _ = (if r = cview c S 4 0 then mlen f else cview c S 8 r)
      rw [cv_4]
      by_cases x : r = c S 4
      · rw [if_pos x, if_pos x, if_pos x, if_pos x, x, hq, oQ 0 (by omega) (by omega), oQ 1 (by omega) (by omega), oQ 2 (by omega) (by omega), oQ 3 (by omega) (by omega), h0, h1, h2, h3]
        exact ⟨rfl, rfl, by omega, by omega⟩
      · have r2 : r < c S 4 := by omega
        have := (h.rl r0 (by omega)).1
        have := ds r r0 (by omega) x
        rw [if_neg x, if_neg x, if_neg x, if_neg x, o _ this 0 (by omega), o _ this 1 (by omega), o _ this 2 (by omega), o _ this 3 (by omega)]
        exact ⟨(cv_5 r0 r2).symm, (cv_6 r0 r2).symm, (cv_7 r0 r2).symm, (cv_8 r0 r2).symm⟩
    · exact (o S (by omega) 3 (by omega)).trans cv_9.symm
    · have s1 : s < cview c S 9 0 := s1
      rw [cv_9] at s1
      have := (h.sn s0 (by omega)).1
      rw [o (S + 2) (by omega) s (by omega), o _ (by omega) 0 (by omega), o _ (by omega) 2 (by omega), o _ (by omega) 3 (by omega)]
      exact ⟨(cv_10 s0 s1).symm, (cv_11 s0 s1).symm, (cv_13 s0 s1).symm⟩
    · have s1 : s < cview c S 9 0 := s1
      rw [cv_9] at s1
      have x2 : x < cview c S 11 s := x2
      rw [cv_11 s0 s1] at x2
      have := (h.sn s0 (by omega)).1
      rw [o (S + 2) (by omega) s (by omega), o _ (by omega) x (by omega)]
      exact (cv_12 s0 s1 x0 x1 x2).symm
    · exact (o S (by omega) 5 (by omega)).trans cv_14.symm
    · exact (o S (by omega) 6 (by omega)).trans cv_15.symm
end
