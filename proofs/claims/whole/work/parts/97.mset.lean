/-! The reference: a page, a rule, a sense is put into the present row; the calls page and rule. -/
section
variable {f0 g : Int → Int} {p n : Int}
theorem mset_pg {fs fw : Int → Int} (h : MOK f0 0) (hp : isP p) (o : ∀ k, (k < 242 * p ∨ 242 * p + 242 ≤ k ∨ k = 242 * p + 1) → g k = f0 k) (hn : g (242 * p) = n) (n0 : 0 ≤ n ∧ n ≤ 20) (hw : ∀ i, 0 ≤ i → i < n → (0 ≤ fs i ∧ fs i ≤ 3) ∧ g (242 * p + 2 + 12 * i) = fs i ∧ mWd g (242 * p + 3 + 12 * i) ∧ mV g (242 * p + 3 + 12 * i) = fw i) (hsrt : ∀ i j, 0 ≤ i → i ≤ j → j < n → fs i ≤ fs j) : MOK g 0 ∧ mview g 0 = uPg (mview f0 0) p n fs fw := by
  have p0 := hp.1
  have p1 := hp.2
  have n4 := h.n4
  have n9 := h.n9
  unfold uPg
  refine mput (fun q hq => ?_) ?_ (fun r r0 r1 => ?_) ?_ (fun s s0 s1 => ?_) ?_ ?_
  · have q0 := hq.1
    have q1 := hq.2
    show mPg0 g q ∧ g (242 * q) = (if q = p then n else mview f0 0 0 q) ∧ g (242 * q + 1) = mview f0 0 1 q ∧ ∀ i, 0 ≤ i → i < 20 → i < g (242 * q) → g (242 * q + 2 + 12 * i) = (if (20 * q + i) / 20 = p then fs ((20 * q + i) % 20) else mview f0 0 2 (20 * q + i)) ∧ mV g (242 * q + 3 + 12 * i) = (if (20 * q + i) / 20 = p then fw ((20 * q + i) % 20) else mview f0 0 3 (20 * q + i))
    by_cases e : q = p
    · subst e
      rw [if_pos rfl, mw_1 hp]
      have e1 := o (242 * q + 1) (by omega)
      refine ⟨⟨by rw [hn]; exact n0, by rw [e1]; exact (h.pg hp).2.1, fun i i0 i1 => ?_, fun i j i0 ij j1 => ?_⟩, hn, e1, fun i i0 i1 i2 => ?_⟩
      · rw [hn] at i1
        obtain ⟨a1, a2, a3, a4⟩ := hw i i0 i1
        rw [a2]; exact ⟨a1, a3⟩
      · rw [hn] at j1
        rw [(hw i i0 (by omega)).2.1, (hw j (by omega) j1).2.1]
        exact hsrt i j i0 ij j1
      · rw [hn] at i2
        rw [show (20 * q + i) / 20 = q by omega, show (20 * q + i) % 20 = i by omega, if_pos rfl, if_pos rfl]
        exact ⟨(hw i i0 i2).2.1, (hw i i0 i2).2.2.2⟩
    · have sm := mpg_same (g := g) h hq (fun k k0 k1 => o k (by omega))
      rw [if_neg e]
      refine ⟨sm.1, sm.2.1, sm.2.2.1, fun i i0 i1 i2 => ?_⟩
      rw [show (20 * q + i) / 20 = q by omega, if_neg e, if_neg e]
      exact sm.2.2.2 i i0 i1 i2
  · rw [o 968 (by omega)]; exact ⟨n4, rfl⟩
  · rw [o 968 (by omega)] at r1
    exact mru_same (r2 := r) h r0 r1 (fun j j0 j1 => o _ (by omega))
  · rw [o 1023 (by omega)]; exact ⟨n9, rfl⟩
  · rw [o 1023 (by omega)] at s1
    exact msn_same (s2 := s) h s0 s1 (fun j j0 j1 => o _ (by omega))
  · rw [o 1480 (by omega)]; exact ⟨h.2.2.2.1, rfl⟩
  · rw [o 1481 (by omega)]; exact ⟨h.2.2.2.2, rfl⟩
theorem mset_R {e r : Int} (h : MOK f0 0) (hn : f0 968 = n) (n6 : n < 6) (o : ∀ k, (k < 968 ∨ 968 < k ∧ k < 969 + 9 * n ∨ 969 + 9 * n + 9 ≤ k) → g k = f0 k) (h9 : g 968 = n + 1) (ru : mRuOK g (969 + 9 * n)) (he : mV g (969 + 9 * n) = e) (hr : mV g (974 + 9 * n) = r) : MOK g 0 ∧ mview g 0 = uAddR (mview f0 0) e r := by
  have n4 := h.n4
  have n9 := h.n9
  rw [hn] at n4
  unfold uAddR uRl
  have a4 : mview f0 0 4 0 = n := hn
  refine mput (fun q hq => ?_) ?_ (fun x x0 x1 => ?_) ?_ (fun s s0 s1 => ?_) ?_ ?_
  · exact mpg_same h hq (fun j j0 j1 => by have := hq.2; exact o j (by omega))
  · show (0 ≤ g 968 ∧ g 968 ≤ 6) ∧ g 968 = mview f0 0 4 0 + 1
    rw [a4, h9]; exact ⟨by omega, rfl⟩
  · show mRuOK g (969 + 9 * x) ∧ mV g (969 + 9 * x) = (if x = mview f0 0 4 0 then e else mview f0 0 5 x) ∧ mV g (974 + 9 * x) = (if x = mview f0 0 4 0 then r else mview f0 0 6 x) ∧ g (969 + 9 * x) = (if x = mview f0 0 4 0 then mlen e else mview f0 0 7 x) ∧ g (974 + 9 * x) = (if x = mview f0 0 4 0 then mlen r else mview f0 0 8 x)
    rw [h9] at x1
    rw [a4]
    by_cases y : x = n
    · subst y
      obtain ⟨⟨u1, u2, u3⟩, u4, u5, u6⟩ := id ru
      rw [show 969 + 9 * x + 5 = 974 + 9 * x by omega] at u4 u5 u6
      rw [show 969 + 9 * x + 6 = 974 + 9 * x + 1 by omega] at u6
      have w1 := zenc_wf u3
      have w2 := zenc_wf u6
      rw [if_pos rfl, if_pos rfl, if_pos rfl, if_pos rfl, ← he, ← hr]
      unfold mV
      rw [mlen_of w1 (by omega), mlen_of w2 (by omega), Int.toNat_of_nonneg (by omega), Int.toNat_of_nonneg (by omega)]
      exact ⟨ru, rfl, rfl, rfl, rfl⟩
    · rw [if_neg y, if_neg y, if_neg y, if_neg y]
      exact mru_same (r2 := x) h x0 (by omega) (fun j j0 j1 => o _ (by omega))
  · rw [o 1023 (by omega)]; exact ⟨n9, rfl⟩
  · rw [o 1023 (by omega)] at s1
    exact msn_same (s2 := s) h s0 s1 (fun j j0 j1 => o _ (by omega))
  · rw [o 1480 (by omega)]; exact ⟨h.2.2.2.1, rfl⟩
  · rw [o 1481 (by omega)]; exact ⟨h.2.2.2.2, rfl⟩
theorem mset_S {hd own : Int} {l : List Int} (h : MOK f0 0) (hn : f0 1023 = n) (n8 : n < 8) (o : ∀ k, (k < 1023 ∨ 1023 < k ∧ k < 1024 + 57 * n ∨ 1024 + 57 * n + 57 ≤ k) → g k = f0 k) (h9 : g 1023 = n + 1) (sn : mSnOK g (1024 + 57 * n)) (hh : mV g (1024 + 57 * n) = hd) (hl : g (1035 + 57 * n) = (l.length : Int)) (ho : g (1080 + 57 * n) = own) (hi : ∀ h, 0 ≤ h → h < (l.length : Int) → mV g (1036 + 57 * n + 11 * h) = l.getD h.toNat 0) : MOK g 0 ∧ mview g 0 = uAddS (mview f0 0) hd l own := by
  have n4 := h.n4
  have n9 := h.n9
  rw [hn] at n9
  unfold uAddS uSn
  have a9 : mview f0 0 9 0 = n := hn
  refine mput (fun q hq => ?_) ?_ (fun r r0 r1 => ?_) ?_ (fun x x0 x1 => ?_) ?_ ?_
  · exact mpg_same h hq (fun j j0 j1 => by have := hq.2; exact o j (by omega))
  · rw [o 968 (by omega)]; exact ⟨n4, rfl⟩
  · rw [o 968 (by omega)] at r1
    exact mru_same (r2 := r) h r0 r1 (fun j j0 j1 => o _ (by omega))
  · show (0 ≤ g 1023 ∧ g 1023 ≤ 8) ∧ g 1023 = mview f0 0 9 0 + 1
    rw [a9, h9]; exact ⟨by omega, rfl⟩
  · show mSnOK g (1024 + 57 * x) ∧ mV g (1024 + 57 * x) = (if x = mview f0 0 9 0 then hd else mview f0 0 10 x) ∧ g (1035 + 57 * x) = (if x = mview f0 0 9 0 then (l.length : Int) else mview f0 0 11 x) ∧ g (1080 + 57 * x) = (if x = mview f0 0 9 0 then own else mview f0 0 13 x) ∧ ∀ y, 0 ≤ y → y < 4 → y < g (1035 + 57 * x) → mV g (1036 + 57 * x + 11 * y) = (if (4 * x + y) / 4 = mview f0 0 9 0 then l.getD ((4 * x + y) % 4).toNat 0 else mview f0 0 12 (4 * ((4 * x + y) / 4) + (4 * x + y) % 4))
    rw [h9] at x1
    rw [a9]
    by_cases z : x = n
    · subst z
      rw [if_pos rfl, if_pos rfl, if_pos rfl]
      refine ⟨sn, hh, hl, ho, fun y y0 y1 y2 => ?_⟩
      rw [show (4 * x + y) / 4 = x by omega, show (4 * x + y) % 4 = y by omega, if_pos rfl]
      exact hi y y0 (by rw [← hl]; exact y2)
    · have q := msn_same (g := g) (s2 := x) h x0 (by omega) (fun j j0 j1 => o _ (by omega))
      rw [if_neg z, if_neg z, if_neg z]
      refine ⟨q.1, q.2.1, q.2.2.1, q.2.2.2.1, fun y y0 y1 y2 => ?_⟩
      rw [show (4 * x + y) / 4 = x by omega, show (4 * x + y) % 4 = y by omega, if_neg z]
      exact q.2.2.2.2 y y0 y1 y2
  · rw [o 1480 (by omega)]; exact ⟨h.2.2.2.1, rfl⟩
  · rw [o 1481 (by omega)]; exact ⟨h.2.2.2.2, rfl⟩
end
section
variable {c : zC} {σ : aS} {B : Int → Int} {n ca p : Int} {s : tS} (d : Nat)
theorem Pc.row {R k v : Int} (h : Pc c B n s) (hR : R = 684 ∨ R = 685) (hk : 0 ≤ k) : Pc (zup c R k v) B n s := by
  obtain ⟨g1, g2, ⟨g3, g4, g5, g6, g7⟩, g8⟩ := h
  have o : ∀ j, zup c R k v 681 j = c 681 j := fun j => zup_ne (by omega)
  exact ⟨g1.ms ((MS.rf c).up hk (Or.inl (by omega))), g2.same (o 4) (fun j => zup_ne (by omega)), ⟨by rw [o]; exact g3, fun q => by rw [o]; exact g4 q, fun q => by rw [o]; exact g5 q, by rw [o]; exact g6, g7⟩, g8⟩
theorem tEnd_same (h0 : 0 ≤ s.1) (h2 : s.2.1 = -1 → n ≤ s.1) : tEnd B n s = s := by
  unfold tEnd
  by_cases e : s.2.1 = -1
  · rw [if_pos ⟨e, by unfold tB; rw [if_neg (by have := h2 e; omega)]⟩]
  · rw [if_neg (fun q => e q.1)]
    unfold tFail
    rw [if_neg e]
theorem zm_page_59 (h : MO c) (hp : isP p) {m : Nat} (hm : c 681 10 = m) (hm2 : m ≤ 20) : ∀ (t F : Nat) (k : Int), t ≤ F → k + t = 12 * m → 0 ≤ k → zex zc_X12_page zk_X12_page (zrun zTab (d + 1)) (F + 1) 59 [(2, 681), (0, p), (0, k)] [] (zcpg c 682 (242 * p + 2) 684 0 k) = some ((m : Int), zcpg c 682 (242 * p + 2) 684 0 (12 * m)) := by
  have p0 := hp.1
  have p1 := hp.2
  intro t
  induction t with
  | zero =>
    intro F k hF hk hk0
    have mo := h.ms (zcpg_ms (T := 682) (P := 242 * p + 2) (R := 684) (a := 0) (m := k) (by omega) (by decide))
    have e10 : zcpg c 682 (242 * p + 2) 684 0 k 681 10 = m := by rw [zcpg_o (by omega)]; exact hm
    rw [ze_X12_page_59, if_pos mo.k, e10, zmul_id (by omega) (by omega), if_neg (by omega), if_pos mo.k, show k = 12 * (m : Int) by omega]
  | succ t ih =>
    intro F k hF hk hk0
    obtain ⟨F, rfl⟩ : ∃ G, F = G + 1 := ⟨F - 1, by omega⟩
    have mo := h.ms (zcpg_ms (T := 682) (P := 242 * p + 2) (R := 684) (a := 0) (m := k) (by omega) (by decide))
    have e10 : zcpg c 682 (242 * p + 2) 684 0 k 681 10 = m := by rw [zcpg_o (by omega)]; exact hm
    have e684 : zcpg c 682 (242 * p + 2) 684 0 k 684 k = c 684 (0 + k) := by rw [zcpg_o (by omega), Int.zero_add]
    rw [ze_X12_page_59, if_pos mo.k, e10, zmul_id (by omega) (by omega), if_pos (by omega), if_pos mo.k, zm_wordAt d hp (by omega), zbnd_some, if_pos mo.k, mo.f.2.2.1, mo.f.1, if_pos (mo.r684 (by omega) (by omega)), show 242 * p + 2 + 12 * 0 = 242 * p + 2 by omega, zadd_id (by omega) (by omega), if_pos (mo.r682 (by omega) (by omega)), e684, zcpg_up hk0, zw_id' (by omega) (by omega)]
    exact ih F (k + 1) (by omega) (by omega) (by omega)
theorem M_page (h : RM c σ) : MC c (zrun zTab (d + 40) 167 [681, p] c) (aPage σ p) := by
  rw [ze_X12_page, zm_isPage, zbnd_some]
  unfold aPage
  by_cases hp : isP p
  · have p0 := hp.1
    have p1 := hp.2
    obtain ⟨c1, q1, q2, q3, q4⟩ := h.begins (d + 38)
    have n80 := q2.2.1.2.1
    rw [if_pos hp, if_neg (by decide), if_neg (show ¬ ¬ isP p from fun q => q hp), if_pos h.1.k, q1, zbnd_some, if_pos q2.1.k, q2.2.1.1]
    -- behind the reading
    have fin : ∀ (F : Nat) (c2 : zC), Pc c2 σ.2.2.2.1.2.1 σ.2.2.2.1.1 (tPag σ.2.2.2.1.2.1 σ.2.2.2.1.1 σ.2.2.2.1.2.2).2 → PFw c c2 → ((tPag σ.2.2.2.1.2.1 σ.2.2.2.1.1 σ.2.2.2.1.2.2).2.2.1 = -1 → MLs c2 (tPag σ.2.2.2.1.2.1 σ.2.2.2.1.1 σ.2.2.2.1.2.2).1 ∧ Srt (tPag σ.2.2.2.1.2.1 σ.2.2.2.1.1 σ.2.2.2.1.2.2).1 3 ∧ σ.2.2.2.1.1 ≤ (tPag σ.2.2.2.1.2.1 σ.2.2.2.1.1 σ.2.2.2.1.2.2).2.1) → tG σ.2.2.2.1.1 σ.2.2.2.1.2.2 (tPag σ.2.2.2.1.2.1 σ.2.2.2.1.1 σ.2.2.2.1.2.2).2 →
        MC c (zex zc_X12_page zk_X12_page (zrun zTab (d + 39)) (F + 400) 24 [(2, 681), (0, p), (3, 0)] [] c2) (if (tPag σ.2.2.2.1.2.1 σ.2.2.2.1.1 σ.2.2.2.1.2.2).2.2.1 = -1 then (((tPag σ.2.2.2.1.2.1 σ.2.2.2.1.1 σ.2.2.2.1.2.2).1.length : Int), aPut (aRd σ (tPag σ.2.2.2.1.2.1 σ.2.2.2.1.1 σ.2.2.2.1.2.2).2) (uPage σ.1 p (tPag σ.2.2.2.1.2.1 σ.2.2.2.1.1 σ.2.2.2.1.2.2).1)) else (zsub (-100) ((tPag σ.2.2.2.1.2.1 σ.2.2.2.1.1 σ.2.2.2.1.2.2).2.2.1), aRd σ (tPag σ.2.2.2.1.2.1 σ.2.2.2.1.1 σ.2.2.2.1.2.2).2)) := fun F c2 hc fr hl tg => by
      generalize tPag σ.2.2.2.1.2.1 σ.2.2.2.1.1 σ.2.2.2.1.2.2 = W at hc hl tg ⊢
      obtain ⟨l, s⟩ := W
      dsimp only at hc hl tg ⊢
      have te : tEnd σ.2.2.2.1.2.1 σ.2.2.2.1.1 s = s := tEnd_same hc.2.2.2.1 (fun q => (hl q).2.2)
      obtain ⟨c3, u1, u2, u3, u4, u5, u6, u7⟩ := hc.isWrong (d + 37)
      rw [te] at u1 u6 u7
      have hR : RM c3 (aRd σ s) := RM.ends (c1 := c) h (fr.1.tr u2) (fun k hk => by rw [u4 k (by omega), fr.2.2 k (by omega)]) (fun k => by rw [u3 682 (by decide), fr.2.1 682 (by decide) (by decide)]) u5 (by rw [u7, fr.2.2 8 (by omega)]) tg.2
      have lo3 : zlo c c3 := fun b hb k => by rw [u3 b (by omega), fr.2.1 b (by omega) (by omega)]
      rw [show F + 400 = F + 399 + 1 from rfl, ze_X12_page_24, if_pos hc.1.k, u1, zbnd_some]
      by_cases e : s.2.1 = -1
      · obtain ⟨⟨l1, l2, l3⟩, l4, -⟩ := hl e
        obtain ⟨c4, r1, r2, r3, r4, r5, r6⟩ := M_keeps (d + 37) hR
        have m4 := r2.1
        have e10 : c4 681 10 = (l.length : Int) := by rw [r5 10 (by decide), u4 10 (by omega)]; exact l1
        have ms5 : MS c4 (zup c4 682 (242 * p) (l.length : Int)) := (MS.rf c4).up (by omega) (Or.inl (by decide))
        have m5 := m4.ms ms5
        have run := zm_page_59 (d + 38) m5 hp (m := l.length) (by rw [zup_ne (by omega)]; exact e10) l2 (12 * l.length) (F + 397) 0 (by omega) (by omega) (by omega)
        rw [zcpg_0] at run
        have e684 : ∀ k, c4 684 k = c2 684 k := fun k => by rw [r4 684 (by decide) (by decide), u3 684 (by decide)]
        have o : ∀ k, (k < 242 * p ∨ 242 * p + 242 ≤ k ∨ k = 242 * p + 1) → zcpg (zup c4 682 (242 * p) (l.length : Int)) 682 (242 * p + 2) 684 0 (12 * l.length) 682 k = c4 682 k := fun k hk => by rw [zcpg_o (by omega), zup_ne (by omega)]
        have oi : ∀ k, 0 ≤ k → k < 12 * (l.length : Int) → zcpg (zup c4 682 (242 * p) (l.length : Int)) 682 (242 * p + 2) 684 0 (12 * l.length) 682 (242 * p + 2 + k) = c2 684 k := fun k k0 k1 => by rw [zcpg_i k0 k1, Int.zero_add, zup_ne (by omega), e684]
        have pg := mset_pg (f0 := c4 682) (g := zcpg (zup c4 682 (242 * p) (l.length : Int)) 682 (242 * p + 2) 684 0 (12 * l.length) 682) (n := (l.length : Int)) (fs := fun i => (l.getD i.toNat (0, 0)).2) (fw := fun i => (l.getD i.toNat (0, 0)).1) r2.ok.1 hp o (by rw [zcpg_o (by omega), zup_eq ⟨rfl, rfl⟩]) (by omega) (fun i i0 i1 => by
          obtain ⟨j, rfl⟩ : ∃ j : Nat, i = (j : Int) := ⟨i.toNat, by omega⟩
          obtain ⟨a1, a2, a3⟩ := l3 j (by omega)
          have b1 := l4.2 j (by omega)
          have m := a2.eq (g := zcpg (zup c4 682 (242 * p) (l.length : Int)) 682 (242 * p + 2) 684 0 (12 * l.length) 682) (b := 242 * p + 3 + 12 * (j : Int)) (fun k k0 k1 => by
            rw [show 242 * p + 3 + 12 * (j : Int) + k = 242 * p + 2 + (12 * (j : Int) + 1 + k) by omega]
            exact oi _ (by omega) (by omega))
          show (0 ≤ (l.getD ((j : Int)).toNat (0, 0)).2 ∧ (l.getD ((j : Int)).toNat (0, 0)).2 ≤ 3) ∧ _ = (l.getD ((j : Int)).toNat (0, 0)).2 ∧ _ ∧ _ = (l.getD ((j : Int)).toNat (0, 0)).1
          rw [Int.toNat_natCast]
          exact ⟨b1, by rw [oi _ (by omega) (by omega)]; exact a1, m.1, m.2.trans a3⟩) (fun i j i0 ij j1 => by
          have := l4.1 i.toNat j.toNat (by omega) (by omega)
          exact this)
        rw [r2.ok.2] at pg
        have fin2 : RM (zcpg (zup c4 682 (242 * p) (l.length : Int)) 682 (242 * p + 2) 684 0 (12 * l.length)) (uPage σ.1 p l, (aPut (aRd σ s) σ.1).2) := RM.st r2 (ms5.tr (zcpg_ms (by omega) (by decide))) (fun k hk => by rw [zcpg_o (by omega), zup_ne (by omega)]) (fun k hk => by rw [zcpg_o (by omega), zup_ne (by omega)]) (fun k => by rw [zcpg_o (by omega), zup_ne (by omega)]) pg.1 pg.2
        rw [if_pos e, if_pos rfl, if_pos hR.1.k, r1, zbnd_some, if_pos m4.k, if_pos m4.k, m4.f.1, zmul_id (by omega) (by omega), if_pos (m4.r682 (by omega) (by omega)), e10, if_pos e, show F + 399 = F + 397 + 1 + 1 from rfl]
        have run2 : zex zc_X12_page zk_X12_page (zrun zTab (d + 39)) (F + 397 + 1 + 1) 59 [(2, 681), (0, p), (0, 0)] [] (zup c4 682 (242 * p) (l.length : Int)) = some ((l.length : Int), zcpg (zup c4 682 (242 * p) (l.length : Int)) 682 (242 * p + 2) 684 0 (12 * l.length)) := by
          have := zm_page_59 (d + 38) m5 hp (m := l.length) (by rw [zup_ne (by omega)]; exact e10) l2 (12 * l.length) (F + 398) 0 (by omega) (by omega) (by omega)
          rw [zcpg_0] at this
          exact this
        rw [run2]
        exact MC.of rfl fin2 ((lo3.tr (fun b hb k => r4 b (by omega) (by omega) k)).tr (fun b hb k => by rw [zcpg_o (by omega), zup_ne (by omega)]))
      · rw [if_neg e, if_neg (by decide), if_pos hR.1.k, u6, if_neg e]
        exact MC.of rfl hR lo3
    by_cases x : σ.2.2.2.1.1 ≤ 0
    · have ep : tPag σ.2.2.2.1.2.1 σ.2.2.2.1.1 σ.2.2.2.1.2.2 = ([], (0, -1, σ.2.2.2.1.2.2)) := if_pos x
      rw [if_pos x]
      exact fin 19599 c1 (by rw [ep]; exact q2) q4 (fun _ => by rw [ep]; exact ⟨q3, Srt_nil 3, x⟩) (by rw [ep]; exact tG.start n80.1)
    · have ep : tPag σ.2.2.2.1.2.1 σ.2.2.2.1.1 σ.2.2.2.1.2.2 = tSec σ.2.2.2.1.2.1 σ.2.2.2.1.1 80 0 [] (0, -1, σ.2.2.2.1.2.2) := if_neg x
      obtain ⟨c2, r1, r2, r3, r4⟩ := q2.readsPage (d + 32) q3
      rw [if_neg x, if_pos q2.1.k, r1, zbnd_some]
      exact fin 19599 c2 (by rw [ep]; exact r2) (q4.tr r3) (fun q => by rw [ep] at q ⊢; exact r4 q) (by rw [ep]; exact (tG.start n80.1).sec 80 0 [] _)
  · rw [if_neg hp, if_pos rfl, if_pos (show ¬ isP p from hp)]
    exact MC.of rfl h (zlo.rf c)
end
