/-! The reference: the bases of a word. -/
/-- the bases of word i and the two rows for rules have changed -/
def BFq (c c' : zC) (i : Int) : Prop := MS c c' ∧ (∀ b, (b < 686 ∨ 691 < b) → ∀ k, c' b k = c b k) ∧ (∀ k, k ≠ i → c' 686 k = c 686 k) ∧ (∀ k, (k < 43 * i ∨ 43 * i + 43 ≤ k) → c' 687 k = c 687 k ∧ c' 688 k = c 688 k) ∧ ∀ k, (k < 430 * i ∨ 430 * i + 430 ≤ k) → c' 689 k = c 689 k
theorem BFq.rf (c : zC) (i : Int) : BFq c c i := ⟨MS.rf c, fun _ _ _ => rfl, fun _ _ => rfl, fun _ _ => ⟨rfl, rfl⟩, fun _ _ => rfl⟩
theorem BFq.tr {c c1 c2 : zC} {i : Int} (h : BFq c c1 i) (g : BFq c1 c2 i) : BFq c c2 i :=
  ⟨h.1.tr g.1, fun b hb k => (g.2.1 b hb k).trans (h.2.1 b hb k), fun k hk => (g.2.2.1 k hk).trans (h.2.2.1 k hk), fun k hk => ⟨(g.2.2.2.1 k hk).1.trans (h.2.2.2.1 k hk).1, (g.2.2.2.1 k hk).2.trans (h.2.2.2.1 k hk).2⟩, fun k hk => (g.2.2.2.2 k hk).trans (h.2.2.2.2 k hk)⟩
theorem BFm.q {c c' : zC} {i : Int} (h : BFm c c' i) : BFq c c' i := ⟨h.1, fun b hb k => h.2.1 b (by omega) k, h.2.2⟩
theorem BFq.T {c c' : zC} {i T : Int} (hT : T = 690 ∨ T = 691) (h : ∀ b, b ≠ T → ∀ k, c' b k = c b k) (ms : MS c c') : BFq c c' i := ⟨ms, fun b hb k => h b (by omega) k, fun k _ => h _ (by omega) k, fun k _ => ⟨h _ (by omega) k, h _ (by omega) k⟩, fun k _ => h _ (by omega) k⟩
theorem MBs.fq {c c' : zC} {i j : Int} {l : zBL} (h : MBs c j l) (g : BFq c c' i) (hij : j ≠ i) (hl : l.length ≤ 43) : MBs c' j l := by
  refine ⟨by rw [g.2.2.1 j hij]; exact h.1, fun b hb => ?_⟩
  obtain ⟨n, n1, n2, n3, n4, n5⟩ := h.2 b hb
  have e : ∀ k : Nat, k < n → c' 689 (10 * (43 * j + b) + k) = c 689 (10 * (43 * j + b) + k) := fun k hk => g.2.2.2.2 _ (by omega)
  exact ⟨n, n1, by rw [(g.2.2.2.1 _ (by omega)).2]; exact n2, by rw [(g.2.2.2.1 _ (by omega)).1]; exact n3, zlet_congr n4 e, by rw [zenc_congr e]; exact n5⟩
theorem ap_eq {f : Int → Int} {r : Nat} (h1 : (r : Int) < f 968) (w : Int) : apV (mview f 0) r w = mapp (mV f (969 + 9 * r)) (mV f (974 + 9 * r)) (f (969 + 9 * r)).toNat (f (974 + 9 * r)).toNat w := by
  unfold apV
  rw [mw_5 (by omega) h1, mw_6 (by omega) h1, mw_7 (by omega) h1, mw_8 (by omega) h1]
theorem mm2_cap (ap : Nat → Int → Int) {rn r q : Nat} (w x v : Int) (h : rn ≤ 6) (hr : r < rn) (hq : q ≤ rn) : (mrow ap (mm2 ap rn w r) x v q).length ≤ 43 := by
  obtain ⟨t, t1, t2, -⟩ := mrow_pre ap (mm2 ap rn w r) x v q
  have m := mm2_len ap rn w r
  rw [t1, List.length_append]
  have : r * rn ≤ 5 * 6 := Nat.mul_le_mul (by omega) h
  omega
section
variable {c : zC} {p i a w : Int} {n rn : Nat} {ap : Nat → Int → Int} (d : Nat)
/-- a rule is applied, whatever has been written in the meantime -/
theorem M_app {c1 : zC} {R T a1 : Int} {m r : Nat} (h : MO c) (ok : MOK (c 682) 0) (hap : ap = apV (mview (c 682) 0)) (fr : BFq c c1 i) (hr : (r : Int) < c 682 968) (hm : m ≤ 10) (hR : RowOK c1 R a1 m) (hw : zlet (c1 R) a1 m) (hT : T = 690 ∨ T = 691) (hRT : R ≠ T) : ∃ c2 v, zrun zTab (d + 2) 174 [681, (r : Int), R, a1, (m : Int), T] c1 = some (v, c2) ∧ (v = -1 ∧ ap r (zenc (c1 R) a1 m) = 0 ∨ ∃ m2 : Nat, (1 ≤ m2 ∧ m2 ≤ 10) ∧ v = m2 ∧ zlet (c2 T) 0 m2 ∧ zenc (c2 T) 0 m2 = ap r (zenc (c1 R) a1 m) ∧ ap r (zenc (c1 R) a1 m) ≠ 0) ∧ (∀ b, b ≠ T → ∀ k, c2 b k = c1 b k) ∧ MS c1 c2 := by
  have e : c1 682 = c 682 := funext (fr.2.1 682 (by decide))
  have n4 := ok.n4
  obtain ⟨c2, v, q1, q2, q3, q4⟩ := zm_applies (T := T) d (h.ms fr.1) (r := r) (by omega) (by rw [e]; exact ok.ru (by omega) hr) hm hR hw hT hRT
  rw [e, ← ap_eq hr, ← hap] at q2
  refine ⟨c2, v, q1, ?_, q3, q4⟩
  rcases q2 with q2 | ⟨m2, x1, x2, x3, x4, x5⟩
  · exact Or.inl q2
  · exact Or.inr ⟨m2, x1, x2, x3, x4, by rw [← x4]; exact x5⟩
theorem RowOK.r682 {c1 : zC} (h : MO c1) {a : Int} (h0 : 0 ≤ a) (h1 : a + n ≤ 14820) : RowOK c1 682 a n := ⟨⟨h0, by omega⟩, fun k k0 k1 => h1 |> fun _ => h.r682 (by omega) (by omega)⟩
theorem RowOK.rT {c1 : zC} {T : Int} {m : Nat} (h : MO c1) (hT : T = 690 ∨ T = 691) (hm : m ≤ 10) : RowOK c1 T 0 m := ⟨by decide, fun k k0 k1 => by rw [Int.zero_add]; exact h.rT hT k0 (by omega)⟩
theorem zm_bases_41 (h : MO c) (ok : MOK (c 682) 0) (hap : ap = apV (mview (c 682) 0)) (hrn : c 682 968 = (rn : Int)) (hi : 0 ≤ i ∧ i < 20) (hn : 1 ≤ n ∧ n ≤ 10) (ha : 0 ≤ a ∧ a + n ≤ 14820) (hw : zlet (c 682) a n) (e : zenc (c 682) a n = w) : ∀ (t F r : Nat) (c1 : zC), t + 1 ≤ F → r + t = rn → BFq c c1 i → MBs c1 i (mrow ap [(w, 0)] w 1 r) → ∃ c2, zex zc_X12_bases zk_X12_bases (zrun zTab (d + 3)) (F + 1) 41 [(2, 681), (3, 0), (0, i), (0, a), (0, (n : Int)), (0, (r : Int)), (3, 0), (3, 0), (3, 0)] [] c1 = zex zc_X12_bases zk_X12_bases (zrun zTab (d + 3)) (F - t) 96 [(2, 681), (3, 0), (0, i), (0, a), (0, (n : Int)), (0, 0), (3, 0), (3, 0), (3, 0)] [] c2 ∧ BFq c c2 i ∧ MBs c2 i (mrow ap [(w, 0)] w 1 rn) := by
  have n4 := ok.n4
  intro t
  induction t with
  | zero =>
    intro F r c1 hF hr fr hl
    have m1 := h.ms fr.1
    refine ⟨c1, ?_, fr, by rw [show rn = r by omega]; exact hl⟩
    rw [ze_X12_bases_41, if_pos m1.k, zm_rules (d + 2) m1, zbnd_some, fr.2.1 682 (by decide), hrn, if_neg (by omega)]
    rfl
  | succ t ih =>
    intro F r c1 hF hr fr hl
    obtain ⟨F, rfl⟩ : ∃ G, F = G + 1 := ⟨F - 1, by omega⟩
    have m1 := h.ms fr.1
    have e682 : c1 682 = c 682 := funext (fr.2.1 682 (by decide))
    obtain ⟨c2, v, q1, q2, q3, q4⟩ := M_app (d + 1) h ok hap fr (r := r) (by omega) hn.2 (RowOK.r682 (n := n) m1 ha.1 ha.2) (by rw [e682]; exact hw) (T := 690) (Or.inl rfl) (by decide)
    rw [e682, e] at q2
    have fr2 : BFq c c2 i := fr.tr (BFq.T (Or.inl rfl) q3 q4)
    have m2 := h.ms fr2.1
    have hl2 : MBs c2 i (mrow ap [(w, 0)] w 1 r) := by
      have := hl
      unfold MBs at this ⊢
      rw [funext (q3 686 (by decide)), funext (q3 687 (by decide)), funext (q3 688 (by decide)), funext (q3 689 (by decide))]
      exact this
    rw [ze_X12_bases_41, if_pos m1.k, zm_rules (d + 2) m1, zbnd_some, fr.2.1 682 (by decide), hrn, if_pos (by omega), if_pos m1.k, if_pos m1.k, if_pos m1.k, m1.f.1, m1.f.2.2.2.2.2.2.2.2.1, q1, zbnd_some]
    rcases q2 with ⟨rfl, q2⟩ | ⟨m, x1, rfl, x3, x4, x5⟩
    · obtain ⟨c3, z1, z2, z3⟩ := ih F (r + 1) c2 (by omega) (by omega) fr2 (by show MBs c2 i (madd (mrow ap [(w, 0)] w 1 r) (ap r w) 1); rw [q2]; exact hl2)
      rw [if_pos (by decide), zw_id' (by omega) (by omega), show (r : Int) + 1 = ((r + 1 : Nat) : Int) by omega, z1, show F - t = F + 1 - (t + 1) by omega]
      exact ⟨c3, rfl, z2, z3⟩
    · have cap : (madd (mrow ap [(w, 0)] w 1 r) (zenc (c2 690) 0 m) 1).length ≤ 43 := by
        obtain ⟨t1, t2, t3, -⟩ := madd_pre (mrow ap [(w, 0)] w 1 r) (zenc (c2 690) 0 m) 1
        obtain ⟨u1, u2, u3, -⟩ := mrow_pre ap [(w, 0)] w 1 r
        rw [t2, u2, List.length_append, List.length_append]
        have : ([(w, (0 : Int))] : zBL).length = 1 := rfl
        omega
      obtain ⟨c3, y1, y2, y3⟩ := zm_lays (d + 1) (v := 1) m2 hi hl2 x1 (RowOK.rT m2 (Or.inl rfl) x1.2) (by decide) x3 cap
      rw [x4] at y2
      obtain ⟨c4, z1, z2, z3⟩ := ih F (r + 1) c3 (by omega) (by omega) (fr2.tr y3.q) y2
      rw [if_neg (by omega), if_pos m2.k, if_pos m2.k, m2.f.2.2.2.2.2.2.2.2.1, y1, zbnd_some, zw_id' (by omega) (by omega), show (r : Int) + 1 = ((r + 1 : Nat) : Int) by omega, z1, show F - t = F + 1 - (t + 1) by omega]
      exact ⟨c4, rfl, z2, z3⟩
theorem zm_bases_127 (h : MO c) (ok : MOK (c 682) 0) (hap : ap = apV (mview (c 682) 0)) (hrn : c 682 968 = (rn : Int)) (hi : 0 ≤ i ∧ i < 20) (a' n' : Int) {r m : Nat} (hr : r < rn) {x : Int} (hm : 1 ≤ m ∧ m ≤ 10) : ∀ (t F q : Nat) (c1 : zC), t + 1 ≤ F → q + t = rn → BFq c c1 i → zlet (c1 690) 0 m → zenc (c1 690) 0 m = x → MBs c1 i (mrow ap (mm2 ap rn w r) x 2 q) → ∃ c2, zex zc_X12_bases zk_X12_bases (zrun zTab (d + 3)) (F + 1) 127 [(2, 681), (3, 0), (0, i), (0, a'), (0, n'), (0, (r : Int)), (0, (m : Int)), (0, (q : Int)), (3, 0)] [] c1 = zex zc_X12_bases zk_X12_bases (zrun zTab (d + 3)) (F - t) 96 [(2, 681), (3, 0), (0, i), (0, a'), (0, n'), (0, ((r + 1 : Nat) : Int)), (3, 0), (3, 0), (3, 0)] [] c2 ∧ BFq c c2 i ∧ MBs c2 i (mrow ap (mm2 ap rn w r) x 2 rn) := by
  have n4 := ok.n4
  intro t
  induction t with
  | zero =>
    intro F q c1 hF hq fr hx hx2 hl
    have m1 := h.ms fr.1
    refine ⟨c1, ?_, fr, by rw [show rn = q by omega] at hl ⊢; exact hl⟩
    rw [ze_X12_bases_127, if_pos m1.k, zm_rules (d + 2) m1, zbnd_some, fr.2.1 682 (by decide), hrn, if_neg (by omega), zw_id' (by omega) (by omega), show (r : Int) + 1 = ((r + 1 : Nat) : Int) by omega]
    rfl
  | succ t ih =>
    intro F q c1 hF hq fr hx hx2 hl
    obtain ⟨F, rfl⟩ : ∃ G, F = G + 1 := ⟨F - 1, by omega⟩
    have m1 := h.ms fr.1
    obtain ⟨c2, v, q1, q2, q3, q4⟩ := M_app (d + 1) h ok hap fr (r := q) (by omega) hm.2 (RowOK.rT m1 (Or.inl rfl) hm.2) hx (T := 691) (Or.inr rfl) (by decide)
    rw [hx2] at q2
    have fr2 : BFq c c2 i := fr.tr (BFq.T (Or.inr rfl) q3 q4)
    have m2 := h.ms fr2.1
    have hl2 : MBs c2 i (mrow ap (mm2 ap rn w r) x 2 q) := by
      have := hl
      unfold MBs at this ⊢
      rw [funext (q3 686 (by decide)), funext (q3 687 (by decide)), funext (q3 688 (by decide)), funext (q3 689 (by decide))]
      exact this
    have e690 : c2 690 = c1 690 := funext (q3 690 (by decide))
    rw [ze_X12_bases_127, if_pos m1.k, zm_rules (d + 2) m1, zbnd_some, fr.2.1 682 (by decide), hrn, if_pos (by omega), if_neg (by omega), if_pos m1.k, if_pos m1.k, if_pos m1.k, m1.f.2.2.2.2.2.2.2.2.1, m1.f.2.2.2.2.2.2.2.2.2.1, q1, zbnd_some]
    rcases q2 with ⟨rfl, q2⟩ | ⟨m3, x1, rfl, x3, x4, x5⟩
    · obtain ⟨c3, z1, z2, z3⟩ := ih F (q + 1) c2 (by omega) (by omega) fr2 (by rw [e690]; exact hx) (by rw [e690]; exact hx2) (by show MBs c2 i (madd (mrow ap (mm2 ap rn w r) x 2 q) (ap q x) 2); rw [q2]; exact hl2)
      rw [if_pos (by decide), zw_id' (by omega) (by omega), show (q : Int) + 1 = ((q + 1 : Nat) : Int) by omega, z1, show F - t = F + 1 - (t + 1) by omega]
      exact ⟨c3, rfl, z2, z3⟩
    · have cap : (madd (mrow ap (mm2 ap rn w r) x 2 q) (zenc (c2 691) 0 m3) 2).length ≤ 43 := by
        rw [x4]
        exact mm2_cap ap (q := q + 1) w x 2 (by omega) hr (by omega)
      obtain ⟨c3, y1, y2, y3⟩ := zm_lays (d + 1) (v := 2) m2 hi hl2 x1 (RowOK.rT m2 (Or.inr rfl) x1.2) (by decide) x3 cap
      rw [x4] at y2
      have e3 : c3 690 = c1 690 := (funext (y3.2.1 690 (by decide))).trans e690
      obtain ⟨c4, z1, z2, z3⟩ := ih F (q + 1) c3 (by omega) (by omega) (fr2.tr y3.q) (by rw [e3]; exact hx) (by rw [e3]; exact hx2) y2
      rw [if_neg (by omega), if_pos m2.k, if_pos m2.k, m2.f.2.2.2.2.2.2.2.2.2.1, y1, zbnd_some, zw_id' (by omega) (by omega), show (q : Int) + 1 = ((q + 1 : Nat) : Int) by omega, z1, show F - t = F + 1 - (t + 1) by omega]
      exact ⟨c4, rfl, z2, z3⟩
theorem zm_bases_96 (h : MO c) (ok : MOK (c 682) 0) (hap : ap = apV (mview (c 682) 0)) (hrn : c 682 968 = (rn : Int)) (hi : 0 ≤ i ∧ i < 20) (hn : 1 ≤ n ∧ n ≤ 10) (ha : 0 ≤ a ∧ a + n ≤ 14820) (hw : zlet (c 682) a n) (e : zenc (c 682) a n = w) : ∀ (t F r : Nat) (c1 : zC), 10 * t + 1 ≤ F → r + t = rn → BFq c c1 i → MBs c1 i (mm2 ap rn w r) → ∃ c2, zex zc_X12_bases zk_X12_bases (zrun zTab (d + 3)) F 96 [(2, 681), (3, 0), (0, i), (0, a), (0, (n : Int)), (0, (r : Int)), (3, 0), (3, 0), (3, 0)] [] c1 = some (0, c2) ∧ BFq c c2 i ∧ MBs c2 i (mbas ap rn w) := by
  have n4 := ok.n4
  intro t
  induction t with
  | zero =>
    intro F r c1 hF hr fr hl
    obtain ⟨F, rfl⟩ : ∃ G, F = G + 1 := ⟨F - 1, by omega⟩
    have m1 := h.ms fr.1
    refine ⟨c1, ?_, fr, by unfold mbas; rw [show rn = r by omega] at hl ⊢; exact hl⟩
    rw [ze_X12_bases_96, if_pos m1.k, zm_rules (d + 2) m1, zbnd_some, fr.2.1 682 (by decide), hrn, if_neg (by omega)]
  | succ t ih =>
    intro F r c1 hF hr fr hl
    obtain ⟨F, rfl⟩ : ∃ G, F = G + 1 + 1 := ⟨F - 2, by omega⟩
    have m1 := h.ms fr.1
    have e682 : c1 682 = c 682 := funext (fr.2.1 682 (by decide))
    obtain ⟨c2, v, q1, q2, q3, q4⟩ := M_app (d + 1) h ok hap fr (r := r) (by omega) hn.2 (RowOK.r682 (n := n) m1 ha.1 ha.2) (by rw [e682]; exact hw) (T := 690) (Or.inl rfl) (by decide)
    rw [e682, e] at q2
    have fr2 : BFq c c2 i := fr.tr (BFq.T (Or.inl rfl) q3 q4)
    have m2 := h.ms fr2.1
    have hl2 : MBs c2 i (mm2 ap rn w r) := by
      have := hl
      unfold MBs at this ⊢
      rw [funext (q3 686 (by decide)), funext (q3 687 (by decide)), funext (q3 688 (by decide)), funext (q3 689 (by decide))]
      exact this
    have st : mm2 ap rn w (r + 1) = if ap r w = 0 then mm2 ap rn w r else mrow ap (mm2 ap rn w r) (ap r w) 2 rn := rfl
    rw [ze_X12_bases_96, if_pos m1.k, zm_rules (d + 2) m1, zbnd_some, fr.2.1 682 (by decide), hrn, if_pos (by omega), if_pos m1.k, if_pos m1.k, if_pos m1.k, m1.f.1, m1.f.2.2.2.2.2.2.2.2.1, q1, zbnd_some]
    rcases q2 with ⟨rfl, q2⟩ | ⟨m, x1, rfl, x3, x4, x5⟩
    · rw [if_pos q2] at st
      obtain ⟨c3, z1, z2, z3⟩ := ih F (r + 1) c2 (by omega) (by omega) fr2 (by rw [st]; exact hl2)
      rw [ze_X12_bases_127, if_pos m2.k, zm_rules (d + 2) m2, zbnd_some, fr2.2.1 682 (by decide), hrn, if_pos (by omega), if_pos (by decide), zw_id' (by omega) (by omega), show (r : Int) + 1 = ((r + 1 : Nat) : Int) by omega, z1]
      exact ⟨c3, rfl, z2, z3⟩
    · rw [if_neg x5] at st
      obtain ⟨c3, y1, y2, y3⟩ := zm_bases_127 d (w := w) h ok hap hrn hi a n (r := r) (m := m) (by omega) x1 rn F 0 c2 (by omega) (by omega) fr2 x3 x4 hl2
      obtain ⟨c4, z1, z2, z3⟩ := ih (F - rn) (r + 1) c3 (by omega) (by omega) y2 (by rw [st]; exact y3)
      have y1 : zex zc_X12_bases zk_X12_bases (zrun zTab (d + 3)) (F + 1) 127 [(2, 681), (3, 0), (0, i), (0, a), (0, (n : Int)), (0, (r : Int)), (0, (m : Int)), (0, 0), (3, 0)] [] c2 = _ := y1
      rw [y1, z1]
      exact ⟨c4, rfl, z2, z3⟩
theorem zm_bases (h : MO c) (ok : MOK (c 682) 0) (hp : isP p) (hi : 0 ≤ i ∧ i < c 682 (242 * p)) : ∃ c', zrun zTab (d + 4) 177 [681, p, i] c = some (0, c') ∧ MBs c' i (mBL (mview (c 682) 0) p i) ∧ BFq c c' i := by
  have p0 := hp.1
  have p1 := hp.2
  have n4 := ok.n4
  have pg := ok.pg hp
  have i20 : i < 20 := by have := pg.1.2; omega
  obtain ⟨w1, w2, w3⟩ := (pg.2.2.1 i hi.1 hi.2).2
  obtain ⟨n, hn⟩ : ∃ n : Nat, c 682 (242 * p + 3 + 12 * i) = (n : Int) := ⟨(c 682 (242 * p + 3 + 12 * i)).toNat, by omega⟩
  obtain ⟨rn, hrn⟩ : ∃ rn : Nat, c 682 968 = (rn : Int) := ⟨(c 682 968).toNat, by omega⟩
  rw [hn] at w1 w2 w3
  rw [Int.toNat_natCast, show 242 * p + 3 + 12 * i + 1 = 242 * p + 2 + 12 * i + 2 by omega] at w3
  have ew : mview (c 682) 0 3 (20 * p + i) = zenc (c 682) (242 * p + 2 + 12 * i + 2) n := by
    rw [mw_3 hp hi.1 i20 hi.2]
    unfold mV
    rw [hn, Int.toNat_natCast, show 242 * p + 3 + 12 * i + 1 = 242 * p + 2 + 12 * i + 2 by omega]
  have ms0 : MS c (zup c 686 i 0) := (MS.rf _).up hi.1 (Or.inl (by decide))
  have m0 := h.ms ms0
  have fr0 : BFq c (zup c 686 i 0) i := ⟨ms0, fun b hb k => zup_ne (by omega), fun k hk => zup_ne (by omega), fun k hk => ⟨zup_ne (by omega), zup_ne (by omega)⟩, fun k hk => zup_ne (by omega)⟩
  have l0 : MBs (zup c 686 i 0) i [] := ⟨zup_eq ⟨rfl, rfl⟩, fun b hb => absurd hb (Nat.not_lt_zero b)⟩
  have e0 : zup c 686 i 0 682 = c 682 := funext (fr0.2.1 682 (by decide))
  have wne : zenc (c 682) (242 * p + 2 + 12 * i + 2) n ≠ 0 := by
    obtain ⟨m, rfl⟩ : ∃ m, n = m + 1 := ⟨n - 1, by omega⟩
    have := mwf_pos (zenc_wf w3); omega
  have md : madd [] (zenc (c 682) (242 * p + 2 + 12 * i + 2) n) 0 = [(zenc (c 682) (242 * p + 2 + 12 * i + 2) n, 0)] := by
    unfold madd
    rw [if_neg wne, if_neg (show ¬ mhas [] (zenc (c 682) (242 * p + 2 + 12 * i + 2) n) = true from fun x => Bool.noConfusion (show false = true from x))]
    rfl
  obtain ⟨c1, q1, q2, q3⟩ := zm_lays (d + 1) (v := 0) (R := 682) (a := 242 * p + 2 + 12 * i + 2) (n := n) m0 ⟨hi.1, i20⟩ l0 ⟨by omega, by omega⟩ (RowOK.r682 m0 (by omega) (by omega)) (by decide) (by rw [e0]; exact w3) (by rw [e0, md]; exact (by decide : 1 ≤ 43))
  rw [e0, md] at q2
  have fr1 := fr0.tr q3.q
  obtain ⟨c2, r1, r2, r3⟩ := zm_bases_41 d h ok rfl hrn ⟨hi.1, i20⟩ ⟨by omega, by omega⟩ ⟨by omega, by omega⟩ w3 rfl rn 19998 0 c1 (by omega) (by omega) fr1 q2
  obtain ⟨c3, s1, s2, s3⟩ := zm_bases_96 d h ok rfl hrn ⟨hi.1, i20⟩ ⟨by omega, by omega⟩ ⟨by omega, by omega⟩ w3 rfl rn (19998 - rn) 0 c2 (by omega) (by omega) r2 r3
  refine ⟨c3, ?_, ?_, s2⟩
  · rw [ze_X12_bases, zm_wordAt (d + 2) hp (by omega), zbnd_some, if_pos h.k, h.f.1, zadd_id (by omega) (by omega), zsub_id (by omega) (by omega), show 242 * p + 2 + 12 * i + 2 - 1 = 242 * p + 3 + 12 * i by omega, if_pos (h.r682 (by omega) (by omega)), if_pos h.k, h.f.2.2.2.2.1, if_pos (h.r686 hi.1 i20), if_pos m0.k, if_pos m0.k, m0.f.1, hn, q1, zbnd_some]
    have r1 : zex zc_X12_bases zk_X12_bases (zrun zTab (d + 3)) 19999 41 [(2, 681), (3, 0), (0, i), (0, 242 * p + 2 + 12 * i + 2), (0, (n : Int)), (0, 0), (3, 0), (3, 0), (3, 0)] [] c1 = _ := r1
    rw [r1]
    exact s1
  · unfold mBL
    rw [ew, show mview (c 682) 0 4 0 = (rn : Int) from hrn, Int.toNat_natCast]
    exact s3
end
