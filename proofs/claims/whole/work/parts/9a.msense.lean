/-! The reference: the call sense. -/
def MHd (c : zC) (w : Int) : Prop := mWd (c 685) 0 ∧ mV (c 685) 0 = w
theorem MHd.h {c c' : zC} {w : Int} (h : MHd c w) (g : ∀ k, k < 11 → c' 685 k = c 685 k) : MHd c' w := by
  have m := h.1.eq (g := c' 685) (b := 0) (fun k k0 k1 => g (0 + k) (by omega))
  exact ⟨m.1, m.2.trans h.2⟩
/-- what may change up to the end of a reading -/
def FE (c c' : zC) : Prop := MS c c' ∧ (∀ b, b ≠ 681 → b ≠ 685 → ∀ k, c' b k = c b k) ∧ ∀ k, (k < 4 ∨ 8 < k) → c' 681 k = c 681 k
theorem FH.e {c c' : zC} (h : FH c c') : FE c c' := ⟨h.1, h.2.1, fun k hk => h.2.2.1 k (by omega)⟩
theorem FE.tr {c c1 c2 : zC} (h : FE c c1) (g : FE c1 c2) : FE c c2 := ⟨h.1.tr g.1, fun b b1 b2 k => (g.2.1 b b1 b2 k).trans (h.2.1 b b1 b2 k), fun k hk => (g.2.2 k hk).trans (h.2.2 k hk)⟩
section
variable {c : zC} {B : Int → Int} {n ca : Int} {s : tS} (d : Nat)
theorem Pc.senseEnd {s5 : tS} (h : Pc c B n s) (e5 : tEnd B n s = s5) (F : Nat) : ∃ c9 : zC, zbnd (zrun zTab (d + 2) 164 [681] c) (fun v3 c4 =>
      if v3 = 0 then
        if c4 681 (-1) = 12 then
          zbnd (zrun zTab (d + 2) 140 [681] c4) (fun _ c6 => zex zc_X12_sense zk_X12_sense (zrun zTab (d + 2)) F 230 [(2, 681), (3, 0), (0, 0)] [] c6)
        else none
      else
        if c4 681 (-1) = 12 then some (zsub (-100) (c4 681 6), c4) else none) = (if s5.2.1 = -1 then zbnd (zrun zTab (d + 2) 140 [681] c9) (fun _ c6 => zex zc_X12_sense zk_X12_sense (zrun zTab (d + 2)) F 230 [(2, 681), (3, 0), (0, 0)] [] c6) else some (zsub (-100) s5.2.1, c9)) ∧ FE c c9 ∧ c9 681 4 = 0 ∧ c9 681 8 = (if s5.2.1 = -1 then c 681 8 else s5.2.2) ∧ ∀ k, c9 685 k = c 685 k := by
  obtain ⟨c9, w1, w2, w3, w4, w5, w6, w7⟩ := h.isWrong d
  have m9 := h.1.ms w2
  rw [e5] at w1 w6 w7
  refine ⟨c9, ?_, ⟨w2, fun b b1 _ k => w3 b b1 k, w4⟩, w5, w7, w3 685 (by decide)⟩
  rw [w1, zbnd_some]
  by_cases e : s5.2.1 = -1
  · rw [if_pos e, if_pos rfl, if_pos m9.k, if_pos e]
  · rw [if_neg e, if_neg (by decide), if_pos m9.k, w6, if_neg e]
/-- the own page is taken; where something is wrong, nothing counts -/
theorem Pc.senseOwn {s4 s5 : tS} {v : Int} (h : Pc c B n s) (h5 : c 681 5 ≤ 80) (hs : s.2.1 = -1 ∧ s.1 < n ∧ s4 = (s.1 + 1, s.2) ∧ v = tB B n s.1 - 48 ∨ s.2.1 ≠ -1 ∧ s4 = s) (e5 : tEnd B n s4 = s5) (F : Nat) : ∃ c9 : zC, zex zc_X12_sense zk_X12_sense (zrun zTab (d + 2)) (F + 1) 185 [(2, 681), (3, 0), (3, 0)] [] c = (if s5.2.1 = -1 then zbnd (zrun zTab (d + 2) 140 [681] c9) (fun _ c6 => zex zc_X12_sense zk_X12_sense (zrun zTab (d + 2)) F 230 [(2, 681), (3, 0), (0, 0)] [] c6) else some (zsub (-100) s5.2.1, c9)) ∧ FE c c9 ∧ c9 681 4 = 0 ∧ c9 681 8 = (if s5.2.1 = -1 then c 681 8 else s5.2.2) ∧ (∀ k, k ≠ 56 → c9 685 k = c 685 k) ∧ (s.2.1 = -1 → c9 685 56 = v) := by
  have mo := h.1
  have h1 : Pc (zup c 685 56 (zsub (hv2 c) 48)) B n s := h.row (Or.inr rfl) (by decide)
  have e51 : zup c 685 56 (zsub (hv2 c) 48) 681 5 = c 681 5 := zup_ne (by omega)
  have p5 := h.2.2.1.2.2.2.1
  have h2 : Pc (zup (zup c 685 56 (zsub (hv2 c) 48)) 681 5 (c 681 5 + 1)) B n s4 := by
    rcases hs with ⟨a1, a2, a3, -⟩ | ⟨a1, a2⟩
    · have := (h1.step a1 a2).1
      rw [e51] at this
      rw [a3]; exact this
    · rw [a2]
      obtain ⟨g1, g2, ⟨g3, g4, g5, g6, g7⟩, g8⟩ := h1
      have ms : MS (zup c 685 56 (zsub (hv2 c) 48)) (zup (zup c 685 56 (zsub (hv2 c) 48)) 681 5 (c 681 5 + 1)) := (MS.rf _).up (by decide) (Or.inr (by decide))
      exact ⟨g1.ms ms, g2.same (zup_ne (by omega)) (fun k => zup_ne (by omega)), ⟨by rw [zup_ne (by omega)]; exact g3, fun q => absurd q a1, fun q => by rw [zup_ne (by omega)]; exact g5 q, by rw [zup_eq ⟨rfl, rfl⟩]; omega, g7⟩, g8⟩
  obtain ⟨c9, w1, w2, w3, w4, w5⟩ := h2.senseEnd d e5 F
  have e8 : zup (zup c 685 56 (zsub (hv2 c) 48)) 681 5 (c 681 5 + 1) 681 8 = c 681 8 := by rw [zup_ne (by omega), zup_ne (by omega)]
  rw [e8] at w4
  have fe : FE c (zup (zup c 685 56 (zsub (hv2 c) 48)) 681 5 (c 681 5 + 1)) := ⟨((MS.rf c).up (by decide) (Or.inl (by decide))).up (by decide) (Or.inr (by decide)), fun b b1 b2 k => by rw [zup_ne (by omega), zup_ne (by omega)], fun k hk => by rw [zup_ne (by omega), zup_ne (by omega)]⟩
  refine ⟨c9, ?_, fe.tr w2, w3, w4, fun k hk => by rw [w5, zup_ne (by omega), zup_ne (by omega)], fun q => ?_⟩
  · rw [ze_X12_sense_185, if_pos mo.k, if_pos mo.k, h.here (d + 1), zbnd_some, mo.f.2.2.2.1, if_pos (mo.r685 (by decide) (by decide)), if_pos h1.1.k, if_pos h1.1.k, e51, zadd_id (by omega) (by omega), if_pos h2.1.k]
    exact w1
  · rw [w5, zup_ne (by omega), zup_eq ⟨rfl, rfl⟩]
    rcases hs with ⟨a1, a2, a3, a4⟩ | ⟨a1, a2⟩
    · have := h.2.1.2.2 s.1 h.2.2.2.1 a2
      have tb : tB B n s.1 = B s.1 := by unfold tB; rw [if_pos ⟨h.2.2.2.1, a2⟩]
      rw [h.hv a1, a4, zsub_id (by omega) (by omega)]
    · exact absurd q a1
theorem Pc.senseRead {s2 s5 : tS} {W1 W4 : Int × tS} {W3 : List Int × tS} (h : Pc c B n s) (es : s.2.1 = -1) (t0 : tG n ca s) (e1 : tWrd B n True s = W1) (e2 : tDem B n 58 W1.2 = s2) (e3 : (if tAt B n s2 then tHin B n 5 [] s2 else ([], s2)) = W3) (e4 : (if tCm B n 64 W3.2 then tOwn B n (-5) W3.2 else (-5, W3.2)) = W4) (e5 : tEnd B n W4.2 = s5) (z11 : c 685 11 = 0) (F : Nat) (hF : 100 ≤ F) : ∃ (c9 : zC) (F' : Nat), 60 ≤ F' ∧ zex zc_X12_sense zk_X12_sense (zrun zTab (d + 10)) (F + 1) 18 [(2, 681), (0, 57), (3, 0)] [] c = (if s5.2.1 = -1 then (zbnd (zrun zTab (d + 10) 140 [681] c9) (fun _ c10 => zex zc_X12_sense zk_X12_sense (zrun zTab (d + 10)) F' 230 [(2, 681), (3, 0), (0, 0)] [] c10)) else some (zsub (-100) s5.2.1, c9)) ∧ FE c c9 ∧ c9 681 4 = 0 ∧ c9 681 8 = (if s5.2.1 = -1 then c 681 8 else s5.2.2) ∧ tK ca s5 ∧ (s5.2.1 = -1 → MHd c9 W1.1 ∧ c9 685 11 = (W3.1.length : Int) ∧ W3.1.length ≤ 4 ∧ (∀ i : Nat, i < W3.1.length → mWd (c9 685) (12 + 11 * i) ∧ mV (c9 685) (12 + 11 * i) = W3.1.getD i 0) ∧ c9 685 56 = W4.1 ∧ (W4.1 = -5 ∨ 0 ≤ W4.1 ∧ W4.1 ≤ 3)) := by
  have mo := h.1
  have h1 : Pc (zup c 685 56 (-5)) B n s := h.row (Or.inr rfl) (by decide)
  obtain ⟨c2, q1, q2, q3, q4⟩ := h1.word (d + 5) (R := 685) (a := 0) (Or.inr rfl) (by decide) (by decide)
  have tg1 : tG n ca W1.2 := by rw [← e1]; exact t0.wrd
  rw [e1] at q2 q4
  obtain ⟨c4, r1, r2, r3⟩ := q2.wants (d + 7) (v := 58) (by decide)
  have tg2 := tg1.dem (B := B) (v := 58) (by decide)
  rw [e2] at r2 tg2
  have ok1 : s2.2.1 = -1 → W1.2.2.1 = -1 := fun q => by rw [← e2] at q; exact tDem_1 q2.2.2.1.2.2.2.2 tg1.1.1 q
  have hd4 : s2.2.1 = -1 → MHd c4 W1.1 := fun q => by
    have a := ok1 q
    rw [← e1] at a
    obtain ⟨v1, -, -⟩ := tWrd_adv h.2.2.2 (Or.inl es) a
    have e : c4 685 = c2 685 := funext (r3.2.1 685 (by decide))
    have := q4 v1
    unfold MHd
    rw [e]; exact this
  have hm4 : MHs c4 [] := by
    have e : c4 685 = c2 685 := funext (r3.2.1 685 (by decide))
    unfold MHs
    rw [e]
    refine ⟨?_, by decide, ?_, fun i hi => absurd hi (Nat.not_lt_zero i)⟩
    · rw [q3.2.2.2 11 (by decide), zup_ne (by omega)]; exact z11
    · rw [q3.2.2.2 56 (by decide), zup_eq ⟨rfl, rfl⟩]
  have fe4 : FE c c4 := by
    have a : FE c (zup c 685 56 (-5)) := ⟨(MS.rf c).up (by decide) (Or.inl (by decide)), fun b b1 b2 k => zup_ne (by omega), fun k hk => zup_ne (by omega)⟩
    have b : FE (zup c 685 56 (-5)) c2 := ⟨q3.1, q3.2.1, fun k hk => q3.2.2.1 k (by omega)⟩
    exact (a.tr b).tr r3.h.e
  have e84 : c4 681 8 = c 681 8 := by rw [r3.2.2 8 (by decide), q3.2.2.1 8 (by decide), zup_ne (by omega)]
  -- the hints
  have hin : ∃ (c5 : zC) (F5 : Nat), (if s2.2.1 = -1 then (if tAt B n s2 then zex zc_X12_sense zk_X12_sense (zrun zTab (d + 10)) F 81 [(2, 681), (0, 1), (3, 0)] [] c4 else zex zc_X12_sense zk_X12_sense (zrun zTab (d + 10)) F 81 [(2, 681), (0, 0), (3, 0)] [] c4) else zex zc_X12_sense zk_X12_sense (zrun zTab (d + 10)) F 81 [(2, 681), (0, 0), (3, 0)] [] c4) = zex zc_X12_sense zk_X12_sense (zrun zTab (d + 10)) (F5 + 1) 81 [(2, 681), (0, 0), (3, 0)] [] c5 ∧ F ≤ F5 + 12 ∧ Pc c5 B n W3.2 ∧ FH c4 c5 ∧ (W3.2.2.1 = -1 → MHs c5 W3.1 ∧ s2.2.1 = -1) ∧ tG n ca W3.2 := by
    obtain ⟨F, rfl⟩ : ∃ G, F = G + 1 := ⟨F - 1, by omega⟩
    by_cases x : tAt B n s2
    · rw [if_pos x.1, if_pos x]
      rw [if_pos x] at e3
      obtain ⟨c5, F5, u1, u2, u3, u4, u5⟩ := Pc.hint_l (d + 4) 5 F [] s2 c4 (by omega) rfl (by decide) r2 x.1 hm4
      rw [e3] at u3 u5
      exact ⟨c5, F5, u1, by omega, u3, u4, fun q => ⟨u5 q, x.1⟩, by rw [← e3]; exact tG.hin 5 [] s2 tg2⟩
    · rw [if_neg x] at e3
      subst e3
      refine ⟨c4, F, ?_, by omega, r2, FH.rf c4, fun q => ⟨hm4, q⟩, tg2⟩
      by_cases y : s2.2.1 = -1
      · rw [if_pos y, if_neg x]
      · rw [if_neg y]
  obtain ⟨c5, F5, u1, u2, u3, u4, u5, tg3⟩ := hin
  obtain ⟨c6, v1, v2, v3⟩ := u3.isNext (d + 8) (v := 64) (by decide)
  have hm6 : W3.2.2.1 = -1 → MHs c6 W3.1 := fun q => (u5 q).1.p0 v3
  have fe6 : FE c c6 := (fe4.tr u4.e).tr v3.h.e
  have e86 : c6 681 8 = c 681 8 := by rw [v3.2.2 8 (by decide), u4.2.2.1 8 (by decide), e84]
  have hd6 : W3.2.2.1 = -1 → MHd c6 W1.1 := fun q => ((hd4 (u5 q).2).h u4.2.2.2).h (fun k _ => v3.2.1 685 (by decide) k)
  have tg5 : tG n ca s5 := by
    rw [← e5]
    refine tG.tend ?_
    rw [← e4]
    split
    · exact tg3.own
    · exact tg3
  obtain ⟨F5, rfl⟩ : ∃ G, F5 = G + 1 := ⟨F5 - 1, by omega⟩
  -- the program as far as the end
  have run : zex zc_X12_sense zk_X12_sense (zrun zTab (d + 10)) (F + 1) 18 [(2, 681), (0, 57), (3, 0)] [] c = zex zc_X12_sense zk_X12_sense (zrun zTab (d + 10)) (F5 + 1 + 1) 81 [(2, 681), (0, 0), (3, 0)] [] c5 := by
    rw [ze_X12_sense_18, if_neg (by decide), if_pos mo.k, mo.f.2.2.2.1, if_pos (mo.r685 (by decide) (by decide)), if_pos h1.1.k, if_pos h1.1.k, h1.1.f.2.2.2.1, q1, zbnd_some, if_pos q2.1.k, r1, zbnd_some, if_pos r2.1.k, ← u1]
    by_cases y : s2.2.1 = -1
    · rw [if_pos (r2.neg.mpr y), if_pos r2.1.k, r2.isLetter (d + 8), zbnd_some, if_pos y]
      by_cases x : tAt B n s2
      · rw [if_pos ((r2.at y).mpr x), if_neg (by decide), if_pos x]
      · rw [if_neg (fun q => x ((r2.at y).mp q)), if_pos rfl, if_neg x]
    · rw [if_neg (fun q => y (r2.neg.mp q)), if_neg y]
  rw [run, ze_X12_sense_81, if_pos rfl, if_pos u3.1.k, v1, zbnd_some]
  by_cases z : tCm B n 64 W3.2
  · rw [if_pos z] at v2 e4
    have zz : W3.2.2.1 = -1 := z.1
    obtain ⟨m1, m2, m3, m4⟩ := hm6 zz
    have hv6 := v2.hv zz
    have n80 := v2.2.1.2.1
    have ti6 : W3.2.1 + 1 ≤ n := v2.2.2.2.2
    have t06 : 0 ≤ W3.2.1 + 1 := v2.2.2.2.1
    have e56 : c6 681 5 = W3.2.1 + 1 := v2.2.2.1.2.1 zz
    have hv6 : hv2 c6 = tB B n (W3.2.1 + 1) := hv6
    unfold tOwn at e4
    rw [tDem_y z] at e4
    have e4 : (if 0 ≤ tB B n (W3.2.1 + 1) - 48 ∧ tB B n (W3.2.1 + 1) - 48 < 4 then (tB B n (W3.2.1 + 1) - 48, (W3.2.1 + 1 + 1, W3.2.2)) else (-5, tFail 1 (W3.2.1 + 1, W3.2.2))) = W4 := e4
    -- behind the own page
    have fin : ∀ (c7 : zC) (s7 : tS), Pc c7 B n s7 → c7 681 5 ≤ 80 → PF0 c6 c7 → (s7.2.1 = -1 ∧ s7.1 < n ∧ W4.2 = (s7.1 + 1, s7.2) ∧ W4.1 = tB B n s7.1 - 48 ∨ s7.2.1 ≠ -1 ∧ W4.2 = s7) → (s7.2.1 = -1 → W4.1 = -5 ∨ 0 ≤ W4.1 ∧ W4.1 ≤ 3) → ∃ (c9 : zC) (F' : Nat), 60 ≤ F' ∧ zex zc_X12_sense zk_X12_sense (zrun zTab (d + 10)) (F5 + 1) 185 [(2, 681), (3, 0), (3, 0)] [] c7 = (if s5.2.1 = -1 then (zbnd (zrun zTab (d + 10) 140 [681] c9) (fun _ c10 => zex zc_X12_sense zk_X12_sense (zrun zTab (d + 10)) F' 230 [(2, 681), (3, 0), (0, 0)] [] c10)) else some (zsub (-100) s5.2.1, c9)) ∧ FE c c9 ∧ c9 681 4 = 0 ∧ c9 681 8 = (if s5.2.1 = -1 then c 681 8 else s5.2.2) ∧ tK ca s5 ∧ (s5.2.1 = -1 → MHd c9 W1.1 ∧ c9 685 11 = (W3.1.length : Int) ∧ W3.1.length ≤ 4 ∧ (∀ i : Nat, i < W3.1.length → mWd (c9 685) (12 + 11 * i) ∧ mV (c9 685) (12 + 11 * i) = W3.1.getD i 0) ∧ c9 685 56 = W4.1 ∧ (W4.1 = -5 ∨ 0 ≤ W4.1 ∧ W4.1 ≤ 3)) := fun c7 s7 h7 h75 pf hs ho => by
      obtain ⟨c9, w1, w2, w3, w4, w5, w6⟩ := h7.senseOwn (d + 8) h75 hs e5 F5
      have w1 : zex zc_X12_sense zk_X12_sense (zrun zTab (d + 10)) (F5 + 1) 185 [(2, 681), (3, 0), (3, 0)] [] c7 = (if s5.2.1 = -1 then zbnd (zrun zTab (d + 10) 140 [681] c9) (fun _ c6 => zex zc_X12_sense zk_X12_sense (zrun zTab (d + 10)) F5 230 [(2, 681), (3, 0), (0, 0)] [] c6) else some (zsub (-100) s5.2.1, c9)) := w1
      have e87 : c7 681 8 = c 681 8 := by rw [pf.2.2 8 (by decide), e86]
      rw [e87] at w4
      refine ⟨c9, F5, by omega, w1, (fe6.tr pf.h.e).tr w2, w3, w4, tg5.2, fun q => ?_⟩
      have q4 : W4.2.2.1 = -1 := by
        rw [← e5] at q
        refine tEnd_1 ?_ ?_ q
        · rcases hs with ⟨a1, a2, a3, a4⟩ | ⟨a1, a2⟩
          · rw [a3]; exact Or.inl a1
          · rw [a2]; exact h7.2.2.1.2.2.2.2
        · rcases hs with ⟨a1, a2, a3, a4⟩ | ⟨a1, a2⟩
          · rw [a3]; have := h7.2.2.2.1; show 0 ≤ s7.1 + 1; omega
          · rw [a2]; exact h7.2.2.2.1
      have q7 : s7.2.1 = -1 := by
        rcases hs with ⟨a1, -⟩ | ⟨a1, a2⟩
        · exact a1
        · rw [a2] at q4; exact q4
      have e685 : ∀ k, k ≠ 56 → c9 685 k = c6 685 k := fun k hk => by rw [w5 k hk, pf.2.1 685 (by decide)]
      refine ⟨(hd6 zz).h (fun k hk => e685 k (by omega)), by rw [e685 11 (by decide)]; exact m1, m2, fun i hi => ?_, w6 q7, ho q7⟩
      obtain ⟨a1, a2⟩ := m4 i hi
      have m := a1.eq (g := c9 685) (b := 12 + 11 * i) (fun k k0 k1 => e685 _ (by omega))
      exact ⟨m.1, m.2.trans a2⟩
    rw [if_pos z, if_neg (by decide), if_pos v2.1.k, v2.here (d + 9), zbnd_some, zm_in, zbnd_some, hv6]
    by_cases y : 48 ≤ tB B n (W3.2.1 + 1) ∧ tB B n (W3.2.1 + 1) ≤ 51
    · rw [if_pos (show 0 ≤ tB B n (W3.2.1 + 1) - 48 ∧ tB B n (W3.2.1 + 1) - 48 < 4 by omega)] at e4
      have lt : W3.2.1 + 1 < n := by
        by_cases u : W3.2.1 + 1 < n
        · exact u
        · have eb : tB B n (W3.2.1 + 1) = -1 := by unfold tB; rw [if_neg (fun r => u r.2)]
          rw [eb] at y; omega
      rw [if_pos y, if_neg (by decide)]
      exact fin c6 _ v2 (by omega) (PF0.rf c6) (Or.inl ⟨zz, lt, by rw [← e4], by rw [← e4]⟩) (fun _ => by rw [← e4]; exact Or.inr (by constructor <;> (dsimp only; omega)))
    · rw [if_neg (show ¬ (0 ≤ tB B n (W3.2.1 + 1) - 48 ∧ tB B n (W3.2.1 + 1) - 48 < 4) by omega)] at e4
      have ne : (tFail 1 (W3.2.1 + 1, W3.2.2)).2.1 ≠ -1 := tFail_ne t06 (Or.inl zz)
      obtain ⟨c7, x1, x2, x3⟩ := v2.fails (d + 9) 1
      have e57 : c7 681 5 = c6 681 5 := by
        have a := x1
        rw [ze_X12_fails, if_pos v2.1.k, if_pos (v2.neg.mpr zz), if_pos v2.1.k, if_pos v2.1.k] at a
        split at a
        · injection a with a
          injection a with _ a
          rw [← a, zup_ne (by omega), zup_ne (by omega)]
        · exact absurd a (by simp)
      rw [if_neg y, if_pos rfl, if_pos v2.1.k, x1, zbnd_some]
      exact fin c7 _ x2 (by rw [e57]; omega) x3 (Or.inr ⟨ne, by rw [← e4]⟩) (fun q => absurd q ne)
  · rw [if_neg z] at v2 e4
    subst e4
    obtain ⟨c9, w1, w2, w3, w4, w5⟩ := v2.senseEnd (d + 8) e5 (F5 + 1)
    rw [e86] at w4
    rw [if_neg z, if_pos rfl, if_pos v2.1.k]
    refine ⟨c9, F5 + 1, by omega, w1, fe6.tr w2, w3, w4, tg5.2, fun q => ?_⟩
    have q3 : W3.2.2.1 = -1 := by
      rw [← e5] at q
      exact tEnd_1 v2.2.2.1.2.2.2.2 v2.2.2.2.1 q
    obtain ⟨m1, m2, m3, m4⟩ := hm6 q3
    refine ⟨(hd6 q3).h (fun k _ => w5 k), by rw [w5]; exact m1, m2, fun i hi => ?_, by rw [w5]; exact m3, Or.inl rfl⟩
    obtain ⟨a1, a2⟩ := m4 i hi
    have m := a1.eq (g := c9 685) (b := 12 + 11 * i) (fun k _ _ => w5 _)
    exact ⟨m.1, m.2.trans a2⟩
end
