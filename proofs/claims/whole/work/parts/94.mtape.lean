/-! The reference: the tape is read. -/
/-- where a reading stands, and why it is wrong -/
def MT (c : zC) (s : tS) : Prop := c 681 6 = s.2.1 ∧ (s.2.1 = -1 → c 681 5 = s.1) ∧ (s.2.1 ≠ -1 → c 681 7 = s.2.2) ∧ 0 ≤ c 681 5 ∧ (s.2.1 = -1 ∨ 0 ≤ s.2.1)
def MBt (c : zC) (B : Int → Int) (n : Int) : Prop := c 681 4 = n ∧ (0 ≤ n ∧ n ≤ 80) ∧ ∀ k, 0 ≤ k → k < n → c 683 k = B k ∧ 0 ≤ c 683 k ∧ c 683 k ≤ 127
def Pc (c : zC) (B : Int → Int) (n : Int) (s : tS) : Prop := MO c ∧ MBt c B n ∧ MT c s ∧ tIn n s
/-- what a reading changes: of the object the places 5 to 7, of a row the places from a on, m of them -/
def PFr (c c' : zC) (R a m : Int) : Prop := MS c c' ∧ (∀ b, b ≠ 681 → b ≠ R → ∀ k, c' b k = c b k) ∧ (∀ k, (k < 5 ∨ 7 < k) → c' 681 k = c 681 k) ∧ ∀ k, (k < a ∨ a + m ≤ k) → c' R k = c R k
theorem PFr.rf (c : zC) (R a m : Int) : PFr c c R a m := ⟨MS.rf c, fun _ _ _ _ => rfl, fun _ _ => rfl, fun _ _ => rfl⟩
theorem PFr.tr {c c1 c2 : zC} {R a m : Int} (h : PFr c c1 R a m) (g : PFr c1 c2 R a m) : PFr c c2 R a m := ⟨h.1.tr g.1, fun b b1 b2 k => (g.2.1 b b1 b2 k).trans (h.2.1 b b1 b2 k), fun k hk => (g.2.2.1 k hk).trans (h.2.2.1 k hk), fun k hk => (g.2.2.2 k hk).trans (h.2.2.2 k hk)⟩
theorem PFr.wd {c c' : zC} {R a m a2 m2 : Int} (h : PFr c c' R a m) (h1 : a2 ≤ a) (h2 : a + m ≤ a2 + m2) : PFr c c' R a2 m2 := ⟨h.1, h.2.1, h.2.2.1, fun k hk => h.2.2.2 k (by omega)⟩
theorem PFr.lo {c c' : zC} {R a m : Int} (h : PFr c c' R a m) (hR : 681 ≤ R) : zlo c c' := fun b hb k => h.2.1 b (by omega) (by omega) k
/-- nothing but the places 5 to 7 -/
def PF0 (c c' : zC) : Prop := MS c c' ∧ (∀ b, b ≠ 681 → ∀ k, c' b k = c b k) ∧ ∀ k, (k < 5 ∨ 7 < k) → c' 681 k = c 681 k
theorem PF0.r {c c' : zC} {R a m : Int} (h : PF0 c c') (hR : R ≠ 681) : PFr c c' R a m := ⟨h.1, fun b b1 _ k => h.2.1 b b1 k, h.2.2, fun k _ => h.2.1 R hR k⟩
theorem PF0.rf (c : zC) : PF0 c c := ⟨MS.rf c, fun _ _ _ => rfl, fun _ _ => rfl⟩
theorem PF0.tr {c c1 c2 : zC} (h : PF0 c c1) (g : PF0 c1 c2) : PF0 c c2 := ⟨h.1.tr g.1, fun b b1 k => (g.2.1 b b1 k).trans (h.2.1 b b1 k), fun k hk => (g.2.2 k hk).trans (h.2.2 k hk)⟩
theorem MBt.same {c c' : zC} {B : Int → Int} {n : Int} (h : MBt c B n) (e4 : c' 681 4 = c 681 4) (e : ∀ k, c' 683 k = c 683 k) : MBt c' B n := ⟨by rw [e4]; exact h.1, h.2.1, fun k k0 k1 => by rw [e]; exact h.2.2 k k0 k1⟩
theorem PF0.bt {c c' : zC} {B : Int → Int} {n : Int} (h : PF0 c c') (g : MBt c B n) : MBt c' B n := g.same (h.2.2 4 (by decide)) (fun k => h.2.1 683 (by decide) k)
theorem PFr.bt {c c' : zC} {B : Int → Int} {n R a m : Int} (h : PFr c c' R a m) (hR : R ≠ 683) (g : MBt c B n) : MBt c' B n := g.same (h.2.2.1 4 (by decide)) (fun k => h.2.1 683 (by decide) (by omega) k)
def hv2 (c : zC) : Int := if c 681 5 < c 681 4 then c 683 (c 681 5) else -1
section
variable {c : zC} {B : Int → Int} {n : Int} {s : tS} (d : Nat)
theorem Pc.here (h : Pc c B n s) : zrun zTab (d + 1) 156 [681] c = some (hv2 c, c) := by
  obtain ⟨mo, ⟨b1, b2, -⟩, ⟨-, -, -, m4, -⟩, -⟩ := h
  unfold hv2
  rw [ze_X12_here, if_pos mo.k, if_pos mo.k]
  by_cases e : c 681 5 < c 681 4
  · rw [if_pos e, if_pos e, if_pos mo.k, if_pos mo.k, mo.f.2.1, if_pos (mo.r683 m4 (by omega))]
  · rw [if_neg e, if_neg e]
theorem Pc.hv (h : Pc c B n s) (e : s.2.1 = -1) : hv2 c = tB B n s.1 := by
  obtain ⟨-, ⟨b1, b2, b3⟩, ⟨-, m2, -, -, -⟩, t1, t2⟩ := h
  unfold hv2 tB
  rw [m2 e, b1]
  by_cases x : s.1 < n
  · rw [if_pos x, if_pos ⟨t1, x⟩, (b3 s.1 t1 x).1]
  · rw [if_neg x, if_neg (fun q => x q.2)]
theorem Pc.neg (h : Pc c B n s) : c 681 6 < 0 ↔ s.2.1 = -1 := by
  obtain ⟨-, -, ⟨m1, -, -, -, m5⟩, -⟩ := h
  rw [m1]; omega
theorem Pc.isLetter (h : Pc c B n s) : zrun zTab (d + 2) 157 [681] c = some (if 97 ≤ hv2 c ∧ hv2 c ≤ 122 then 1 else 0, c) := by
  rw [ze_X12_isLetter, if_pos h.1.k, h.here d, zbnd_some, zm_in, zbnd_some]
  by_cases e : 97 ≤ hv2 c ∧ hv2 c ≤ 122
  · rw [if_pos e, if_pos (Or.inr rfl)]
  · rw [if_neg e, if_pos (Or.inl rfl)]
theorem Pc.at (h : Pc c B n s) (e : s.2.1 = -1) : (97 ≤ hv2 c ∧ hv2 c ≤ 122) ↔ tAt B n s := by
  rw [h.hv e]
  exact ⟨fun q => ⟨e, q.1, q.2⟩, fun q => ⟨q.2.1, q.2.2⟩⟩
theorem Pc.fails (h : Pc c B n s) (w : Int) : ∃ c', zrun zTab (d + 1) 158 [681, w] c = some (0, c') ∧ Pc c' B n (tFail w s) ∧ PF0 c c' := by
  obtain ⟨mo, bt, ⟨m1, m2, m3, m4, m5⟩, ti⟩ := id h
  rw [ze_X12_fails, if_pos mo.k]
  by_cases e : s.2.1 = -1
  · have ms1 : MS c (zup c 681 6 (c 681 5)) := (MS.rf c).up (by decide) (Or.inr (by decide))
    have ms2 : MS c (zup (zup c 681 6 (c 681 5)) 681 7 w) := ms1.up (by decide) (Or.inr (by decide))
    have pf : PF0 c (zup (zup c 681 6 (c 681 5)) 681 7 w) := ⟨ms2, fun b hb k => by rw [zup_ne (Or.inl hb), zup_ne (Or.inl hb)], fun k hk => by rw [zup_ne (by omega), zup_ne (by omega)]⟩
    rw [if_pos (h.neg.mpr e), if_pos mo.k, if_pos mo.k, if_pos (mo.ms ms1).k]
    refine ⟨_, rfl, ⟨mo.ms ms2, pf.bt bt, ?_, ti.fail⟩, pf⟩
    unfold tFail
    rw [if_pos e]
    refine ⟨?_, fun q => ?_, fun q => ?_, ?_, Or.inr ti.1⟩
    · rw [zup_ne (by omega), zup_eq ⟨rfl, rfl⟩]; exact m2 e
    · have := ti.1; have q : s.1 = -1 := q; omega
    · exact zup_eq ⟨rfl, rfl⟩
    · rw [zup_ne (by omega), zup_ne (by omega)]; exact m4
  · rw [if_neg (fun q => e (h.neg.mp q))]
    refine ⟨c, rfl, ?_, PF0.rf c⟩
    unfold tFail
    rw [if_neg e]
    exact h
/-- one step on -/
theorem Pc.step (h : Pc c B n s) (e : s.2.1 = -1) (hn : s.1 < n) : Pc (zup c 681 5 (c 681 5 + 1)) B n (s.1 + 1, s.2) ∧ PF0 c (zup c 681 5 (c 681 5 + 1)) := by
  obtain ⟨mo, bt, ⟨m1, m2, m3, m4, m5⟩, t1, t2⟩ := h
  have ms1 : MS c (zup c 681 5 (c 681 5 + 1)) := (MS.rf c).up (by decide) (Or.inr (by decide))
  have pf : PF0 c (zup c 681 5 (c 681 5 + 1)) := ⟨ms1, fun b hb k => zup_ne (Or.inl hb), fun k hk => zup_ne (by omega)⟩
  refine ⟨⟨mo.ms ms1, pf.bt bt, ⟨by rw [zup_ne (by omega)]; exact m1, fun q => by rw [zup_eq ⟨rfl, rfl⟩, m2 q], fun q => by rw [zup_ne (by omega)]; exact m3 q, by rw [zup_eq ⟨rfl, rfl⟩]; omega, m5⟩, ?_, ?_⟩, pf⟩
  · show 0 ≤ s.1 + 1; omega
  · show s.1 + 1 ≤ n; omega
theorem Pc.isNext (h : Pc c B n s) {v : Int} (hv : v ≠ -1) : ∃ c', zrun zTab (d + 2) 159 [681, v] c = some (if tCm B n v s then 1 else 0, c') ∧ Pc c' B n (if tCm B n v s then (s.1 + 1, s.2) else s) ∧ PF0 c c' := by
  have mo := h.1
  rw [ze_X12_isNext, if_pos mo.k]
  by_cases e : s.2.1 = -1
  · rw [if_pos (h.neg.mpr e), if_pos mo.k, h.here d, zbnd_some, h.hv e]
    by_cases x : tB B n s.1 = v
    · have cm : tCm B n v s := ⟨e, x⟩
      have pl := tCm_pl cm hv
      have st := h.step e pl.2
      have e5 := h.2.2.1.2.1 e
      have n80 := h.2.1.2.1
      rw [if_pos x, if_pos mo.k, if_pos mo.k, if_pos cm, if_pos cm, zadd_id (by omega) (by omega)]
      exact ⟨_, rfl, st⟩
    · have cm : ¬ tCm B n v s := fun q => x q.2
      rw [if_neg x, if_neg cm, if_neg cm]
      exact ⟨c, rfl, h, PF0.rf c⟩
  · have cm : ¬ tCm B n v s := fun q => e q.1
    rw [if_neg (fun q => e (h.neg.mp q)), if_neg cm, if_neg cm]
    exact ⟨c, rfl, h, PF0.rf c⟩
theorem Pc.wants (h : Pc c B n s) {v : Int} (hv : v ≠ -1) : ∃ c', zrun zTab (d + 3) 160 [681, v] c = some (0, c') ∧ Pc c' B n (tDem B n v s) ∧ PF0 c c' := by
  have mo := h.1
  rw [ze_X12_wants, if_pos mo.k]
  unfold tDem
  by_cases e : s.2.1 = -1
  · obtain ⟨c1, q1, q2, q3⟩ := h.isNext d hv
    rw [if_pos (h.neg.mpr e), if_pos mo.k, q1, zbnd_some]
    by_cases x : tCm B n v s
    · rw [if_pos x] at q2
      rw [if_pos x, if_neg (by decide), if_pos x]
      exact ⟨c1, rfl, q2, q3⟩
    · rw [if_neg x] at q2
      obtain ⟨c2, r1, r2, r3⟩ := q2.fails (d + 1) 1
      rw [if_neg x, if_pos rfl, if_pos q2.1.k, r1, zbnd_some, if_neg x]
      exact ⟨c2, rfl, r2, q3.tr r3⟩
  · have cm : ¬ tCm B n v s := fun q => e q.1
    rw [if_neg (fun q => e (h.neg.mp q)), if_neg cm]
    unfold tFail
    rw [if_neg e]
    exact ⟨c, rfl, h, PF0.rf c⟩
theorem tLet_stop {most : Int} (h : s.2.1 ≠ -1) : ∀ (t : Nat) (k w : Int), tLet B n most t k w s = (w, s) := by
  intro t k w
  cases t with
  | zero => rfl
  | succ t => exact if_neg (fun q => h q.1)
theorem tFail_ne {w : Int} (h : 0 ≤ s.1) (h2 : s.2.1 = -1 ∨ 0 ≤ s.2.1) : (tFail w s).2.1 ≠ -1 := by
  unfold tFail
  split
  · show s.1 ≠ -1; omega
  · omega
def rowSz (R : Int) : Int := if R = 684 then 240 else 57
theorem MO.rR {R x : Int} (h : MO c) (hR : R = 684 ∨ R = 685) (h0 : 0 ≤ x) (h1 : x < rowSz R) : c R (-1) = 100 ∧ (0 : Int) ≤ x ∧ x < c R (-2) := by
  unfold rowSz at h1
  rcases hR with rfl | rfl
  · rw [if_pos rfl] at h1; exact h.r684 h0 h1
  · rw [if_neg (by decide)] at h1; exact h.r685 h0 h1
theorem zm_letters_l {R a : Int} {most : Nat} (hR : R = 684 ∨ R = 685) (ha : 0 ≤ a) (hm : most ≤ 10) (ham : a + most ≤ rowSz R) : ∀ (t F k : Nat) (w : Int) (s : tS) (c1 : zC), t ≤ F → k + t = 80 → k ≤ most → Pc c1 B n s → zlet (c1 R) a k → zenc (c1 R) a k = w → ∃ (c' : zC) (m : Nat), zex zc_X12_letters zk_X12_letters (zrun zTab (d + 3)) (F + 1) 3 [(2, 681), (2, R), (0, a), (0, (most : Int)), (0, (k : Int))] [] c1 = some ((m : Int), c') ∧ Pc c' B n (tLet B n most t k w s).2 ∧ PFr c1 c' R a most ∧ k ≤ m ∧ m ≤ most ∧ zlet (c' R) a m ∧ zenc (c' R) a m = (tLet B n most t k w s).1 ∧ (tAt B n s → k < most → k + 1 ≤ m) := by
  have sz : rowSz R ≤ 240 := by unfold rowSz; split <;> omega
  intro t
  induction t with
  | zero => intro F k w s c1 hF hk hkm; omega
  | succ t ih =>
    intro F k w s c1 hF hk hkm h hz hw
    obtain ⟨F, rfl⟩ : ∃ G, F = G + 1 := ⟨F - 1, by omega⟩
    have mo := h.1
    have st : tLet B n most (t + 1) k w s = if tAt B n s then (if (k : Int) < most then tLet B n most t (k + 1) (w * 32 + (tB B n s.1 - 96)) (s.1 + 1, s.2) else tLet B n most t (k + 1) w (tFail 2 s)) else (w, s) := rfl
    rw [st, ze_X12_letters_3, if_pos mo.k]
    by_cases e : s.2.1 = -1
    · rw [if_pos (h.neg.mpr e), if_pos mo.k, h.isLetter (d + 1), zbnd_some]
      by_cases x : tAt B n s
      · have pl := tB_at x
        rw [if_pos ((h.at e).mpr x), if_neg (by decide), if_pos x]
        by_cases y : (k : Int) < most
        · have e5 := h.2.2.1.2.1 e
          have n80 := h.2.1.2.1
          have hvv := h.hv e
          have ms1 : MS c1 (zup c1 R (a + k) (tB B n s.1)) := (MS.rf c1).up (by omega) (Or.inl (by omega))
          have h1 : Pc (zup c1 R (a + k) (tB B n s.1)) B n s := by
            obtain ⟨g1, g2, ⟨g3, g4, g5, g6, g7⟩, g8⟩ := h
            have o : ∀ j, zup c1 R (a + k) (tB B n s.1) 681 j = c1 681 j := fun j => zup_ne (by omega)
            exact ⟨g1.ms ms1, g2.same (o 4) (fun j => zup_ne (by omega)), ⟨by rw [o]; exact g3, fun q => by rw [o]; exact g4 q, fun q => by rw [o]; exact g5 q, by rw [o]; exact g6, g7⟩, g8⟩
          obtain ⟨h2, pf2⟩ := h1.step e pl.2
          have e55 : zup c1 R (a + k) (tB B n s.1) 681 5 = c1 681 5 := zup_ne (by omega)
          have eR : ∀ j, zup (zup c1 R (a + k) (tB B n s.1)) 681 5 (zup c1 R (a + k) (tB B n s.1) 681 5 + 1) R j = zup c1 R (a + k) (tB B n s.1) R j := fun j => zup_ne (by omega)
          have ec : ∀ j : Nat, j < k → zup (zup c1 R (a + k) (tB B n s.1)) 681 5 (zup c1 R (a + k) (tB B n s.1) 681 5 + 1) R (a + j) = c1 R (a + j) := fun j hj => by rw [eR, zup_ne (by omega)]
          have el : zup (zup c1 R (a + k) (tB B n s.1)) 681 5 (zup c1 R (a + k) (tB B n s.1) 681 5 + 1) R (a + k) = tB B n s.1 := by rw [eR, zup_eq ⟨rfl, rfl⟩]
          have z1 : zlet (zup (zup c1 R (a + k) (tB B n s.1)) 681 5 (zup c1 R (a + k) (tB B n s.1) 681 5 + 1) R) a (k + 1) := fun j hj => by
            by_cases u : j < k
            · rw [ec j u]; exact hz j u
            · obtain rfl : j = k := by omega
              rw [el]; exact ⟨x.2.1, x.2.2⟩
          have z2 : zenc (zup (zup c1 R (a + k) (tB B n s.1)) 681 5 (zup c1 R (a + k) (tB B n s.1) 681 5 + 1) R) a (k + 1) = w * 32 + (tB B n s.1 - 96) := by
            show zenc _ a k * 32 + (_ - 96) = _
            rw [zenc_congr ec, el, hw]
          have pf1 : PFr c1 (zup (zup c1 R (a + k) (tB B n s.1)) 681 5 (zup c1 R (a + k) (tB B n s.1) 681 5 + 1)) R a most := ⟨ms1.tr pf2.1, fun b b1 b2 j => by rw [zup_ne (by omega), zup_ne (by omega)], fun j hj => by rw [zup_ne (by omega), zup_ne (by omega)], fun j hj => by rw [zup_ne (by omega), zup_ne (by omega)]⟩
          obtain ⟨c', m, r1, r2, r3, r4, r5, r6, r7, r8⟩ := ih F (k + 1) _ _ _ (by omega) (by omega) (by omega) h2 z1 z2
          rw [if_neg (by omega), if_pos mo.k, h.here (d + 2), zbnd_some, hvv, zadd_id (by omega) (by omega), if_pos (mo.rR hR (by omega) (by omega)), if_pos h1.1.k, if_pos h1.1.k, zadd_id (by omega) (by omega), zw_id' (by omega) (by omega), if_pos y]
          rw [show ((k + 1 : Nat) : Int) = (k : Int) + 1 by omega] at r1 r2 r7
          exact ⟨c', m, r1, r2, pf1.tr r3, by omega, r5, r6, r7, fun _ _ => r4⟩
        · obtain ⟨c2, r1, r2, r3⟩ := h.fails (d + 2) 2
          have ne : (tFail 2 s).2.1 ≠ -1 := tFail_ne h.2.2.2.1 (Or.inl e)
          have km : k = most := by omega
          have eR : c2 R = c1 R := funext (r3.2.1 R (by omega))
          rw [if_pos (by omega), if_pos mo.k, r1, zbnd_some, if_neg y, tLet_stop ne]
          exact ⟨c2, k, rfl, r2, r3.r (by omega), Nat.le_refl k, hkm, by rw [eR]; exact hz, by rw [eR]; exact hw, fun _ q => by omega⟩
      · rw [if_neg (fun q => x ((h.at e).mp q)), if_pos rfl, if_neg x]
        exact ⟨c1, k, rfl, h, PFr.rf c1 R a most, Nat.le_refl k, hkm, hz, hw, fun q => absurd q x⟩
    · have x : ¬ tAt B n s := fun q => e q.1
      rw [if_neg (fun q => e (h.neg.mp q)), if_neg x]
      exact ⟨c1, k, rfl, h, PFr.rf c1 R a most, Nat.le_refl k, hkm, hz, hw, fun q => absurd q x⟩
theorem Pc.letters {R a : Int} {most : Nat} (h : Pc c B n s) (hR : R = 684 ∨ R = 685) (ha : 0 ≤ a) (hm : most ≤ 10) (ham : a + most ≤ rowSz R) : ∃ (c' : zC) (m : Nat), zrun zTab (d + 4) 161 [681, R, a, (most : Int)] c = some ((m : Int), c') ∧ Pc c' B n (tLets B n most s).2 ∧ PFr c c' R a most ∧ m ≤ most ∧ zlet (c' R) a m ∧ zenc (c' R) a m = (tLets B n most s).1 ∧ (tAt B n s → 1 ≤ most → 1 ≤ m) := by
  obtain ⟨c', m, r1, r2, r3, -, r5, r6, r7, r8⟩ := zm_letters_l d hR ha hm ham 80 19998 0 0 s c (by omega) (by omega) (Nat.zero_le _) h (fun j hj => absurd hj (Nat.not_lt_zero j)) rfl
  refine ⟨c', m, ?_, r2, r3, r5, r6, r7, fun a b => r8 a (by omega)⟩
  rw [ze_X12_letters]
  exact r1
/-- a word, its length ahead of its letters -/
theorem Pc.word {R a : Int} (h : Pc c B n s) (hR : R = 684 ∨ R = 685) (ha : 0 ≤ a) (ham : a + 11 ≤ rowSz R) : ∃ c', zrun zTab (d + 5) 162 [681, R, a] c = some (0, c') ∧ Pc c' B n (tWrd B n True s).2 ∧ PFr c c' R a 11 ∧ (tAt B n s → mWd (c' R) a ∧ mV (c' R) a = (tWrd B n True s).1) := by
  have mo := h.1
  have sz : rowSz R ≤ 240 := by unfold rowSz; split <;> omega
  have key : ∀ (c1 : zC) (s1 : tS), Pc c1 B n s1 → PF0 c c1 → tWrd B n True s = tLets B n 10 s1 → (tAt B n s → s1 = s) → ∃ c', (zbnd (zrun zTab (d + 4) 161 [681, R, a + 1, 10] c1) (fun v5 c6 => if c6 R (-1) = 100 ∧ (0 : Int) ≤ a ∧ a < c6 R (-2) then some (0, zup c6 R a v5) else none)) = some ((0 : Int), c') ∧ Pc c' B n (tWrd B n True s).2 ∧ PFr c c' R a 11 ∧ (tAt B n s → mWd (c' R) a ∧ mV (c' R) a = (tWrd B n True s).1) := fun c1 s1 h1 pf e ea => by
    obtain ⟨c2, m, q1, q2, q3, q4, q5, q6, q7⟩ := h1.letters d (most := 10) hR (a := a + 1) (by omega) (Nat.le_refl 10) (by omega)
    have mo2 := q2.1
    have ms3 : MS c2 (zup c2 R a (m : Int)) := (MS.rf c2).up ha (Or.inl (by omega))
    have o : ∀ j, zup c2 R a (m : Int) 681 j = c2 681 j := fun j => zup_ne (by omega)
    have q1 : zrun zTab (d + 4) 161 [681, R, a + 1, 10] c1 = some ((m : Int), c2) := q1
    rw [q1, zbnd_some, if_pos (mo2.rR hR ha (by omega)), e]
    refine ⟨_, rfl, ?_, ?_, fun hat => ?_⟩
    · obtain ⟨g1, g2, ⟨g3, g4, g5, g6, g7⟩, g8⟩ := q2
      exact ⟨g1.ms ms3, g2.same (o 4) (fun j => zup_ne (by omega)), ⟨by rw [o]; exact g3, fun q => by rw [o]; exact g4 q, fun q => by rw [o]; exact g5 q, by rw [o]; exact g6, g7⟩, g8⟩
    · refine ⟨(pf.1.tr q3.1).tr ms3, fun b b1 b2 j => by rw [zup_ne (by omega), q3.2.1 b b1 b2, pf.2.1 b b1], fun j hj => by rw [zup_ne (by omega), q3.2.2.1 j hj, pf.2.2 j hj], fun j hj => by rw [zup_ne (by omega), q3.2.2.2 j (by omega), pf.2.1 R (by omega)]⟩
    · have s1e := ea hat
      subst s1e
      have m1 := q7 hat (by decide)
      have ek : ∀ j : Nat, j < m → zup c2 R a (m : Int) R (a + 1 + j) = c2 R (a + 1 + j) := fun j hj => zup_ne (by omega)
      have el : zup c2 R a (m : Int) R a = (m : Int) := zup_eq ⟨rfl, rfl⟩
      unfold mWd mV
      rw [el, Int.toNat_natCast]
      exact ⟨⟨by omega, by omega, zlet_congr q5 ek⟩, by rw [zenc_congr ek]; exact q6⟩
  rw [ze_X12_word, if_pos mo.k, h.isLetter (d + 2), zbnd_some, zadd_id (by omega) (by omega)]
  by_cases e : s.2.1 = -1
  · by_cases x : tAt B n s
    · rw [if_pos ((h.at e).mpr x), if_neg (by decide), if_pos mo.k]
      exact key c s h (PF0.rf c) (by unfold tWrd; rw [if_pos x, if_pos trivial]) (fun _ => rfl)
    · obtain ⟨c1, q1, q2, q3⟩ := h.fails (d + 3) 1
      rw [if_neg (fun q => x ((h.at e).mp q)), if_pos rfl, if_pos mo.k, q1, zbnd_some, if_pos q2.1.k]
      exact key c1 _ q2 q3 (by unfold tWrd; rw [if_neg x]) (fun q => absurd q x)
  · have x : ¬ tAt B n s := fun q => e q.1
    have ef : tFail 1 s = s := by unfold tFail; rw [if_neg e]
    have ew : tWrd B n True s = tLets B n 10 s := by unfold tWrd; rw [if_neg x, ef]
    by_cases y : 97 ≤ hv2 c ∧ hv2 c ≤ 122
    · rw [if_pos y, if_neg (by decide), if_pos mo.k]
      exact key c s h (PF0.rf c) ew (fun _ => rfl)
    · obtain ⟨c1, q1, q2, q3⟩ := h.fails (d + 3) 1
      rw [ef] at q2
      rw [if_neg y, if_pos rfl, if_pos mo.k, q1, zbnd_some, if_pos q2.1.k]
      exact key c1 s q2 q3 ew (fun _ => rfl)
end
