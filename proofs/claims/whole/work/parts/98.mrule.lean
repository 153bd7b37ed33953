/-! The reference: the call rule. -/
/-- the first parts emptied -/
def zfil (c : zC) (n : Int) : zC := fun b k => if b = 685 ∧ 0 ≤ k ∧ k < n then 0 else c b k
section
variable {c : zC} {σ : aS} {B : Int → Int} {n ca : Int} {s : tS} (d : Nat)
theorem zfil_o {m b k : Int} (h : b ≠ 685 ∨ k < 0 ∨ m ≤ k) : zfil c m b k = c b k := by unfold zfil; rw [if_neg (by omega)]
theorem zfil_i {m k : Int} (h : 0 ≤ k) (h1 : k < m) : zfil c m 685 k = 0 := by unfold zfil; rw [if_pos ⟨rfl, h, h1⟩]
theorem zfil_0 : zfil c 0 = c := by funext b k; exact zfil_o (by omega)
theorem zfil_up {m : Int} (h : 0 ≤ m) : zup (zfil c m) 685 m 0 = zfil c (m + 1) := by
  funext b k
  unfold zfil
  by_cases e : b = 685 ∧ k = m
  · rw [zup_eq e, if_pos (by omega)]
  · rw [zup_ne (by omega)]
    by_cases e2 : b = 685 ∧ 0 ≤ k ∧ k < m
    · rw [if_pos e2, if_pos (by omega)]
    · rw [if_neg e2, if_neg (by omega)]
theorem Pc.rowAny {c' : zC} (h : Pc c B n s) (o : ∀ b, b ≠ 685 → ∀ k, c' b k = c b k) (on : ∀ k, k < 0 → c' 685 k = c 685 k) : Pc c' B n s ∧ MS c c' := by
  obtain ⟨g1, g2, ⟨g3, g4, g5, g6, g7⟩, g8⟩ := h
  have ms : MS c c' := ⟨fun b k hk => by
    by_cases x : b = 685
    · subst x; exact on k hk
    · exact o b x k, fun k _ => o 681 (by decide) k⟩
  have o1 := o 681 (by decide)
  exact ⟨⟨g1.ms ms, g2.same (o1 4) (o 683 (by decide)), ⟨by rw [o1]; exact g3, fun q => by rw [o1]; exact g4 q, fun q => by rw [o1]; exact g5 q, by rw [o1]; exact g6, g7⟩, g8⟩, ms⟩
theorem zm_rule_18 (h : MO c) : ∀ (t F : Nat) (k : Int), t ≤ F → k + t = 9 → 0 ≤ k → zex zc_X12_rule zk_X12_rule (zrun zTab d) (F + 1) 18 [(2, 681), (0, k)] [] (zfil c k) = zex zc_X12_rule zk_X12_rule (zrun zTab d) (F - t + 1) 18 [(2, 681), (0, 9)] [] (zfil c 9) := by
  intro t
  induction t with
  | zero => intro F k hF hk hk0; rw [show k = 9 by omega]; rfl
  | succ t ih =>
    intro F k hF hk hk0
    obtain ⟨F, rfl⟩ : ∃ G, F = G + 1 := ⟨F - 1, by omega⟩
    have mo : MO (zfil c k) := h.ms ⟨fun b j hj => zfil_o (by omega), fun j _ => zfil_o (Or.inl (by decide))⟩
    rw [ze_X12_rule_18, if_pos (by omega), if_pos mo.k, mo.f.2.2.2.1, if_pos (mo.r685 (by omega) (by omega)), zfil_up hk0, zw_id' (by omega) (by omega), ih F (k + 1) (by omega) (by omega) (by omega), show F + 1 - (t + 1) = F - t by omega]
theorem zm_rule_109 (h : MO c) {m : Int} (hm : 0 ≤ m ∧ m < 6) (hc : c 682 968 = m) : ∀ (t F : Nat) (k : Int), t ≤ F → k + t = 9 → 0 ≤ k → zex zc_X12_rule zk_X12_rule (zrun zTab (d + 1)) (F + 1) 109 [(2, 681), (0, k)] [] (zcpg c 682 (969 + 9 * m) 685 0 k) = some (m, zup (zcpg c 682 (969 + 9 * m) 685 0 9) 682 968 (m + 1)) := by
  intro t
  induction t with
  | zero =>
    intro F k hF hk hk0
    obtain rfl : k = 9 := by omega
    have mo := h.ms (zcpg_ms (T := 682) (P := 969 + 9 * m) (R := 685) (a := 0) (m := 9) (by omega) (by decide))
    have e : zcpg c 682 (969 + 9 * m) 685 0 9 682 968 = m := by rw [zcpg_o (by omega)]; exact hc
    have mo2 := mo.ms ((MS.rf _).up (b := 682) (k := 968) (v := m + 1) (by decide) (Or.inl (by decide)))
    rw [ze_X12_rule_109, if_neg (by decide), if_pos mo.k, mo.f.1, if_pos (mo.r682 (by omega) (by omega)), if_pos (mo.r682 (by omega) (by omega)), e, zadd_id (by omega) (by omega), if_pos mo2.k, zm_rules d mo2, zbnd_some, zup_eq ⟨rfl, rfl⟩, zsub_id (by omega) (by omega), show m + 1 - 1 = m by omega]
  | succ t ih =>
    intro F k hF hk hk0
    obtain ⟨F, rfl⟩ : ∃ G, F = G + 1 := ⟨F - 1, by omega⟩
    have mo := h.ms (zcpg_ms (T := 682) (P := 969 + 9 * m) (R := 685) (a := 0) (m := k) (by omega) (by decide))
    have e : zcpg c 682 (969 + 9 * m) 685 0 k 682 968 = m := by rw [zcpg_o (by omega)]; exact hc
    have e685 : zcpg c 682 (969 + 9 * m) 685 0 k 685 k = c 685 (0 + k) := by rw [zcpg_o (by omega), Int.zero_add]
    rw [ze_X12_rule_109, if_pos (by omega), if_pos mo.k, if_pos mo.k, zm_rules d mo, zbnd_some, e, zm_ruleAt d (by omega), zbnd_some, if_pos mo.k, mo.f.2.2.2.1, mo.f.1, if_pos (mo.r685 (by omega) (by omega)), zadd_id (by omega) (by omega), if_pos (mo.r682 (by omega) (by omega)), e685, zcpg_up hk0, zw_id' (by omega) (by omega)]
    exact ih F (k + 1) (by omega) (by omega) (by omega)
theorem tDem_1 {v : Int} (h2 : s.2.1 = -1 ∨ 0 ≤ s.2.1) (h0 : 0 ≤ s.1) (h : (tDem B n v s).2.1 = -1) : s.2.1 = -1 := by
  by_cases e : s.2.1 = -1
  · exact e
  · rw [tDem_stop e] at h; exact absurd h e
theorem tLets_1 {most : Int} (h : (tLets B n most s).2.2.1 = -1) : s.2.1 = -1 := by
  by_cases e : s.2.1 = -1
  · exact e
  · have e2 : tLets B n most s = (0, s) := tLet_stop e 80 0 0
    rw [e2] at h; exact absurd h e
theorem tEnd_1 (h2 : s.2.1 = -1 ∨ 0 ≤ s.2.1) (h0 : 0 ≤ s.1) (h : (tEnd B n s).2.1 = -1) : s.2.1 = -1 := by
  unfold tEnd at h
  split at h
  · exact h
  · exact absurd h (tFail_ne h0 h2)
/-- the row that was read becomes the last rule -/
theorem M_rulePut {e r : Int} (h : RM c σ) (hn : c 682 968 < 6) (ru : mRuOK (c 685) 0) (he : mV (c 685) 0 = e) (hr : mV (c 685) 5 = r) : ∃ c', zex zc_X12_rule zk_X12_rule (zrun zTab (d + 1)) 19988 109 [(2, 681), (0, 0)] [] c = some (c 682 968, c') ∧ RM c' (uAddR σ.1 e r, σ.2) ∧ zlo c c' := by
  have n4 := h.ok.1.n4
  have run := zm_rule_109 d h.1 (m := c 682 968) (by omega) rfl 9 19987 0 (by omega) (by omega) (by omega)
  rw [zcpg_0] at run
  have oo : ∀ k, (k < 968 ∨ 968 < k ∧ k < 969 + 9 * c 682 968 ∨ 969 + 9 * c 682 968 + 9 ≤ k) → zup (zcpg c 682 (969 + 9 * c 682 968) 685 0 9) 682 968 (c 682 968 + 1) 682 k = c 682 k := fun k hk => by rw [zup_ne (by omega), zcpg_o (by omega)]
  have oi : ∀ k, 0 ≤ k → k < 9 → zup (zcpg c 682 (969 + 9 * c 682 968) 685 0 9) 682 968 (c 682 968 + 1) 682 (969 + 9 * c 682 968 + k) = c 685 (0 + k) := fun k k0 k1 => by rw [zup_ne (by omega), zcpg_i k0 k1]
  have q := ru.eq oi
  have st := mset_R (f0 := c 682) (g := zup (zcpg c 682 (969 + 9 * c 682 968) 685 0 9) 682 968 (c 682 968 + 1) 682) (e := e) (r := r) h.ok.1 rfl (by omega) oo (zup_eq ⟨rfl, rfl⟩) q.1 (q.2.2.1.trans he) (by rw [show 974 + 9 * c 682 968 = 969 + 9 * c 682 968 + 5 by omega]; exact q.2.2.2.2.trans hr)
  rw [h.ok.2] at st
  exact ⟨_, run, RM.st h ((zcpg_ms (by omega) (by decide)).up (by decide) (Or.inl (by decide))) (fun k hk => by rw [zup_ne (by omega), zcpg_o (by omega)]) (fun k hk => by rw [zup_ne (by omega), zcpg_o (by omega)]) (fun k => by rw [zup_ne (by omega), zcpg_o (by omega)]) st.1 st.2, fun b hb k => by rw [zup_ne (by omega), zcpg_o (by omega)]⟩
/-- what may change while a row is read to its end -/
def PFe (c c' : zC) : Prop := MS c c' ∧ (∀ b, b ≠ 681 → b ≠ 685 → ∀ k, c' b k = c b k) ∧ (∀ k, (k < 4 ∨ 8 < k ∧ k ≠ 10) → c' 681 k = c 681 k)
theorem PFr.e {c c' : zC} {a m : Int} (h : PFr c c' 685 a m) : PFe c c' := ⟨h.1, h.2.1, fun k hk => h.2.2.1 k (by omega)⟩
theorem PF0.e {c c' : zC} (h : PF0 c c') : PFe c c' := ⟨h.1, fun b b1 _ k => h.2.1 b b1 k, fun k hk => h.2.2 k (by omega)⟩
theorem PFe.tr {c c1 c2 : zC} (h : PFe c c1) (g : PFe c1 c2) : PFe c c2 := ⟨h.1.tr g.1, fun b b1 b2 k => (g.2.1 b b1 b2 k).trans (h.2.1 b b1 b2 k), fun k hk => (g.2.2 k hk).trans (h.2.2 k hk)⟩
theorem PFe.up {k v : Int} (hk : 0 ≤ k) : PFe c (zup c 685 k v) := ⟨(MS.rf c).up hk (Or.inl (by decide)), fun b b1 b2 j => zup_ne (by omega), fun j _ => zup_ne (by omega)⟩
/-- a rule is read behind its first look -/
theorem Pc.ruleRead {s1 s3 s5 : tS} {W1 W2 : Int × tS} (h3 : Pc c B n s1) (t1 : tG n ca s1) (e1 : tLets B n ((4 : Nat) : Int) s1 = W1) (e3 : tDem B n 62 W1.2 = s3) (e2 : tLets B n ((3 : Nat) : Int) s3 = W2) (e5 : tEnd B n W2.2 = s5) : ∃ c9 : zC, zex zc_X12_rule zk_X12_rule (zrun zTab (d + 10)) 19989 49 [(2, 681), (3, 0)] [] c = (if s5.2.1 = -1 then (zbnd (zrun zTab (d + 10) 140 [681] c9) (fun _ c10 => zex zc_X12_rule zk_X12_rule (zrun zTab (d + 10)) 19988 109 [(2, 681), (0, 0)] [] c10)) else some (zsub (-100) s5.2.1, c9)) ∧ MO c9 ∧ PFe c c9 ∧ c9 681 4 = 0 ∧ c9 681 8 = (if s5.2.1 = -1 then c 681 8 else s5.2.2) ∧ tK ca s5 ∧ (s5.2.1 = -1 → (s1.2.1 = -1 → tAt B n s1) → mRuOK (c9 685) 0 ∧ mV (c9 685) 0 = W1.1 ∧ mV (c9 685) 5 = W2.1) := by
  obtain ⟨c4, m1, r1, r2, r3, r4, r5, r6, r7⟩ := h3.letters (d + 6) (R := 685) (a := 1) (most := 4) (Or.inr rfl) (by decide) (by decide) (by decide)
  have tg2 := t1.lets (B := B) (most := ((4 : Nat) : Int))
  rw [e1] at r2 r6 tg2
  have h5 : Pc (zup c4 685 0 (m1 : Int)) B n W1.2 := r2.row (Or.inr rfl) (by decide)
  obtain ⟨c6, u1, u2, u3⟩ := h5.wants (d + 7) (v := 62) (by decide)
  have tg3 := tg2.dem (B := B) (v := 62) (by decide)
  rw [e3] at u2 tg3
  obtain ⟨c7, m2, v1, v2, v3, v4, v5, v6, v7⟩ := u2.letters (d + 6) (R := 685) (a := 6) (most := 3) (Or.inr rfl) (by decide) (by decide) (by decide)
  have tg4 := tg3.lets (B := B) (most := ((3 : Nat) : Int))
  rw [e2] at v2 v6 tg4
  have h8 : Pc (zup c7 685 5 (m2 : Int)) B n W2.2 := v2.row (Or.inr rfl) (by decide)
  obtain ⟨c9, w1, w2, w3, w4, w5, w6, w7⟩ := h8.isWrong (d + 8)
  have tg5 := tg4.tend (B := B)
  have chain : s5.2.1 = -1 → s1.2.1 = -1 := fun q => by
    rw [← e5] at q
    have a1 := tEnd_1 v2.2.2.1.2.2.2.2 tg4.1.1 q
    rw [← e2] at a1
    have a2 := tLets_1 a1
    rw [← e3] at a2
    have a3 := tDem_1 r2.2.2.1.2.2.2.2 tg2.1.1 a2
    rw [← e1] at a3
    exact tLets_1 a3
  rw [e5] at w1 w6 w7 tg5
  have fr : PFe c (zup c7 685 5 (m2 : Int)) := ((((r3.e.tr (PFe.up (by decide))).tr u3.e).tr v3.e).tr (PFe.up (by decide)))
  have e8 : zup c7 685 5 (m2 : Int) 681 8 = c 681 8 := by rw [zup_ne (by omega), v3.2.2.1 8 (by decide), u3.2.2 8 (by decide), zup_ne (by omega), r3.2.2.1 8 (by decide)]
  rw [e8] at w7
  have r1 : zrun zTab (d + 10) 161 [681, 685, 1, 4] c = some ((m1 : Int), c4) := r1
  have v1 : zrun zTab (d + 10) 161 [681, 685, 6, 3] c6 = some ((m2 : Int), c7) := v1
  refine ⟨c9, ?_, h8.1.ms w2, ⟨fr.1.tr w2, fun b b1 b2 k => (w3 b b1 k).trans (fr.2.1 b b1 b2 k), fun k hk => (w4 k (by omega)).trans (fr.2.2 k hk)⟩, w5, w7, tg5.2, fun q qa => ?_⟩
  · have m4r := r2.1
    have m9 := h8.1.ms w2
    rw [ze_X12_rule_49, if_pos h3.1.k, if_pos h3.1.k, if_pos h3.1.k, h3.1.f.2.2.2.1, r1, zbnd_some, if_pos (m4r.r685 (by decide) (by decide)), if_pos h5.1.k, u1, zbnd_some, if_pos u2.1.k, if_pos u2.1.k, if_pos u2.1.k, u2.1.f.2.2.2.1, v1, zbnd_some, if_pos (v2.1.r685 (by decide) (by decide)), if_pos h8.1.k, w1, zbnd_some]
    by_cases e : s5.2.1 = -1
    · rw [if_pos e, if_pos rfl, if_pos m9.k, if_pos e]
    · rw [if_neg e, if_neg (by decide), if_pos m9.k, w6, if_neg e]
  · have m1pos := r7 (qa (chain q)) (by decide)
    have o685 : ∀ k, c9 685 k = zup c7 685 5 (m2 : Int) 685 k := fun k => w3 685 (by decide) k
    have p0 : c9 685 0 = (m1 : Int) := by rw [o685, zup_ne (by omega), v3.2.2.2 0 (by omega), u3.2.1 685 (by decide), zup_eq ⟨rfl, rfl⟩]
    have p5 : c9 685 5 = (m2 : Int) := by rw [o685, zup_eq ⟨rfl, rfl⟩]
    have pk : ∀ j : Nat, j < m1 → c9 685 (0 + 1 + j) = c4 685 (1 + j) := fun j hj => by rw [o685, zup_ne (by omega), v3.2.2.2 _ (by omega), u3.2.1 685 (by decide), zup_ne (by omega), show (0 : Int) + 1 + j = 1 + j by omega]
    have pj : ∀ j : Nat, j < m2 → c9 685 (5 + 1 + j) = c7 685 (6 + j) := fun j hj => by rw [o685, zup_ne (by omega), show (5 : Int) + 1 + j = 6 + j by omega]
    have ve : mV (c9 685) 0 = W1.1 := by unfold mV; rw [p0, Int.toNat_natCast, zenc_congr pk]; exact r6
    have vr : mV (c9 685) 5 = W2.1 := by unfold mV; rw [p5, Int.toNat_natCast, zenc_congr pj]; exact v6
    refine ⟨⟨⟨by rw [p0]; omega, by rw [p0]; omega, by rw [p0, Int.toNat_natCast]; exact zlet_congr r5 pk⟩, ?_, ?_, ?_⟩, ve, vr⟩
    · rw [show (0 : Int) + 5 = 5 from rfl, p5]; omega
    · rw [show (0 : Int) + 5 = 5 from rfl, p5]; omega
    · rw [show (0 : Int) + 5 = 5 from rfl, p5, Int.toNat_natCast]; exact zlet_congr v5 pj
theorem M_rule (h : RM c σ) : MC c (zrun zTab (d + 40) 169 [681] c) (aRule σ) := by
  have n4 := h.ok.1.n4
  rw [ze_X12_rule, if_pos h.1.k, zm_rules (d + 38) h.1, zbnd_some]
  unfold aRule
  rw [h.a4]
  by_cases e6 : c 682 968 = 6
  · rw [if_pos e6, if_pos (by omega)]
    exact MC.of rfl h (zlo.rf c)
  · obtain ⟨c1, q1, q2, -, q4⟩ := h.begins (d + 38)
    have z1 := zm_rule_18 (d + 39) q2.1 9 19998 0 (by omega) (by omega) (by omega)
    rw [zfil_0] at z1
    obtain ⟨h2, ms2⟩ := q2.rowAny (c' := zfil c1 9) (fun b hb k => zfil_o (Or.inl hb)) (fun k hk => zfil_o (by omega))
    have lt6 : ¬ 6 ≤ c 682 968 := by omega
    rw [if_neg e6, if_neg lt6, if_pos h.1.k, q1, zbnd_some, z1, ze_X12_rule_18, if_neg (by decide), if_pos h2.1.k, h2.isLetter (d + 37), zbnd_some]
    have tg0 : tG σ.2.2.2.1.1 σ.2.2.2.1.2.2 (0, -1, σ.2.2.2.1.2.2) := tG.start q2.2.1.2.1.1
    have tg1 : tG σ.2.2.2.1.1 σ.2.2.2.1.2.2 (if tAt σ.2.2.2.1.2.1 σ.2.2.2.1.1 (0, -1, σ.2.2.2.1.2.2) then (0, -1, σ.2.2.2.1.2.2) else tFail 1 (0, -1, σ.2.2.2.1.2.2)) := by
      split
      · exact tg0
      · exact tg0.fail (by decide)
    obtain ⟨s1, hs1⟩ : ∃ s1, (if tAt σ.2.2.2.1.2.1 σ.2.2.2.1.1 (0, -1, σ.2.2.2.1.2.2) then (0, -1, σ.2.2.2.1.2.2) else tFail 1 (0, -1, σ.2.2.2.1.2.2) : tS) = s1 := ⟨_, rfl⟩
    have at1 : s1.2.1 = -1 → tAt σ.2.2.2.1.2.1 σ.2.2.2.1.1 s1 := fun x => by
      rw [← hs1] at x ⊢
      by_cases y : tAt σ.2.2.2.1.2.1 σ.2.2.2.1.1 (0, -1, σ.2.2.2.1.2.2)
      · rw [if_pos y]; exact y
      · rw [if_neg y] at x
        exact absurd x (tFail_ne (Int.le_refl 0) (Or.inl rfl))
    obtain ⟨W1, hW1⟩ : ∃ W1, tLets σ.2.2.2.1.2.1 σ.2.2.2.1.1 ((4 : Nat) : Int) s1 = W1 := ⟨_, rfl⟩
    obtain ⟨s3, hs3⟩ : ∃ s3, tDem σ.2.2.2.1.2.1 σ.2.2.2.1.1 62 W1.2 = s3 := ⟨_, rfl⟩
    obtain ⟨W2, hW2⟩ : ∃ W2, tLets σ.2.2.2.1.2.1 σ.2.2.2.1.1 ((3 : Nat) : Int) s3 = W2 := ⟨_, rfl⟩
    obtain ⟨s5, hs5⟩ : ∃ s5, tEnd σ.2.2.2.1.2.1 σ.2.2.2.1.1 W2.2 = s5 := ⟨_, rfl⟩
    have er : tRul σ.2.2.2.1.2.1 σ.2.2.2.1.1 σ.2.2.2.1.2.2 = (W1.1, W2.1, s5) := by
      unfold tRul
      have hW1 : tLets σ.2.2.2.1.2.1 σ.2.2.2.1.1 4 s1 = W1 := hW1
      have hW2 : tLets σ.2.2.2.1.2.1 σ.2.2.2.1.1 3 s3 = W2 := hW2
      rw [hs1, hW1, hs3, hW2, hs5]
    rw [er]
    rw [hs1] at tg1
    have fin : ∀ c3 : zC, Pc c3 σ.2.2.2.1.2.1 σ.2.2.2.1.1 s1 → PF0 (zfil c1 9) c3 → MC c (zex zc_X12_rule zk_X12_rule (zrun zTab (d + 39)) 19989 49 [(2, 681), (3, 0)] [] c3) (if s5.2.1 = -1 then (c 682 968, aPut (aRd σ s5) (uAddR σ.1 W1.1 W2.1)) else (zsub (-100) s5.2.1, aRd σ s5)) := fun c3 h3 pf3 => by
      obtain ⟨c9, w1, w2, w3, w4, w5, w6, w7⟩ := h3.ruleRead (d + 29) tg1 hW1 hs3 hW2 hs5
      have w1 : zex zc_X12_rule zk_X12_rule (zrun zTab (d + 39)) 19989 49 [(2, 681), (3, 0)] [] c3 = (if s5.2.1 = -1 then (zbnd (zrun zTab (d + 39) 140 [681] c9) (fun _ c10 => zex zc_X12_rule zk_X12_rule (zrun zTab (d + 39)) 19988 109 [(2, 681), (0, 0)] [] c10)) else some (zsub (-100) s5.2.1, c9)) := w1
      have o9 : ∀ k, c9 682 k = c 682 k := fun k => by rw [w3.2.1 682 (by decide) (by decide), pf3.2.1 682 (by decide), zfil_o (Or.inl (by decide)), q4.2.1 682 (by decide) (by decide)]
      have o1 : ∀ k, (k < 4 ∨ 8 < k ∧ k ≠ 10) → c9 681 k = c 681 k := fun k hk => by rw [w3.2.2 k hk, pf3.2.2 k (by omega), zfil_o (Or.inl (by decide)), q4.2.2 k (by omega)]
      have e8 : c3 681 8 = c 681 8 := by rw [pf3.2.2 8 (by omega), zfil_o (Or.inl (by decide)), q4.2.2 8 (by omega)]
      rw [e8] at w5
      have hR : RM c9 (aRd σ s5) := RM.ends (c1 := c) h (((q4.1.tr ms2).tr pf3.1).tr w3.1) (fun k hk => o1 k (by omega)) o9 w4 w5 w6
      have lo9 : zlo c c9 := fun b hb k => by rw [w3.2.1 b (by omega) (by omega), pf3.2.1 b (by omega), zfil_o (Or.inl (by omega)), q4.2.1 b (by omega) (by omega)]
      rw [w1]
      by_cases e : s5.2.1 = -1
      · obtain ⟨z1, z2, z3⟩ := w7 e at1
        obtain ⟨c10, x1, x2, x3, x4, x5, x6⟩ := M_keeps (d + 37) hR
        have e685 : c10 685 = c9 685 := funext (x4 685 (by decide) (by decide))
        obtain ⟨c11, y1, y2, y3⟩ := M_rulePut (d + 38) x2 (e := W1.1) (r := W2.1) (by rw [x6 968 (by decide), o9]; omega) (by rw [e685]; exact z1) (by rw [e685]; exact z2) (by rw [e685]; exact z3)
        rw [if_pos e, if_pos e, x1, zbnd_some, y1, x6 968 (by decide), o9]
        exact MC.of rfl y2 ((lo9.tr (fun b hb k => x4 b (by omega) (by omega) k)).tr y3)
      · rw [if_neg e, if_neg e]
        exact MC.of rfl hR lo9
    by_cases x : tAt σ.2.2.2.1.2.1 σ.2.2.2.1.1 (0, -1, σ.2.2.2.1.2.2)
    · rw [if_pos x] at hs1
      rw [if_pos ((h2.at rfl).mpr x), if_neg (by decide)]
      exact fin (zfil c1 9) (by rw [← hs1]; exact h2) (PF0.rf _)
    · rw [if_neg x] at hs1
      obtain ⟨c3, r1, r2, r3⟩ := h2.fails (d + 38) 1
      rw [if_neg (fun q => x ((h2.at rfl).mp q)), if_pos rfl, if_pos h2.1.k, r1, zbnd_some]
      exact fin c3 (by rw [← hs1]; exact r2) r3
end
