/-! The reference: the call sense. -/
section
variable {c : zC} {σ : aS} {B : Int → Int} {n ca : Int} {s : tS} (d : Nat)
theorem zm_sense_18 (h : MO c) : ∀ (t F : Nat) (k : Int), t ≤ F → k + t = 57 → 0 ≤ k → zex zc_X12_sense zk_X12_sense (zrun zTab d) (F + 1) 18 [(2, 681), (0, k), (3, 0)] [] (zfil c k) = zex zc_X12_sense zk_X12_sense (zrun zTab d) (F - t + 1) 18 [(2, 681), (0, 57), (3, 0)] [] (zfil c 57) := by
  intro t
  induction t with
  | zero => intro F k hF hk hk0; rw [show k = 57 by omega]; rfl
  | succ t ih =>
    intro F k hF hk hk0
    obtain ⟨F, rfl⟩ : ∃ G, F = G + 1 := ⟨F - 1, by omega⟩
    have mo : MO (zfil c k) := h.ms ⟨fun b j hj => zfil_o (by omega), fun j _ => zfil_o (Or.inl (by decide))⟩
    rw [ze_X12_sense_18, if_pos (by omega), if_pos mo.k, mo.f.2.2.2.1, if_pos (mo.r685 (by omega) (by omega)), zfil_up hk0, zw_id' (by omega) (by omega), ih F (k + 1) (by omega) (by omega) (by omega), show F + 1 - (t + 1) = F - t by omega]
theorem zm_sense_230 (h : MO c) {m : Int} (hm : 0 ≤ m ∧ m < 8) (hc : c 682 1023 = m) : ∀ (t F : Nat) (k : Int), t ≤ F → k + t = 57 → 0 ≤ k → zex zc_X12_sense zk_X12_sense (zrun zTab (d + 1)) (F + 1) 230 [(2, 681), (3, 0), (0, k)] [] (zcpg c 682 (1024 + 57 * m) 685 0 k) = some (m, zup (zcpg c 682 (1024 + 57 * m) 685 0 57) 682 1023 (m + 1)) := by
  intro t
  induction t with
  | zero =>
    intro F k hF hk hk0
    obtain rfl : k = 57 := by omega
    have mo := h.ms (zcpg_ms (T := 682) (P := 1024 + 57 * m) (R := 685) (a := 0) (m := 57) (by omega) (by decide))
    have e : zcpg c 682 (1024 + 57 * m) 685 0 57 682 1023 = m := by rw [zcpg_o (by omega)]; exact hc
    have mo2 := mo.ms ((MS.rf _).up (b := 682) (k := 1023) (v := m + 1) (by decide) (Or.inl (by decide)))
    rw [ze_X12_sense_230, if_neg (by decide), if_pos mo.k, mo.f.1, if_pos (mo.r682 (by omega) (by omega)), if_pos (mo.r682 (by omega) (by omega)), e, zadd_id (by omega) (by omega), if_pos mo2.k, zm_senses d mo2, zbnd_some, zup_eq ⟨rfl, rfl⟩, zsub_id (by omega) (by omega), show m + 1 - 1 = m by omega]
  | succ t ih =>
    intro F k hF hk hk0
    obtain ⟨F, rfl⟩ : ∃ G, F = G + 1 := ⟨F - 1, by omega⟩
    have mo := h.ms (zcpg_ms (T := 682) (P := 1024 + 57 * m) (R := 685) (a := 0) (m := k) (by omega) (by decide))
    have e : zcpg c 682 (1024 + 57 * m) 685 0 k 682 1023 = m := by rw [zcpg_o (by omega)]; exact hc
    have e685 : zcpg c 682 (1024 + 57 * m) 685 0 k 685 k = c 685 (0 + k) := by rw [zcpg_o (by omega), Int.zero_add]
    rw [ze_X12_sense_230, if_pos (by omega), if_pos mo.k, if_pos mo.k, zm_senses d mo, zbnd_some, e, zm_senseAt d (by omega), zbnd_some, if_pos mo.k, mo.f.2.2.2.1, mo.f.1, if_pos (mo.r685 (by omega) (by omega)), zadd_id (by omega) (by omega), if_pos (mo.r682 (by omega) (by omega)), e685, zcpg_up hk0, zw_id' (by omega) (by omega)]
    exact ih F (k + 1) (by omega) (by omega) (by omega)
theorem M_sensePut {hd own : Int} {l : List Int} (h : RM c σ) (hn : c 682 1023 < 8) (r1 : MHd c hd) (r2 : c 685 11 = (l.length : Int)) (r3 : l.length ≤ 4) (r4 : ∀ i : Nat, i < l.length → mWd (c 685) (12 + 11 * i) ∧ mV (c 685) (12 + 11 * i) = l.getD i 0) (r5 : c 685 56 = own) (r6 : own = -5 ∨ 0 ≤ own ∧ own ≤ 3) (F : Nat) (hF : 60 ≤ F) : ∃ c', zex zc_X12_sense zk_X12_sense (zrun zTab (d + 1)) F 230 [(2, 681), (3, 0), (0, 0)] [] c = some (c 682 1023, c') ∧ RM c' (uAddS σ.1 hd l own, σ.2) ∧ zlo c c' := by
  have n9 := h.ok.1.n9
  obtain ⟨F, rfl⟩ : ∃ G, F = G + 1 := ⟨F - 1, by omega⟩
  have run := zm_sense_230 d h.1 (m := c 682 1023) (by omega) rfl 57 F 0 (by omega) (by omega) (by omega)
  rw [zcpg_0] at run
  have oo : ∀ k, (k < 1023 ∨ 1023 < k ∧ k < 1024 + 57 * c 682 1023 ∨ 1024 + 57 * c 682 1023 + 57 ≤ k) → zup (zcpg c 682 (1024 + 57 * c 682 1023) 685 0 57) 682 1023 (c 682 1023 + 1) 682 k = c 682 k := fun k hk => by rw [zup_ne (by omega), zcpg_o (by omega)]
  have oi : ∀ k, 0 ≤ k → k < 57 → zup (zcpg c 682 (1024 + 57 * c 682 1023) 685 0 57) 682 1023 (c 682 1023 + 1) 682 (1024 + 57 * c 682 1023 + k) = c 685 (0 + k) := fun k k0 k1 => by rw [zup_ne (by omega), zcpg_i k0 k1]
  have ok : mSnOK (c 685) 0 := by
    refine ⟨r1.1, ?_, fun i i0 i1 => ?_, ?_⟩
    · rw [show (0 : Int) + 11 = 11 from rfl, r2]; omega
    · rw [show (0 : Int) + 11 = 11 from rfl, r2] at i1
      have := (r4 i.toNat (by omega)).1
      rw [Int.toNat_of_nonneg i0] at this
      rw [show (0 : Int) + 12 = 12 from rfl]
      exact this
    · rw [show (0 : Int) + 56 = 56 from rfl, r5]; exact r6
  have q := ok.eq oi
  have st := mset_S (f0 := c 682) (g := zup (zcpg c 682 (1024 + 57 * c 682 1023) 685 0 57) 682 1023 (c 682 1023 + 1) 682) (hd := hd) (own := own) (l := l) h.ok.1 rfl (by omega) oo (zup_eq ⟨rfl, rfl⟩) q.1 (q.2.1.trans r1.2) (by rw [show 1035 + 57 * c 682 1023 = 1024 + 57 * c 682 1023 + 11 by omega]; exact q.2.2.1.trans r2) (by rw [show 1080 + 57 * c 682 1023 = 1024 + 57 * c 682 1023 + 56 by omega]; exact q.2.2.2.1.trans r5) (fun i i0 i1 => by
    have a := q.2.2.2.2 i i0 (by rw [show (0 : Int) + 11 = 11 from rfl, r2]; exact i1)
    have b := (r4 i.toNat (by omega)).2
    rw [Int.toNat_of_nonneg i0] at b
    rw [show 1036 + 57 * c 682 1023 + 11 * i = 1024 + 57 * c 682 1023 + 12 + 11 * i by omega, a, show (0 : Int) + 12 = 12 from rfl]
    exact b)
  rw [h.ok.2] at st
  exact ⟨_, run, RM.st h ((zcpg_ms (by omega) (by decide)).up (by decide) (Or.inl (by decide))) (fun k hk => by rw [zup_ne (by omega), zcpg_o (by omega)]) (fun k hk => by rw [zup_ne (by omega), zcpg_o (by omega)]) (fun k => by rw [zup_ne (by omega), zcpg_o (by omega)]) st.1 st.2, fun b hb k => by rw [zup_ne (by omega), zcpg_o (by omega)]⟩
theorem M_sense (h : RM c σ) : MC c (zrun zTab (d + 40) 168 [681] c) (aSense σ) := by
  have n9 := h.ok.1.n9
  rw [ze_X12_sense, if_pos h.1.k, zm_senses (d + 38) h.1, zbnd_some]
  unfold aSense
  rw [h.a9]
  by_cases e8 : c 682 1023 = 8
  · rw [if_pos e8, if_pos (by omega)]
    exact MC.of rfl h (zlo.rf c)
  · obtain ⟨c1, q1, q2, -, q4⟩ := h.begins (d + 38)
    have z1 := zm_sense_18 (d + 39) q2.1 57 19998 0 (by omega) (by omega) (by omega)
    rw [zfil_0] at z1
    obtain ⟨h2, ms2⟩ := q2.rowAny (c' := zfil c1 57) (fun b hb k => zfil_o (Or.inl hb)) (fun k hk => zfil_o (by omega))
    have lt8 : ¬ 8 ≤ c 682 1023 := by omega
    rw [if_neg e8, if_neg lt8, if_pos h.1.k, q1, zbnd_some, z1]
    have tg0 : tG σ.2.2.2.1.1 σ.2.2.2.1.2.2 (0, -1, σ.2.2.2.1.2.2) := tG.start q2.2.1.2.1.1
    obtain ⟨W1, hW1⟩ : ∃ W, tS1 σ.2.2.2.1.2.1 σ.2.2.2.1.1 σ.2.2.2.1.2.2 = W := ⟨_, rfl⟩
    obtain ⟨s2, hs2⟩ : ∃ W, tS2 σ.2.2.2.1.2.1 σ.2.2.2.1.1 σ.2.2.2.1.2.2 = W := ⟨_, rfl⟩
    obtain ⟨W3, hW3⟩ : ∃ W, tS3 σ.2.2.2.1.2.1 σ.2.2.2.1.1 σ.2.2.2.1.2.2 = W := ⟨_, rfl⟩
    obtain ⟨W4, hW4⟩ : ∃ W, tS4 σ.2.2.2.1.2.1 σ.2.2.2.1.1 σ.2.2.2.1.2.2 = W := ⟨_, rfl⟩
    obtain ⟨s5, hs5⟩ : ∃ W, tS5 σ.2.2.2.1.2.1 σ.2.2.2.1.1 σ.2.2.2.1.2.2 = W := ⟨_, rfl⟩
    have e1 : tWrd σ.2.2.2.1.2.1 σ.2.2.2.1.1 True (0, -1, σ.2.2.2.1.2.2) = W1 := hW1
    have e2 : tDem σ.2.2.2.1.2.1 σ.2.2.2.1.1 58 W1.2 = s2 := by rw [← hW1]; exact hs2
    have e3 : (if tAt σ.2.2.2.1.2.1 σ.2.2.2.1.1 s2 then tHin σ.2.2.2.1.2.1 σ.2.2.2.1.1 5 [] s2 else ([], s2)) = W3 := by rw [← hs2]; exact hW3
    have e4 : (if tCm σ.2.2.2.1.2.1 σ.2.2.2.1.1 64 W3.2 then tOwn σ.2.2.2.1.2.1 σ.2.2.2.1.1 (-5) W3.2 else (-5, W3.2)) = W4 := by rw [← hW3]; exact hW4
    have e5 : tEnd σ.2.2.2.1.2.1 σ.2.2.2.1.1 W4.2 = s5 := by rw [← hW4]; exact hs5
    rw [hW1, hW3, hW4, hs5]
    obtain ⟨c9, F', hF', w1, w3, w4, w5, w6, w7⟩ := h2.senseRead (d + 29) rfl tg0 e1 e2 e3 e4 e5 (zfil_i (by decide) (by decide)) 19941 (by decide)
    have w1 : zex zc_X12_sense zk_X12_sense (zrun zTab (d + 39)) (19998 - 57 + 1) 18 [(2, 681), (0, 57), (3, 0)] [] (zfil c1 57) = (if s5.2.1 = -1 then (zbnd (zrun zTab (d + 39) 140 [681] c9) (fun _ c10 => zex zc_X12_sense zk_X12_sense (zrun zTab (d + 39)) F' 230 [(2, 681), (3, 0), (0, 0)] [] c10)) else some (zsub (-100) s5.2.1, c9)) := w1
    have o9 : ∀ k, c9 682 k = c 682 k := fun k => by rw [w3.2.1 682 (by decide) (by decide), zfil_o (Or.inl (by decide)), q4.2.1 682 (by decide) (by decide)]
    have o1 : ∀ k, (k < 4 ∨ 8 < k ∧ k ≠ 10) → c9 681 k = c 681 k := fun k hk => by rw [w3.2.2 k (by omega), zfil_o (Or.inl (by decide)), q4.2.2 k (by omega)]
    have e8 : zfil c1 57 681 8 = c 681 8 := by rw [zfil_o (Or.inl (by decide)), q4.2.2 8 (by omega)]
    rw [e8] at w5
    have hR : RM c9 (aRd σ s5) := RM.ends (c1 := c) h ((q4.1.tr ms2).tr w3.1) (fun k hk => o1 k (by omega)) o9 w4 w5 w6
    have lo9 : zlo c c9 := fun b hb k => by rw [w3.2.1 b (by omega) (by omega), zfil_o (Or.inl (by omega)), q4.2.1 b (by omega) (by omega)]
    rw [w1]
    by_cases e : s5.2.1 = -1
    · obtain ⟨z1, z2, z3, z4, z5, z6⟩ := w7 e
      obtain ⟨c10, x1, x2, x3, x4, x5, x6⟩ := M_keeps (d + 37) hR
      have e685 : c10 685 = c9 685 := funext (x4 685 (by decide) (by decide))
      obtain ⟨c11, y1, y2, y3⟩ := M_sensePut (d + 38) x2 (hd := W1.1) (l := W3.1) (own := W4.1) (by rw [x6 1023 (by decide), o9]; omega) (by unfold MHd; rw [e685]; exact z1) (by rw [e685]; exact z2) z3 (by rw [e685]; exact z4) (by rw [e685]; exact z5) z6 F' hF'
      rw [if_pos e, if_pos e, x1, zbnd_some, y1, x6 1023 (by decide), o9]
      exact MC.of rfl y2 ((lo9.tr (fun b hb k => x4 b (by omega) (by omega) k)).tr y3)
    · rw [if_neg e, if_neg e]
      exact MC.of rfl hR lo9
end
