/-! The class's links: the meant sense. -/
theorem zcmp_ne {x y : Int} : ((if y < x then (1 : Int) else if x = y then 0 else -1) = 0) = (x = y) := zcmp_eq
section
variable {K n p S : Int} {A : zA2} (d : Nat)
theorem zs_K_cs_l (hd : K + 71 ≤ S ∨ S + 38 ≤ K) (hw : 0 ≤ A 14 0 ∧ A 14 0 ≤ 1000) {i : Nat} (hi : (i : Int) < n) : ∀ (t F s : Nat) (c : zC), LLk c K n → LLb c K → KBas c K A p n → LState c S → cview c S = A → c (K + 3) i = (mHd A p i).1 → c (K + 5) i = (mCh A p i s).2.1 → c (K + 6) i = (mCh A p i s).2.2 → t ≤ F → (s : Int) + t = A 9 0 →
    zex zc_X3_chooseSense zk_X3_chooseSense (zrun zTab (d + 2)) (F + 1) 53 [(2, K), (2, S), (0, (i : Int)), (0, (mCh A p i s).1), (0, (s : Int)), (3, 0), (3, 0)] [] c = some (0, zup (zup c (K + 5) i (mMe A p i).1) (K + 6) i (mMe A p i).2) := by
  intro t
  induction t with
  | zero =>
    intro F s c h hb hB hS hA e3 e5 e6 hF hs
    have hn := h.2.2.2.2.2
    have h9 : A 9 0 = c S 3 := by rw [← hA]; rfl
    obtain ⟨h0, h1, ⟨f0, f1, f2, f3, f4, f5, f6, f7, f8, f9⟩, ⟨-, -, -, -, ⟨a1, a2⟩, ⟨b1, b2⟩, -⟩, -⟩ := h
    have em : (A 9 0).toNat = s := by omega
    have hch := mCh_ok A p i s
    rw [ze_X3_chooseSense_53, if_pos hS.2.1, if_neg (by omega)]
    unfold mMe
    rw [em]
    by_cases e1 : (mCh A p i s).1 ≤ 1
    · rw [if_pos e1, if_neg (by omega), ← e5, zup_id, ← e6, zup_id]
    · rw [if_neg e1, if_pos h1, f5, if_pos (show c (K + 6) (-1) = 100 ∧ (0 : Int) ≤ (i : Int) ∧ (i : Int) < c (K + 6) (-2) from ⟨b1, by omega, by omega⟩), e6]
      by_cases e2 : (mCh A p i s).2.2 = 0
      · have hK1 : KRow c (zup c (K + 5) i (-5)) K := (KRow.rf c K).up (by omega) (by omega) (by omega)
        rw [if_pos (show 1 < (mCh A p i s).1 ∧ (mCh A p i s).2.2 = 0 from ⟨by omega, e2⟩), if_pos e2, if_pos h1, f4, if_pos (show c (K + 5) (-1) = 100 ∧ (0 : Int) ≤ (i : Int) ∧ (i : Int) < c (K + 5) (-2) from ⟨a1, by omega, by omega⟩), hK1.2 _ _ (by decide), if_pos h1, hK1.1 K (by omega), f5, hK1.2 _ _ (by decide), hK1.2 _ _ (by decide), if_pos (show c (K + 6) (-1) = 100 ∧ (0 : Int) ≤ (i : Int) ∧ (i : Int) < c (K + 6) (-2) from ⟨b1, by omega, by omega⟩)]
      · rw [if_neg e2, if_neg (fun q => e2 q.2), ← e5, zup_id, ← e6, zup_id]
  | succ t ih =>
    intro F s c h hb hB hS hA e3 e5 e6 hF hs
    obtain ⟨F, rfl⟩ : ∃ G, F = G + 1 := ⟨F - 1, by omega⟩
    have hh := h
    have hn := h.2.2.2.2.2
    have h9 : A 9 0 = c S 3 := by rw [← hA]; rfl
    have h14 : c S 5 = A 14 0 := by rw [← hA]; rfl
    have hsn := hS.2.2.2.2.2.2.2.2.2.2.2.2.2
    have hQ := (hS.2.2.2.2.2.2.2.2.2.1 (s : Int) (by omega) (by omega))
    have c10 : A 10 s = c (c (S + 2) s) 0 := by rw [← hA]; exact cv_10 (by omega) (by omega)
    have c11 : A 11 s = c (c (S + 2) s) 2 := by rw [← hA]; exact cv_11 (by omega) (by omega)
    have c12 : ∀ x, 0 ≤ x → x < c (c (S + 2) s) 2 → A 12 (4 * (s : Int) + x) = c (c (S + 2) s + 1) x := fun x x0 x1 => by
      rw [← hA]; exact cv_12 (by omega) (by omega) x0 (by have := hQ.2.2.2.2; omega) x1
    have hsc := zs_K_scoreOf (p := p) (A := A) d h hb hB hQ.2 c11 c12 hi hw
    have hch := mCh_ok A p i s
    obtain ⟨h0, h1, ⟨f0, f1, f2, f3, f4, f5, f6, f7, f8, f9⟩, ⟨-, -, ⟨g1, g2⟩, -, ⟨a1, a2⟩, ⟨b1, b2⟩, -⟩, -⟩ := h
    have es : mCh A p i (s + 1) = if A 10 (s : Int) = (mHd A p i).1 then ((mCh A p i s).1 + 1, if (mCh A p i s).2.2 < mSc A p i s then ((s : Int), mSc A p i s) else (mCh A p i s).2) else mCh A p i s := rfl
    rw [ze_X3_chooseSense_53, if_pos hS.2.1, if_pos (by omega), if_pos hS.2.1, zs_T_senseAt (d + 1) c hS, zbnd_some, if_pos (show 0 ≤ (s : Int) ∧ (s : Int) < c S 3 from ⟨by omega, by omega⟩), if_neg (by have := hS.1; omega), if_pos hQ.2.1, if_pos h1, f2, if_pos (show c (K + 3) (-1) = 101 ∧ (0 : Int) ≤ (i : Int) ∧ (i : Int) < c (K + 3) (-2) from ⟨g1, by omega, by omega⟩)]
    simp only [zcmp_eq]
    rw [e3, ← c10]
    by_cases e1 : A 10 s = (mHd A p i).1
    · rw [if_pos e1] at es
      rw [if_pos e1, if_pos hS.2.1, if_pos h1, h14, hsc, zbnd_some, if_pos h1, f5, if_pos (show c (K + 6) (-1) = 100 ∧ (0 : Int) ≤ (i : Int) ∧ (i : Int) < c (K + 6) (-2) from ⟨b1, by omega, by omega⟩), e6, zw_id' (by omega) (by omega), zw_id' (by omega) (by omega), show (s : Int) + 1 = ((s + 1 : Nat) : Int) by omega]
      by_cases e2 : (mCh A p i s).2.2 < mSc A p i s
      · have hK1 : KRow c (zup c (K + 5) i s) K := (KRow.rf c K).up (by omega) (by omega) (by omega)
        have hK2 : KRow c (zup (zup c (K + 5) i s) (K + 6) i (mSc A p i s)) K := hK1.up (by omega) (by omega) (by omega)
        rw [if_pos e2] at es
        rw [if_neg (by omega), if_pos h1, f4, if_pos (show c (K + 5) (-1) = 100 ∧ (0 : Int) ≤ (i : Int) ∧ (i : Int) < c (K + 5) (-2) from ⟨a1, by omega, by omega⟩), hK1.2 _ _ (by decide), if_pos h1, hK1.1 K (by omega), f5, hK1.2 _ _ (by decide), hK1.2 _ _ (by decide), if_pos (show c (K + 6) (-1) = 100 ∧ (0 : Int) ≤ (i : Int) ∧ (i : Int) < c (K + 6) (-2) from ⟨b1, by omega, by omega⟩)]
        have := ih F (s + 1) _ (hK2.lk hh) (hK2.lb hb) (hK2.bas hB) (hS.same (hK2.st hd)) ((cview_same hS (hK2.st hd)).trans hA) (by rw [zup_ne (by omega), zup_ne (by omega)]; exact e3) (by rw [zup_ne (by omega), zup_eq ⟨rfl, rfl⟩, es]) (by rw [zup_eq ⟨rfl, rfl⟩, es]) (by omega) (by omega)
        rw [zup2_up (by omega), es] at this
        exact this
      · rw [if_neg e2] at es
        rw [if_pos (by omega)]
        have := ih F (s + 1) c hh hb hB hS hA e3 (by rw [es]; exact e5) (by rw [es]; exact e6) (by omega) (by omega)
        rw [es] at this
        exact this
    · rw [if_neg e1] at es
      rw [if_neg e1, zw_id' (by omega) (by omega), show (s : Int) + 1 = ((s + 1 : Nat) : Int) by omega]
      have := ih F (s + 1) c hh hb hB hS hA e3 (by rw [es]; exact e5) (by rw [es]; exact e6) (by omega) (by omega)
      rw [es] at this
      exact this
theorem zs_K_chooseSense {c : zC} (h : LLk c K n) (hb : LLb c K) (hB : KBas c K A p n) (hS : LState c S) (hA : cview c S = A) (hd : K + 71 ≤ S ∨ S + 38 ≤ K) (hw : 0 ≤ A 14 0 ∧ A 14 0 ≤ 1000) {i : Nat} (hi : (i : Int) < n) (e3 : c (K + 3) i = (mHd A p i).1) : zrun zTab (d + 3) 17 [K, S, (i : Int)] c = some (0, zup (zup c (K + 5) i (mMe A p i).1) (K + 6) i (mMe A p i).2) := by
  have hn := h.2.2.2.2.2
  have h9 : A 9 0 = c S 3 := by rw [← hA]; rfl
  have hsn := hS.2.2.2.2.2.2.2.2.2.2.2.2.2
  have hh := h
  obtain ⟨h0, h1, ⟨f0, f1, f2, f3, f4, f5, f6, f7, f8, f9⟩, ⟨-, -, ⟨g1, g2⟩, -, ⟨a1, a2⟩, ⟨b1, b2⟩, -⟩, -⟩ := h
  have hK1 : KRow c (zup c (K + 5) i (-5)) K := (KRow.rf c K).up (by omega) (by omega) (by omega)
  have hK2 : KRow c (zup (zup c (K + 5) i (-5)) (K + 6) i (-5)) K := hK1.up (by omega) (by omega) (by omega)
  rw [ze_X3_chooseSense, if_neg (by omega), if_pos h1, f2, if_pos g1, g2, if_pos (by omega), if_pos h1, f4, if_pos a1, a2, if_pos (by omega), if_pos h1, f5, if_pos b1, b2, if_pos (by omega), if_pos h1, if_pos (show c (K + 5) (-1) = 100 ∧ (0 : Int) ≤ (i : Int) ∧ (i : Int) < 20 from ⟨a1, by omega, by omega⟩), hK1.2 _ _ (by decide), if_pos h1, hK1.1 K (by omega), f5, hK1.2 _ _ (by decide), hK1.2 _ _ (by decide), if_pos (show c (K + 6) (-1) = 100 ∧ (0 : Int) ≤ (i : Int) ∧ (i : Int) < c (K + 6) (-2) from ⟨b1, by omega, by omega⟩)]
  have := zs_K_cs_l d hd hw hi (A 9 0).toNat 19998 0 _ (hK2.lk hh) (hK2.lb hb) (hK2.bas hB) (hS.same (hK2.st hd)) ((cview_same hS (hK2.st hd)).trans hA) (by rw [zup_ne (by omega), zup_ne (by omega)]; exact e3) (by rw [zup_ne (by omega), zup_eq ⟨rfl, rfl⟩]; rfl) (by rw [zup_eq ⟨rfl, rfl⟩]; rfl) (by omega) (by omega)
  rw [zup2_up (by omega)] at this
  exact this
end
