/-! The reference: the links ahead of an edit. -/
/-- a link as the reference writes it -/
def mN (x : Int) : Int := if x = -5 then -1 else x
theorem mN_neg {x : Int} (h : x = -5 ∨ 0 ≤ x) : mN x < 0 ↔ x = -5 := by unfold mN; split <;> omega
theorem mN_inj {x y : Int} (h : x = -5 ∨ 0 ≤ x) (g : y = -5 ∨ 0 ≤ y) : mN x = mN y ↔ x = y := by unfold mN; split <;> split <;> omega
theorem mTo_rng (A : zA2) (p j : Int) : mTo A p j = -5 ∨ 0 ≤ mTo A p j := by
  unfold mTo
  split
  · rcases mMe_ok A p j with q | q
    · exact Or.inl q
    · exact Or.inr q.1
  · exact Or.inl rfl
theorem mTo_hi {A : zA2} {p j : Int} (h : A 0 p ≤ j) : mTo A p j = -5 := by unfold mTo; rw [if_neg (by omega)]
section
variable {c : zC} {σ : aS} {A : zA2} {p : Int} (d : Nat)
theorem ML.to {k : Int} (h : MO c) (l : ML c A p (A 1 p) (-1)) (n20 : A 0 p ≤ 20) (h0 : 0 ≤ k) (h1 : k < A 0 p) : zrun zTab (d + 1) 184 [681, k] c = some (mN (mTo A p k), c) := by
  obtain ⟨-, ⟨-, w2, -⟩, l3⟩ := l.1 k.toNat (by omega)
  rw [Int.toNat_of_nonneg h0] at w2 l3
  rw [if_neg (show ¬ k = -1 by omega)] at l3
  rw [ze_X12_linkOf, if_pos h.k, h.f.2.2.2.2.2.2.2.2.2.2.2.2.2.1, if_pos (h.r695 h0 (by omega)), l3]
  unfold mTo mN
  by_cases e : mR A p (A 1 p) (-1) k.toNat = 0
  · rw [if_pos e, if_pos h.k, h.f.2.2.2.2.2.2.2.2.2.2.2.1, if_pos (h.r693 h0 (by omega)), w2, if_pos (show 0 ≤ k ∧ k < A 0 p ∧ mR A p (A 1 p) (-1) k.toNat = 0 from ⟨h0, h1, e⟩)]
  · rw [if_neg e, if_neg (show ¬ (0 ≤ k ∧ k < A 0 p ∧ mR A p (A 1 p) (-1) k.toNat = 0) from fun q => e q.2.2), if_pos rfl]
/-- the rows of an edit -/
def LF2 (c c' : zC) : Prop := MS c c' ∧ (∀ b, b ≠ 681 → (b < 686 ∨ 696 < b) → ∀ k, c' b k = c b k) ∧ ∀ k, k ≠ 22 → c' 681 k = c 681 k
theorem LFr.l2 {c c' : zC} (h : LFr c c') : LF2 c c' := ⟨h.1, fun b b0 b1 k => h.2.1 b b0 (by omega) k, h.2.2⟩
theorem RM.l2 {c' : zC} (h : RM c σ) (g : LF2 c c') : RM c' σ := h.sc g.1 (fun k hk => g.2.2 k (by omega)) (fun k => g.2.1 682 (by decide) (by decide) k) (fun k => g.2.1 683 (by decide) (by decide) k)
theorem zm_begins_7 (h : MO c) (hp : isP p) (l : ML c A p (A 1 p) (-1)) (e0 : c 682 (242 * p) = A 0 p) (n20 : 0 ≤ A 0 p ∧ A 0 p ≤ 20) : ∀ (t F : Nat) (k : Int), t ≤ F → k + t = A 0 p → 0 ≤ k → zex zc_X12_begins_ zk_X12_begins_ (zrun zTab (d + 2)) (F + 1) 7 [(2, 681), (0, p), (0, k)] [] (zrow c 696 (fun i => mN (mTo A p i)) k) = some (A 0 p, zrow c 696 (fun i => mN (mTo A p i)) (A 0 p)) := by
  have rowo : ∀ (n b k : Int), (b ≠ 696 ∨ k < 0) → zrow c 696 (fun i => mN (mTo A p i)) n b k = c b k := fun n b k hh => by unfold zrow; rw [if_neg (by omega)]
  have ms : ∀ n, MS c (zrow c 696 (fun i => mN (mTo A p i)) n) := fun n => ⟨fun b k hk => rowo n b k (Or.inr hk), fun k _ => rowo n 681 k (Or.inl (by decide))⟩
  intro t
  induction t with
  | zero =>
    intro F k hF hk hk0
    have m := h.ms (ms k)
    rw [ze_X12_begins__7, if_pos m.k, zm_words (d + 1) m hp, zbnd_some, rowo _ _ _ (Or.inl (by decide)), e0, if_neg (by omega), if_pos m.k, zm_words (d + 1) m hp, zbnd_some, rowo _ _ _ (Or.inl (by decide)), e0, show k = A 0 p by omega]
  | succ t ih =>
    intro F k hF hk hk0
    obtain ⟨F, rfl⟩ : ∃ G, F = G + 1 := ⟨F - 1, by omega⟩
    have m := h.ms (ms k)
    have l2 : ML (zrow c 696 (fun i => mN (mTo A p i)) k) A p (A 1 p) (-1) := l.same (fun b _ _ b2 j _ => rowo k b j (Or.inl b2))
    have up := zrow_up c 696 (fun i => mN (mTo A p i)) (n := k) hk0
    rw [ze_X12_begins__7, if_pos m.k, zm_words (d + 1) m hp, zbnd_some, rowo _ _ _ (Or.inl (by decide)), e0, if_pos (by omega), if_pos m.k, if_pos m.k, m.f.2.2.2.2.2.2.2.2.2.2.2.2.2.2.1, l2.to (d + 1) m n20.2 hk0 (by omega), zbnd_some, if_pos (m.r696 hk0 (by omega)), up, zw_id' (by omega) (by omega)]
    exact ih F (k + 1) (by omega) (by omega) (by omega)
theorem RM.beg (h : RM c σ) (hp : isP p) : ∃ c', zrun zTab (d + 8) 185 [681, p] c = some (σ.1 0 p, c') ∧ LF2 c c' ∧ ∀ k, 0 ≤ k → k < σ.1 0 p → c' 696 k = mN (mTo σ.1 p k) := by
  obtain ⟨c1, q1, q2, q3⟩ := zm_links1 d h.1 h.ok.1 hp
  have m1 := h.1.ms q2.1
  have n20 := (h.ok.1.pg hp).1
  have e0 : c 682 (242 * p) = σ.1 0 p := by rw [← h.ok.2]; exact (mw_0 hp).symm
  rw [h.ok.2] at q3
  have run := zm_begins_7 (d + 5) m1 hp q3 (by rw [q2.e682]; exact e0) (by rw [← e0]; exact n20) (σ.1 0 p).toNat 19998 0 (by omega) (by omega) (Int.le_refl 0)
  rw [zrow_0] at run
  have o : ∀ b k, (b ≠ 696 ∨ k < 0) → zrow c1 696 (fun i => mN (mTo σ.1 p i)) (σ.1 0 p) b k = c1 b k := fun b k hh => by unfold zrow; rw [if_neg (by omega)]
  have ms : MS c1 (zrow c1 696 (fun i => mN (mTo σ.1 p i)) (σ.1 0 p)) := ⟨fun b k hk => o b k (Or.inr hk), fun k _ => o 681 k (Or.inl (by decide))⟩
  refine ⟨_, ?_, ⟨q2.1.tr ms, fun b b0 b1 k => (o b k (Or.inl (by omega))).trans (q2.2.1 b b0 (by omega) k), fun k hk => (o 681 k (Or.inl (by decide))).trans (q2.2.2 k hk)⟩, fun k k0 k1 => ?_⟩
  · rw [ze_X12_begins_, if_pos h.1.k, q1, zbnd_some]
    exact run
  · unfold zrow; rw [if_pos ⟨rfl, k0, k1⟩]
end
