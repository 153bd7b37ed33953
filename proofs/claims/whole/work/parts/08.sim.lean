/-! What the small machine computes, the real one computes. -/
section
variable {tab : Nat → zT} {own : String} {cc : ByteArray} {nL : Nat} {rt : Option FieldType} {nm : String}
variable {D : va_G} {cy : Nat → ClassId} {b b0 L : Nat} {xs : Nat → Int32} {l : Launch} {call : zCall} {p : Program} {e : Env} {R : Room} {s : State} {m : MethodId} {args : Array Value} {below : List Frame} {meth : Method} {cd : Code} {Q : State → Prop} {n0 s0 : Int} {dl : Nat} {v : Int} {c' : zC}
theorem zseg_ok {code : Nat → zIns} {cuts : Nat → Option (List Bool)} {K : zK} (hs : ∀ pc, zSound tab own cc nL rt nm pc (code pc)) (hCall : zHC tab D cy b b0 L xs l call dl) (hbb : b < b0)
    (hK : ∀ (pc : Nat) (ls st : List zTV) (c : zC), K pc ls st c = some (v, c') → zWA D cy b b0 L xs own cc nL rt nm dl p l e R s m args below meth cd Q n0 s0 v c' pc ls st c) :
    ∀ (n pc : Nat) (ls st : List zTV) (c : zC), zseg code cuts call K n pc ls st c = some (v, c') → zWA D cy b b0 L xs own cc nL rt nm dl p l e R s m args below meth cd Q n0 s0 v c' pc ls st c := by
  intro n
  induction n with
  | zero => intro pc ls st c h; cases h
  | succ n ih =>
    intro pc ls st c h
    refine hs pc D cy b b0 L xs l call p e R s m args below meth cd Q n0 s0 dl v c' hCall hbb ls st c _ h (fun pc' ls' st' c1 h1 => ?_)
    cases hc : cuts pc' with
    | some mk =>
      rw [hc] at h1
      have g := hK pc' (zmask mk ls') st' c1 h1
      intro w1 w2 w3 w4
      have g1 := g w1 (zmask_ok w2) w3 (by rw [zmask_len]; exact w4)
      exact ⟨g1.1, fun hF hR a1 a2 H locs lsR hP hS hL => g1.2 hF hR a1 a2 H locs lsR hP hS (zl_sub hL zmask_lv)⟩
    | none => rw [hc] at h1; exact ih pc' ls' st' c1 h1
theorem zex_ok {code : Nat → zIns} {cuts : Nat → Option (List Bool)} (hs : ∀ pc, zSound tab own cc nL rt nm pc (code pc)) (hCall : zHC tab D cy b b0 L xs l call dl) (hbb : b < b0) :
    ∀ (n pc : Nat) (ls st : List zTV) (c : zC), zex code cuts call n pc ls st c = some (v, c') → zWA D cy b b0 L xs own cc nL rt nm dl p l e R s m args below meth cd Q n0 s0 v c' pc ls st c := by
  intro n
  induction n with
  | zero => intro pc ls st c h; cases h
  | succ n ih => intro pc ls st c h; exact zseg_ok hs hCall hbb ih 1000 pc ls st c h
end
/-- how many locals the arguments take -/
def zwide : List Nat → Nat
  | [] => 0
  | t :: ts => cond (Nat.beq t 1) 2 1 + zwide ts
theorem zwide_sl {b b0 : Nat} {ts : List Nat} {as : List Int} : (lg_sl ((List.zip ts as).map (zV b b0))).length ≤ zwide ts := by
  induction ts generalizing as with
  | nil => simp [lg_sl]
  | cons t ts ih =>
    cases as with
    | nil => simp [lg_sl]
    | cons x as =>
      have h := ih (as := as)
      rw [List.zip_cons_cons, List.map_cons]
      show (lg_sl (zV b b0 (t, x) :: _)).length ≤ cond (Nat.beq t 1) 2 1 + zwide ts
      unfold lg_sl at h ⊢
      rw [List.flatMap_cons, List.length_append]
      by_cases e : t = 1
      · subst e
        have : (if (zV b b0 (1, x)).category = 2 then [Slot.val (zV b b0 (1, x)), Slot.second] else [Slot.val (zV b b0 (1, x))]).length = 2 := rfl
        rw [this]
        show _ ≤ 2 + _
        omega
      · rw [zV_cat (t, x) e, if_neg (by decide)]
        cases Nat.beq t 1
        · show 1 + _ ≤ 1 + _; omega
        · show 1 + _ ≤ 2 + _; omega
/-- what is to be known of a method -/
def zMeth (tab : Nat → zT) (mi : Nat) : Prop :=
  (∀ (call : zCall) (as : List Int) (c : zC), zrunM ((tab mi).2.2.2.2.2.1, (tab mi).2.2.2.2.2.2, (tab mi).2.2.2.2.1, (tab mi).2.2.1) call as c = none) ∨
  (plainName (tab mi).1.cls = true ∧ zwide (tab mi).2.2.2.2.1 ≤ (tab mi).2.2.1 ∧ ((tab mi).2.2.2.1 = none ∨ (tab mi).2.2.2.1 = some .int ∨ (tab mi).2.2.2.1 = some .boolean ∨ (tab mi).2.2.2.1 = some .long ∨ ∃ n, (tab mi).2.2.2.1 = some (.object n)) ∧
    ∀ pc, zSound tab (tab mi).1.cls (tab mi).2.1 (tab mi).2.2.1 (tab mi).2.2.2.1 (tab mi).1.name pc ((tab mi).2.2.2.2.2.1 pc))
def zrun (tab : Nat → zT) : Nat → zCall
  | 0 => fun _ _ _ => none
  | d + 1 => fun mi as c => zrunM ((tab mi).2.2.2.2.2.1, (tab mi).2.2.2.2.2.2, (tab mi).2.2.2.2.1, (tab mi).2.2.1) (zrun tab d) as c
theorem zent_ls {b b0 : Nat} {ts : List Nat} {as : List Int} {n : Nat} (hn : zwide ts ≤ n) : lv_has ((lg_sl ((List.zip ts as).map (zV b b0)) ++ List.replicate (n - (lg_sl ((List.zip ts as).map (zV b b0))).length) Slot.unset).toArray) n (zlv (zV b b0) 0 (zpad n (zent ts as))) :=
  zl_sub (lv_entry _ (Nat.le_trans zwide_sl hn)) (zent_mem (fun x => rfl) (fun t x h => zV_cat (t, x) h) n 0)
theorem zsim (p0 : Program) (e0 : Env) {tab : Nat → zT} (hm : ∀ mi, zMeth tab mi) {D : va_G} {cy : Nat → ClassId} {b b0 L : Nat} {xs : Nat → Int32} {l : Launch} : ∀ d : Nat, zHC tab D cy b b0 L xs l (zrun tab d) d := by
  intro d
  induction d with
  | zero => intro mi as c v c' h; cases h
  | succ d ih =>
    intro mi as c v c' h
    have h : zrunM ((tab mi).2.2.2.2.2.1, (tab mi).2.2.2.2.2.2, (tab mi).2.2.2.2.1, (tab mi).2.2.1) (zrun tab d) as c = some (v, c') := h
    rcases hm mi with hz | ⟨hpn, hwd, hrt, hs⟩
    · rw [hz] at h; cases h
    · intro hbb w1 o1 l1
      generalize hq : tab mi = q at h hpn hwd hrt hs o1 l1 ⊢
      obtain ⟨y, bytes, nL, rt, tg, code, cuts⟩ := q
      dsimp only at h hpn hwd hrt hs o1 l1 ⊢
      have hall := fun (p : Program) (e : Env) (R : Room) (s : State) (m : MethodId) (args : Array Value) (below : List Frame) (meth : Method) (cd : Code) (Q : State → Prop) (n0 s0 : Int) =>
        zex_ok (p := p) (e := e) (R := R) (s := s) (m := m) (args := args) (below := below) (meth := meth) (cd := cd) (Q := Q) (n0 := n0) (s0 := s0) hs ih hbb 20000 0 _ _ c h w1 (zpad_ok (zent_ok o1)) (fun q hq => by cases hq) (zpad_len _ _)
      have hfirst := (hall p0 e0 {} default default default default default { maxStack := 0, maxLocals := 0, code := ⟨#[]⟩, exceptionTable := #[], attributes := #[] } (fun _ => True) 0 0).1
      refine ⟨hfirst, ?_⟩
      obtain ⟨f1, f2, f3, f4⟩ := hfirst
      refine Met.ofW (cc := bytes) (maxL := nL) (ret := rt) hpn rfl ?_
      intro p e s m args below meth cd s₁ B hml hv
      obtain ⟨rfl, hP, hsz, hKn, hX⟩ := hv
      have hts := atoms_spec B.pre
      rw [lg_entry_eq]
      have hL := zent_ls (b := b) (b0 := b0) (as := as) hwd
      have hF : zFx D cy b b0 L xs y.cls bytes nL y.name p (zrm c c' (d + 1)) s m ((List.zip tg as).map (zV b b0)).toArray meth cd (c 0 0) (c 0 1) d c' :=
        ⟨B.exec, B.bytes, hml, findClass_of_methodNamed B.named, fun w hw => hts w (List.mem_cons_of_mem _ hw), hKn, hX, hbb, hsz, w1.1, w1.2.1, Nat.le_refl _, Nat.le_refl _, Nat.le_refl _, Nat.le_refl _, (name_of_methodNamed B.named B.method).1⟩
      have hR : zRt D cy b b0 bytes rt p l e (zrm c c' (d + 1)) s m ((List.zip tg as).map (zV b b0)).toArray below meth cd (MQ below (zQc D cy b b0 rt v c') ((List.zip tg as).map (zV b b0)).toArray s (c' 0 0 - c 0 0).toNat (c' 0 1 - c 0 1).toNat (zA b0)) (c 0 0) (c 0 1) v c' := by
        intro pc H locs lsR stv hra hP2 hS2
        have hq : ∀ (vo : Option Value), vo = zrv b b0 rt v → ∀ t : State, t.heap = H → s.WarmedH t.vm → zQc D cy b b0 rt v c' ((List.zip tg as).map (zV b b0)).toArray s (.returned vo) t := fun vo hvo t ht hW => ⟨by rw [hvo], by rw [ht]; exact hP2, hS2.F ht⟩
        have hlocks := B.notSynchronized
        rcases hrt with rfl | rfl | rfl | rfl | ⟨n, rfl⟩
        · obtain ⟨hd, rfl⟩ := hra
          exact W.vret B.exec B.bytes B.returns (hq none rfl) hS2.2.2 hd
        · obtain ⟨hd, rfl⟩ := hra
          exact W.iret B.exec B.bytes B.returns (hq _ rfl) hS2.2.2 hd
        · obtain ⟨hd, rfl, hz⟩ := hra
          exact W.zret (ty := .boolean) B.exec B.bytes B.returns (zfitZ hz).1 (hq _ rfl) hS2.2.2 hd
        · obtain ⟨hd, rfl⟩ := hra
          exact W.lret B.exec B.bytes B.returns (hq _ rfl) hS2.2.2 hd
        · obtain ⟨hd, rfl⟩ := hra
          refine W.aret (rt := .object n) B.exec B.bytes B.returns (Or.inl ⟨n, rfl⟩) ?_ (hq _ rfl) hS2.2.2 hd
          by_cases e0 : v = 0
          · subst e0; exact Or.inl rfl
          · exact Or.inr ⟨_, zref e0⟩
      have hw := (hall p e (zrm c c' (d + 1)) s m _ below meth cd _ (c 0 0) (c 0 1)).2 hF hR (Int.le_refl _) (Int.le_refl _) s.heap [] _ hP va_S.rf hL
      rw [show (c 0 0 - c 0 0).toNat = 0 by omega, show (c 0 1 - c 0 1).toNat = 0 by omega] at hw
      exact hw
