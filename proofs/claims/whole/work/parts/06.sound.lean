/-! The rows: each instruction of the small machine is one of the real machine's. -/
def zTY : List (Nat × FieldType) := [(0, .int), (1, .long), (2, .boolean), (3, .object RX0), (6, .object RX3), (7, .object RX4), (9, .object RX6), (10, .object RX7), (11, .object RX8)]
def zAO : List String := [RX0, RX3, RX4, RX6, RX7, RX8]
def zNW : List zN := [(RX11, 11, yX9_init, RX11), (RX9, 24, yX4_init, RX11), (RX9, 31, yX7_init, RX11), (RX9, 38, yX6_init, RX11), (RX8, 36, yX4_init, RX11), (RX8, 37, yX7_init, RX11), (RX8, 38, yX6_init, RX11), (RX11, 41, yX1_init, RX11), (RX3, 46, yX5_init, RX11), (RX3, 51, yX0_init, RX11)]
abbrev zKN (D : va_G) (cy : Nat → ClassId) (U : State) : Prop := zKn zNW zAO zTY D cy U
abbrev zA (b0 : Nat) : Nat → Prop := fun q => b0 ≤ q
/-- a method as the tables and the small machine have it: its name, bytes, locals, answer's type, arguments' kinds, code, cuts -/
abbrev zT : Type := MethodName × ByteArray × Nat × Option FieldType × List Nat × (Nat → zIns) × (Nat → Option (List Bool))
def zrv (b b0 : Nat) (rt : Option FieldType) (v : Int) : Option Value := match rt with
  | none => none
  | some ty => some (zV b b0 (ztg ty, v))
def zokr (rt : Option FieldType) (v : Int) : Prop := match rt with
  | none => True
  | some ty => zokv (ztg ty, v)
def zPc (D : va_G) (cy : Nat → ClassId) (b b0 L : Nat) (xs : Nat → Int32) (tg : List Nat) (as : List Int) (c : zC) : Array Value → State → Prop := fun a U =>
  a = ((List.zip tg as).map (zV b b0)).toArray ∧ va_P D vwCl (zws b b0 cy c) U.heap ∧ U.heap.size = b0 + (c 0 0 - 2).toNat ∧ zKN D cy U ∧ va_X b L xs U U.heap
def zQc (D : va_G) (cy : Nat → ClassId) (b b0 : Nat) (rt : Option FieldType) (v : Int) (c' : zC) : Array Value → State → Outcome → State → Prop := fun _ st oc t =>
  oc = .returned (zrv b b0 rt v) ∧ va_P D vwCl (zws b b0 cy c') t.heap ∧ va_F (zA b0) st t
def zrm (c c' : zC) (dl : Nat) : Room := { frames := dl, cells := (c' 0 0 - c 0 0).toNat, slots := (c' 0 1 - c 0 1).toNat, locals := 64 * dl }
/-- what a call keeps: a method's contract for these arguments and this heap -/
def zCon (D : va_G) (cy : Nat → ClassId) (b b0 L : Nat) (xs : Nat → Int32) (l : Launch) (dl : Nat) (q : zT) (as : List Int) (c : zC) (v : Int) (c' : zC) : Prop :=
  b < b0 → zwf L xs c → zokl (List.zip q.2.2.2.2.1 as) → as.length = q.2.2.2.2.1.length → (zokr q.2.2.2.1 v ∧ zwf L xs c' ∧ c 0 0 ≤ c' 0 0 ∧ c 0 1 ≤ c' 0 1) ∧
    Met l q.1 (.code q.1 q.2.1 q.2.2.1 q.2.2.2.1 :: zWS) (zrm c c' dl) (zPc D cy b b0 L xs q.2.2.2.2.1 as c) (zQc D cy b b0 q.2.2.2.1 v c') (c' 0 0 - c 0 0).toNat (c' 0 1 - c 0 1).toNat (zA b0)
/-- all calls keep their contracts; tab: the methods by their numbers -/
def zHC (tab : Nat → zT) (D : va_G) (cy : Nat → ClassId) (b b0 L : Nat) (xs : Nat → Int32) (l : Launch) (call : zCall) (dl : Nat) : Prop :=
  ∀ (mi : Nat) (as : List Int) (c : zC) (v : Int) (c' : zC), call mi as c = some (v, c') → zCon D cy b b0 L xs l dl (tab mi) as c v c'
/-- a frame of the real machine, as a method's body starts -/
def zFx (D : va_G) (cy : Nat → ClassId) (b b0 L : Nat) (xs : Nat → Int32) (own : String) (cc : ByteArray) (nL : Nat) (nm : String) (p : Program) (R : Room) (s : State) (m : MethodId) (args : Array Value) (meth : Method) (cd : Code) (n0 s0 : Int) (dl : Nat) (c' : zC) : Prop :=
  p.tables.exec = Jvm.exec ∧ cd.code = cc ∧ cd.maxLocals = nL ∧ s.vm.findClass own = some m.cls ∧ (∀ w ∈ zWS, w.before args s = true) ∧ zKN D cy s ∧ va_X b L xs s s.heap ∧ b < b0 ∧ s.heap.size = b0 + (n0 - 2).toNat ∧ 2 ≤ n0 ∧ 0 ≤ s0 ∧ dl + 1 ≤ R.frames ∧ 64 * (dl + 1) ≤ R.locals ∧ (c' 0 0 - n0).toNat ≤ R.cells ∧ (c' 0 1 - s0).toNat ≤ R.slots ∧ meth.name = nm
/-- a return: the instruction and the stack -/
def zRA (b b0 : Nat) (cc : ByteArray) (rt : Option FieldType) (pc : Nat) (v : Int) (stv : List Value) : Prop := match rt with
  | none => decode cc pc = .ok (.return_, 1) ∧ stv = []
  | some .int => decode cc pc = .ok (.ireturn, 1) ∧ stv = [zV b b0 (0, v)]
  | some .boolean => decode cc pc = .ok (.ireturn, 1) ∧ stv = [zV b b0 (0, v)] ∧ (v = 0 ∨ v = 1)
  | some .long => decode cc pc = .ok (.lreturn, 1) ∧ stv = [zV b b0 (1, v)]
  | some (.object _) => decode cc pc = .ok (.areturn, 1) ∧ stv = [zV b b0 (2, v)]
  | _ => False
def zRt (D : va_G) (cy : Nat → ClassId) (b b0 : Nat) (cc : ByteArray) (rt : Option FieldType) (p : Program) (l : Launch) (e : Env) (R : Room) (s : State) (m : MethodId) (args : Array Value) (below : List Frame) (meth : Method) (cd : Code) (Q : State → Prop) (n0 s0 : Int) (v : Int) (c' : zC) : Prop :=
  ∀ (pc : Nat) (H : Heap) (locs : List Loc) (lsR : Array Slot) (stv : List Value), zRA b b0 cc rt pc v stv → va_P D vwCl (zws b b0 cy c') H → va_S (zA b0) s.heap H locs → W p l e R s m args below meth cd H locs (c' 0 0 - n0).toNat (c' 0 1 - s0).toNat Q (F0 m pc lsR stv)
/-- from this place the small machine comes to (v, c'), and the real one to what follows from it -/
def zWA (D : va_G) (cy : Nat → ClassId) (b b0 L : Nat) (xs : Nat → Int32) (own : String) (cc : ByteArray) (nL : Nat) (rt : Option FieldType) (nm : String) (dl : Nat) (p : Program) (l : Launch) (e : Env) (R : Room) (s : State) (m : MethodId) (args : Array Value) (below : List Frame) (meth : Method) (cd : Code) (Q : State → Prop) (n0 s0 : Int) (v : Int) (c' : zC) (pc : Nat) (ls st : List zTV) (c : zC) : Prop :=
  zwf L xs c → zokl ls → zokl st → ls.length = nL → (zokr rt v ∧ zwf L xs c' ∧ c 0 0 ≤ c' 0 0 ∧ c 0 1 ≤ c' 0 1) ∧
    (zFx D cy b b0 L xs own cc nL nm p R s m args meth cd n0 s0 dl c' → zRt D cy b b0 cc rt p l e R s m args below meth cd Q n0 s0 v c' → n0 ≤ c 0 0 → s0 ≤ c 0 1 → ∀ (H : Heap) (locs : List Loc) (lsR : Array Slot), va_P D vwCl (zws b b0 cy c) H → va_S (zA b0) s.heap H locs → lv_has lsR nL (zlv (zV b b0) 0 ls) → W p l e R s m args below meth cd H locs (c 0 0 - n0).toNat (c 0 1 - s0).toNat Q (F0 m pc lsR (st.map (zV b b0))))
def zSound (tab : Nat → zT) (own : String) (cc : ByteArray) (nL : Nat) (rt : Option FieldType) (nm : String) (pc : Nat) (ins : zIns) : Prop :=
  ∀ (D : va_G) (cy : Nat → ClassId) (b b0 L : Nat) (xs : Nat → Int32) (l : Launch) (call : zCall) (p : Program) (e : Env) (R : Room) (s : State) (m : MethodId) (args : Array Value) (below : List Frame) (meth : Method) (cd : Code) (Q : State → Prop) (n0 s0 : Int) (dl : Nat) (v : Int) (c' : zC),
    zHC tab D cy b b0 L xs l call dl → b < b0 →
    ∀ (ls st : List zTV) (c : zC) (k : zK), ins call ls st c k = some (v, c') → (∀ (pc' : Nat) (ls' st' : List zTV) (c1 : zC), k pc' ls' st' c1 = some (v, c') → zWA D cy b b0 L xs own cc nL rt nm dl p l e R s m args below meth cd Q n0 s0 v c' pc' ls' st' c1) →
      zWA D cy b b0 L xs own cc nL rt nm dl p l e R s m args below meth cd Q n0 s0 v c' pc ls st c
/-- the heap's size at any step, out of what the machine counts -/
theorem zW_size {p : Program} {l : Launch} {e : Env} {R : Room} {s : State} {m : MethodId} {args : Array Value} {below : List Frame} {meth : Method} {cd : Code} {Q : State → Prop} {H : Heap} {locs : List Loc} {cells slots : Nat} {g : JFrame} (h : H.size ≤ s.heap.size + cells → W p l e R s m args below meth cd H locs cells slots Q g) : W p l e R s m args below meth cd H locs cells slots Q g := by
  intro T hT X
  exact h (by have := X.heapSize; rw [hT] at this; exact this) T hT X
theorem zsize {D : va_G} {cy : Nat → ClassId} {b b0 : Nat} {s : State} {c : zC} {H : Heap} {locs : List Loc} {n0 : Int} (hP : va_P D vwCl (zws b b0 cy c) H) (hS : va_S (zA b0) s.heap H locs) (hsz : s.heap.size = b0 + (n0 - 2).toNat) (h0 : 2 ≤ n0) (hn : n0 ≤ c 0 0) (hu : H.size ≤ s.heap.size + (c 0 0 - n0).toNat) : H.size = b0 + (c 0 0 - 2).toNat := by
  have h1 : s.heap.size ≤ H.size := hS.1
  by_cases h : c 0 0 = n0
  · rw [h] at hu ⊢; omega
  · have g := zws_get (b := b) (b0 := b0) (cy := cy) (c := c) (a := c 0 0 - 1) (by omega) (by omega)
    have := (hP _ _ g).lt
    simp only [zro_2 (show 2 ≤ c 0 0 - 1 by omega)] at this
    omega
section
variable {tab : Nat → zT} {own : String} {cc : ByteArray} {nL : Nat} {rt : Option FieldType} {nm : String} {pc : Nat}
theorem zs_fail : zSound tab own cc nL rt nm pc zi_fail := by
  intro D cy b b0 L xs l call p e R s m args below meth cd Q n0 s0 dl v c' hCall hbb ls st c k h hk w1 w2 w3 w4
  cases h
theorem zs_iconst {n : Int} (hd : decode cc pc = .ok (.iconst n, 1)) (hv : zin32 n) : zSound tab own cc nL rt nm pc (zi_iconst n (pc + 1)) := by
  intro D cy b b0 L xs l call p e R s m args below meth cd Q n0 s0 dl v c' hCall hbb ls st c k h hk w1 w2 w3 w4
  have g := hk _ _ _ _ h w1 w2 (zokl_c (zok0 hv) w3) w4
  refine ⟨g.1, fun hF hR a1 a2 H locs lsR hP hS hL => ?_⟩
  have hF9 := hF
  obtain ⟨hx, hb, hml, hown, hts, hKn, hX, hbb2, hsz, hn0, hs0, hfr, hlo, hrc, hrs, hnm⟩ := hF9
  exact lv_iconst hx hb hd rfl (g.2 hF hR a1 a2 H locs lsR hP hS hL)
theorem zs_bipush {n : Int} (hd : decode cc pc = .ok (.bipush n, 2)) (hv : zin32 n) (he : (Int8.ofInt n).toInt32 = Int32.ofInt n) : zSound tab own cc nL rt nm pc (zi_iconst n (pc + 2)) := by
  intro D cy b b0 L xs l call p e R s m args below meth cd Q n0 s0 dl v c' hCall hbb ls st c k h hk w1 w2 w3 w4
  have g := hk _ _ _ _ h w1 w2 (zokl_c (zok0 hv) w3) w4
  refine ⟨g.1, fun hF hR a1 a2 H locs lsR hP hS hL => ?_⟩
  have hF9 := hF
  obtain ⟨hx, hb, hml, hown, hts, hKn, hX, hbb2, hsz, hn0, hs0, hfr, hlo, hrc, hrs, hnm⟩ := hF9
  exact lv_bipush hx hb hd he (g.2 hF hR a1 a2 H locs lsR hP hS hL)
theorem zs_sipush {n : Int} (hd : decode cc pc = .ok (.sipush n, 3)) (hv : zin32 n) (he : (Int16.ofInt n).toInt32 = Int32.ofInt n) : zSound tab own cc nL rt nm pc (zi_iconst n (pc + 3)) := by
  intro D cy b b0 L xs l call p e R s m args below meth cd Q n0 s0 dl v c' hCall hbb ls st c k h hk w1 w2 w3 w4
  have g := hk _ _ _ _ h w1 w2 (zokl_c (zok0 hv) w3) w4
  refine ⟨g.1, fun hF hR a1 a2 H locs lsR hP hS hL => ?_⟩
  have hF9 := hF
  obtain ⟨hx, hb, hml, hown, hts, hKn, hX, hbb2, hsz, hn0, hs0, hfr, hlo, hrc, hrs, hnm⟩ := hF9
  exact lv_sipush hx hb hd he (g.2 hF hR a1 a2 H locs lsR hP hS hL)
theorem zs_lconst {n : Fin 2} {x : Int} (hd : decode cc pc = .ok (.lconst n, 1)) (hv : zin64 x) (he : Int64.ofNat (n : Nat) = Int64.ofInt x) : zSound tab own cc nL rt nm pc (zi_lconst x (pc + 1)) := by
  intro D cy b b0 L xs l call p e R s m args below meth cd Q n0 s0 dl v c' hCall hbb ls st c k h hk w1 w2 w3 w4
  have g := hk _ _ _ _ h w1 w2 (zokl_c (zok1 hv) w3) w4
  refine ⟨g.1, fun hF hR a1 a2 H locs lsR hP hS hL => ?_⟩
  have hF9 := hF
  obtain ⟨hx, hb, hml, hown, hts, hKn, hX, hbb2, hsz, hn0, hs0, hfr, hlo, hrc, hrs, hnm⟩ := hF9
  exact lv_lconst hx hb hd he (g.2 hF hR a1 a2 H locs lsR hP hS hL)
theorem zs_ldc2 {index : Nat} {x : Int} (hd : decode cc pc = .ok (.ldc2_w index, 3)) (hv : zin64 x) (hw : Jvm.Cond.constantLong own index (Int64.ofInt x) ∈ zWS) : zSound tab own cc nL rt nm pc (zi_lconst x (pc + 3)) := by
  intro D cy b b0 L xs l call p e R s m args below meth cd Q n0 s0 dl v c' hCall hbb ls st c k h hk w1 w2 w3 w4
  have g := hk _ _ _ _ h w1 w2 (zokl_c (zok1 hv) w3) w4
  refine ⟨g.1, fun hF hR a1 a2 H locs lsR hP hS hL => ?_⟩
  have hF9 := hF
  obtain ⟨hx, hb, hml, hown, hts, hKn, hX, hbb2, hsz, hn0, hs0, hfr, hlo, hrc, hrs, hnm⟩ := hF9
  exact lv_ldc2 hx hb hown (hts _ hw) hd (g.2 hF hR a1 a2 H locs lsR hP hS hL)
theorem zs_null (hd : decode cc pc = .ok (.aconst_null, 1)) : zSound tab own cc nL rt nm pc (zi_null (pc + 1)) := by
  intro D cy b b0 L xs l call p e R s m args below meth cd Q n0 s0 dl v c' hCall hbb ls st c k h hk w1 w2 w3 w4
  have g := hk _ _ _ _ h w1 w2 (zokl_c zok2 w3) w4
  refine ⟨g.1, fun hF hR a1 a2 H locs lsR hP hS hL => ?_⟩
  have hF9 := hF
  obtain ⟨hx, hb, hml, hown, hts, hKn, hX, hbb2, hsz, hn0, hs0, hfr, hlo, hrc, hrs, hnm⟩ := hF9
  exact lv_null hx hb hd (g.2 hF hR a1 a2 H locs lsR hP hS hL)
theorem zs_iload_n {k0 : Fin 4} {i : Nat} (hd : decode cc pc = .ok (.iload_n k0, 1)) (hi0 : (k0 : Nat) = i) : zSound tab own cc nL rt nm pc (zi_load 0 i (pc + 1)) := by
  intro D cy b b0 L xs l call p e R s m args below meth cd Q n0 s0 dl v c' hCall hbb ls st c k h hk w1 w2 w3 w4
  obtain ⟨e1, h⟩ := zc_of h
  have o1 : zokv (0, (znth ls i).2) := by have := znth_ok w2 i; rw [show znth ls i = ((znth ls i).1, (znth ls i).2) from rfl, e1] at this; exact this
  have g := hk _ _ _ _ h w1 w2 (zokl_c o1 w3) w4
  refine ⟨g.1, fun hF hR a1 a2 H locs lsR hP hS hL => ?_⟩
  have hF9 := hF
  obtain ⟨hx, hb, hml, hown, hts, hKn, hX, hbb2, hsz, hn0, hs0, hfr, hlo, hrc, hrs, hnm⟩ := hF9
  have hl := zl_at hL (i := i) (by rw [e1]; decide)
  rw [show zV b b0 (znth ls i) = zV b b0 (0, (znth ls i).2) by rw [show znth ls i = ((znth ls i).1, (znth ls i).2) from rfl, e1]] at hl
  exact lv_iload_n hx hb hd hi0 hl (g.2 hF hR a1 a2 H locs lsR hP hS hL)
theorem zs_iload {i : Nat} (hd : decode cc pc = .ok (.iload i, 2)) : zSound tab own cc nL rt nm pc (zi_load 0 i (pc + 2)) := by
  intro D cy b b0 L xs l call p e R s m args below meth cd Q n0 s0 dl v c' hCall hbb ls st c k h hk w1 w2 w3 w4
  obtain ⟨e1, h⟩ := zc_of h
  have o1 : zokv (0, (znth ls i).2) := by have := znth_ok w2 i; rw [show znth ls i = ((znth ls i).1, (znth ls i).2) from rfl, e1] at this; exact this
  have g := hk _ _ _ _ h w1 w2 (zokl_c o1 w3) w4
  refine ⟨g.1, fun hF hR a1 a2 H locs lsR hP hS hL => ?_⟩
  have hF9 := hF
  obtain ⟨hx, hb, hml, hown, hts, hKn, hX, hbb2, hsz, hn0, hs0, hfr, hlo, hrc, hrs, hnm⟩ := hF9
  have hl := zl_at hL (i := i) (by rw [e1]; decide)
  rw [show zV b b0 (znth ls i) = zV b b0 (0, (znth ls i).2) by rw [show znth ls i = ((znth ls i).1, (znth ls i).2) from rfl, e1]] at hl
  exact lv_iload hx hb hd hl (g.2 hF hR a1 a2 H locs lsR hP hS hL)
theorem zs_lload_n {k0 : Fin 4} {i : Nat} (hd : decode cc pc = .ok (.lload_n k0, 1)) (hi0 : (k0 : Nat) = i) : zSound tab own cc nL rt nm pc (zi_load 1 i (pc + 1)) := by
  intro D cy b b0 L xs l call p e R s m args below meth cd Q n0 s0 dl v c' hCall hbb ls st c k h hk w1 w2 w3 w4
  obtain ⟨e1, h⟩ := zc_of h
  have o1 : zokv (1, (znth ls i).2) := by have := znth_ok w2 i; rw [show znth ls i = ((znth ls i).1, (znth ls i).2) from rfl, e1] at this; exact this
  have g := hk _ _ _ _ h w1 w2 (zokl_c o1 w3) w4
  refine ⟨g.1, fun hF hR a1 a2 H locs lsR hP hS hL => ?_⟩
  have hF9 := hF
  obtain ⟨hx, hb, hml, hown, hts, hKn, hX, hbb2, hsz, hn0, hs0, hfr, hlo, hrc, hrs, hnm⟩ := hF9
  have hl := zl_at hL (i := i) (by rw [e1]; decide)
  rw [show zV b b0 (znth ls i) = zV b b0 (1, (znth ls i).2) by rw [show znth ls i = ((znth ls i).1, (znth ls i).2) from rfl, e1]] at hl
  exact lv_lload_n hx hb hd hi0 hl (g.2 hF hR a1 a2 H locs lsR hP hS hL)
theorem zs_lload {i : Nat} (hd : decode cc pc = .ok (.lload i, 2)) : zSound tab own cc nL rt nm pc (zi_load 1 i (pc + 2)) := by
  intro D cy b b0 L xs l call p e R s m args below meth cd Q n0 s0 dl v c' hCall hbb ls st c k h hk w1 w2 w3 w4
  obtain ⟨e1, h⟩ := zc_of h
  have o1 : zokv (1, (znth ls i).2) := by have := znth_ok w2 i; rw [show znth ls i = ((znth ls i).1, (znth ls i).2) from rfl, e1] at this; exact this
  have g := hk _ _ _ _ h w1 w2 (zokl_c o1 w3) w4
  refine ⟨g.1, fun hF hR a1 a2 H locs lsR hP hS hL => ?_⟩
  have hF9 := hF
  obtain ⟨hx, hb, hml, hown, hts, hKn, hX, hbb2, hsz, hn0, hs0, hfr, hlo, hrc, hrs, hnm⟩ := hF9
  have hl := zl_at hL (i := i) (by rw [e1]; decide)
  rw [show zV b b0 (znth ls i) = zV b b0 (1, (znth ls i).2) by rw [show znth ls i = ((znth ls i).1, (znth ls i).2) from rfl, e1]] at hl
  exact lv_lload hx hb hd hl (g.2 hF hR a1 a2 H locs lsR hP hS hL)
theorem zs_aload_n {k0 : Fin 4} {i : Nat} (hd : decode cc pc = .ok (.aload_n k0, 1)) (hi0 : (k0 : Nat) = i) : zSound tab own cc nL rt nm pc (zi_load 2 i (pc + 1)) := by
  intro D cy b b0 L xs l call p e R s m args below meth cd Q n0 s0 dl v c' hCall hbb ls st c k h hk w1 w2 w3 w4
  obtain ⟨e1, h⟩ := zc_of h
  have g := hk _ _ _ _ h w1 w2 (zokl_c zok2 w3) w4
  refine ⟨g.1, fun hF hR a1 a2 H locs lsR hP hS hL => ?_⟩
  have hF9 := hF
  obtain ⟨hx, hb, hml, hown, hts, hKn, hX, hbb2, hsz, hn0, hs0, hfr, hlo, hrc, hrs, hnm⟩ := hF9
  have hl := zl_at hL (i := i) (by rw [e1]; decide)
  rw [show zV b b0 (znth ls i) = zV b b0 (2, (znth ls i).2) by rw [show znth ls i = ((znth ls i).1, (znth ls i).2) from rfl, e1]] at hl
  have g2 := g.2 hF hR a1 a2 H locs lsR hP hS hL
  rw [List.map_cons] at g2
  by_cases e : (znth ls i).2 = 0
  · have ev : zV b b0 (2, (znth ls i).2) = .null := by show va_rf (zrf b b0 _) = _; unfold zrf; rw [if_pos e]; rfl
    rw [ev] at hl g2
    exact lv_aload_nN hx hb hd hi0 hl g2
  · have ev : zV b b0 (2, (znth ls i).2) = .ref (zro b b0 (znth ls i).2) := by show va_rf (zrf b b0 _) = _; unfold zrf; rw [if_neg e]; rfl
    rw [ev] at hl g2
    exact lv_aload_n hx hb hd hi0 hl g2
theorem zs_aload {i : Nat} (hd : decode cc pc = .ok (.aload i, 2)) : zSound tab own cc nL rt nm pc (zi_load 2 i (pc + 2)) := by
  intro D cy b b0 L xs l call p e R s m args below meth cd Q n0 s0 dl v c' hCall hbb ls st c k h hk w1 w2 w3 w4
  obtain ⟨e1, h⟩ := zc_of h
  have g := hk _ _ _ _ h w1 w2 (zokl_c zok2 w3) w4
  refine ⟨g.1, fun hF hR a1 a2 H locs lsR hP hS hL => ?_⟩
  have hF9 := hF
  obtain ⟨hx, hb, hml, hown, hts, hKn, hX, hbb2, hsz, hn0, hs0, hfr, hlo, hrc, hrs, hnm⟩ := hF9
  have hl := zl_at hL (i := i) (by rw [e1]; decide)
  rw [show zV b b0 (znth ls i) = zV b b0 (2, (znth ls i).2) by rw [show znth ls i = ((znth ls i).1, (znth ls i).2) from rfl, e1]] at hl
  have g2 := g.2 hF hR a1 a2 H locs lsR hP hS hL
  rw [List.map_cons] at g2
  by_cases e : (znth ls i).2 = 0
  · have ev : zV b b0 (2, (znth ls i).2) = .null := by show va_rf (zrf b b0 _) = _; unfold zrf; rw [if_pos e]; rfl
    rw [ev] at hl g2
    exact lv_aloadN hx hb hd hl g2
  · have ev : zV b b0 (2, (znth ls i).2) = .ref (zro b b0 (znth ls i).2) := by show va_rf (zrf b b0 _) = _; unfold zrf; rw [if_neg e]; rfl
    rw [ev] at hl g2
    exact lv_aload hx hb hd hl g2
theorem zs_istore_n {k0 : Fin 4} {i : Nat} (hd : decode cc pc = .ok (.istore_n k0, 1)) (hi0 : (k0 : Nat) = i) (hil : i < nL) : zSound tab own cc nL rt nm pc (zi_store1 0 i (pc + 1)) := by
  intro D cy b b0 L xs l call p e R s m args below meth cd Q n0 s0 dl v c' hCall hbb ls st c k h hk w1 w2 w3 w4
  cases st with
  | nil => cases h
  | cons x st =>
  obtain ⟨e1, h⟩ := zc_of h
  obtain ⟨tx, x⟩ := x
  have e1 : tx = 0 := e1
  subst e1
  have g := hk _ _ _ _ h w1 (zset_ok w2 (zokl_h w3) i) (zokl_t w3) (by rw [zset_len]; exact w4)
  refine ⟨g.1, fun hF hR a1 a2 H locs lsR hP hS hL => ?_⟩
  have hF9 := hF
  obtain ⟨hx, hb, hml, hown, hts, hKn, hX, hbb2, hsz, hn0, hs0, hfr, hlo, hrc, hrs, hnm⟩ := hF9
  refine lv_istore_n hx hb hd hi0 hL hil rfl (fun ls' hl' => ?_)
  exact g.2 hF hR a1 a2 H locs ls' hP hS (zl_sub hl' (zl_set1 (v := (0, x)) rfl (by omega)))
theorem zs_lstore_n {k0 : Fin 4} {i : Nat} (hd : decode cc pc = .ok (.lstore_n k0, 1)) (hi0 : (k0 : Nat) = i) (hil : i + 1 < nL) : zSound tab own cc nL rt nm pc (zi_lstore i (pc + 1)) := by
  intro D cy b b0 L xs l call p e R s m args below meth cd Q n0 s0 dl v c' hCall hbb ls st c k h hk w1 w2 w3 w4
  cases st with
  | nil => cases h
  | cons x st =>
  obtain ⟨e1, h⟩ := zc_of h
  obtain ⟨tx, x⟩ := x
  have e1 : tx = 1 := e1
  subst e1
  have g := hk _ _ _ _ h w1 (zset_ok (zset_ok w2 zok3 _) (zokl_h w3) i) (zokl_t w3) (by rw [zset_len, zset_len]; exact w4)
  refine ⟨g.1, fun hF hR a1 a2 H locs lsR hP hS hL => ?_⟩
  have hF9 := hF
  obtain ⟨hx, hb, hml, hown, hts, hKn, hX, hbb2, hsz, hn0, hs0, hfr, hlo, hrc, hrs, hnm⟩ := hF9
  refine lv_lstore_n hx hb hd hi0 hL hil rfl (fun ls' hl' => ?_)
  exact g.2 hF hR a1 a2 H locs ls' hP hS (zl_sub hl' (zl_set2 (by omega)))
theorem zs_astore_n {k0 : Fin 4} {i : Nat} (hd : decode cc pc = .ok (.astore_n k0, 1)) (hi0 : (k0 : Nat) = i) (hil : i < nL) : zSound tab own cc nL rt nm pc (zi_store1 2 i (pc + 1)) := by
  intro D cy b b0 L xs l call p e R s m args below meth cd Q n0 s0 dl v c' hCall hbb ls st c k h hk w1 w2 w3 w4
  cases st with
  | nil => cases h
  | cons x st =>
  obtain ⟨e1, h⟩ := zc_of h
  obtain ⟨tx, x⟩ := x
  have e1 : tx = 2 := e1
  subst e1
  have g := hk _ _ _ _ h w1 (zset_ok w2 (zokl_h w3) i) (zokl_t w3) (by rw [zset_len]; exact w4)
  refine ⟨g.1, fun hF hR a1 a2 H locs lsR hP hS hL => ?_⟩
  have hF9 := hF
  obtain ⟨hx, hb, hml, hown, hts, hKn, hX, hbb2, hsz, hn0, hs0, hfr, hlo, hrc, hrs, hnm⟩ := hF9
  by_cases e : x = 0
  · have ev : zV b b0 (2, x) = .null := by show va_rf (zrf b b0 _) = _; unfold zrf; rw [if_pos e]; rfl
    rw [List.map_cons, ev]
    refine lv_astore_nN hx hb hd hi0 hL hil rfl (fun ls' hl' => ?_)
    exact g.2 hF hR a1 a2 H locs ls' hP hS (zl_sub hl' (zl_set1 (v := (2, x)) ev (by omega)))
  · have ev : zV b b0 (2, x) = .ref (zro b b0 x) := by show va_rf (zrf b b0 _) = _; unfold zrf; rw [if_neg e]; rfl
    rw [List.map_cons, ev]
    refine lv_astore_n hx hb hd hi0 hL hil rfl (fun ls' hl' => ?_)
    exact g.2 hF hR a1 a2 H locs ls' hP hS (zl_sub hl' (zl_set1 (v := (2, x)) ev (by omega)))
theorem zs_istore {i : Nat} (hd : decode cc pc = .ok (.istore i, 2)) (hil : i < nL) : zSound tab own cc nL rt nm pc (zi_store1 0 i (pc + 2)) := by
  intro D cy b b0 L xs l call p e R s m args below meth cd Q n0 s0 dl v c' hCall hbb ls st c k h hk w1 w2 w3 w4
  cases st with
  | nil => cases h
  | cons x st =>
  obtain ⟨e1, h⟩ := zc_of h
  obtain ⟨tx, x⟩ := x
  have e1 : tx = 0 := e1
  subst e1
  have g := hk _ _ _ _ h w1 (zset_ok w2 (zokl_h w3) i) (zokl_t w3) (by rw [zset_len]; exact w4)
  refine ⟨g.1, fun hF hR a1 a2 H locs lsR hP hS hL => ?_⟩
  have hF9 := hF
  obtain ⟨hx, hb, hml, hown, hts, hKn, hX, hbb2, hsz, hn0, hs0, hfr, hlo, hrc, hrs, hnm⟩ := hF9
  refine lv_istore hx hb hd hL hil rfl (fun ls' hl' => ?_)
  exact g.2 hF hR a1 a2 H locs ls' hP hS (zl_sub hl' (zl_set1 (v := (0, x)) rfl (by omega)))
theorem zs_lstore {i : Nat} (hd : decode cc pc = .ok (.lstore i, 2)) (hil : i + 1 < nL) : zSound tab own cc nL rt nm pc (zi_lstore i (pc + 2)) := by
  intro D cy b b0 L xs l call p e R s m args below meth cd Q n0 s0 dl v c' hCall hbb ls st c k h hk w1 w2 w3 w4
  cases st with
  | nil => cases h
  | cons x st =>
  obtain ⟨e1, h⟩ := zc_of h
  obtain ⟨tx, x⟩ := x
  have e1 : tx = 1 := e1
  subst e1
  have g := hk _ _ _ _ h w1 (zset_ok (zset_ok w2 zok3 _) (zokl_h w3) i) (zokl_t w3) (by rw [zset_len, zset_len]; exact w4)
  refine ⟨g.1, fun hF hR a1 a2 H locs lsR hP hS hL => ?_⟩
  have hF9 := hF
  obtain ⟨hx, hb, hml, hown, hts, hKn, hX, hbb2, hsz, hn0, hs0, hfr, hlo, hrc, hrs, hnm⟩ := hF9
  refine lv_lstore hx hb hd hL hil rfl (fun ls' hl' => ?_)
  exact g.2 hF hR a1 a2 H locs ls' hP hS (zl_sub hl' (zl_set2 (by omega)))
theorem zs_astore {i : Nat} (hd : decode cc pc = .ok (.astore i, 2)) (hil : i < nL) : zSound tab own cc nL rt nm pc (zi_store1 2 i (pc + 2)) := by
  intro D cy b b0 L xs l call p e R s m args below meth cd Q n0 s0 dl v c' hCall hbb ls st c k h hk w1 w2 w3 w4
  cases st with
  | nil => cases h
  | cons x st =>
  obtain ⟨e1, h⟩ := zc_of h
  obtain ⟨tx, x⟩ := x
  have e1 : tx = 2 := e1
  subst e1
  have g := hk _ _ _ _ h w1 (zset_ok w2 (zokl_h w3) i) (zokl_t w3) (by rw [zset_len]; exact w4)
  refine ⟨g.1, fun hF hR a1 a2 H locs lsR hP hS hL => ?_⟩
  have hF9 := hF
  obtain ⟨hx, hb, hml, hown, hts, hKn, hX, hbb2, hsz, hn0, hs0, hfr, hlo, hrc, hrs, hnm⟩ := hF9
  by_cases e : x = 0
  · have ev : zV b b0 (2, x) = .null := by show va_rf (zrf b b0 _) = _; unfold zrf; rw [if_pos e]; rfl
    rw [List.map_cons, ev]
    refine lv_astoreN hx hb hd hL hil rfl (fun ls' hl' => ?_)
    exact g.2 hF hR a1 a2 H locs ls' hP hS (zl_sub hl' (zl_set1 (v := (2, x)) ev (by omega)))
  · have ev : zV b b0 (2, x) = .ref (zro b b0 x) := by show va_rf (zrf b b0 _) = _; unfold zrf; rw [if_neg e]; rfl
    rw [List.map_cons, ev]
    refine lv_astore hx hb hd hL hil rfl (fun ls' hl' => ?_)
    exact g.2 hF hR a1 a2 H locs ls' hP hS (zl_sub hl' (zl_set1 (v := (2, x)) ev (by omega)))
theorem zs_iinc {i : Nat} {d : Int} (hd : decode cc pc = .ok (.iinc i d, 3)) : zSound tab own cc nL rt nm pc (zi_iinc i d (pc + 3)) := by
  intro D cy b b0 L xs l call p e R s m args below meth cd Q n0 s0 dl v c' hCall hbb ls st c k h hk w1 w2 w3 w4
  obtain ⟨e1, h⟩ := zc_of h
  have g := hk _ _ _ _ h w1 (zset_ok w2 (zok0 (zw_in _)) i) w3 (by rw [zset_len]; exact w4)
  refine ⟨g.1, fun hF hR a1 a2 H locs lsR hP hS hL => ?_⟩
  have hF9 := hF
  obtain ⟨hx, hb, hml, hown, hts, hKn, hX, hbb2, hsz, hn0, hs0, hfr, hlo, hrc, hrs, hnm⟩ := hF9
  have hi : (znth ls i).1 ≠ 3 := by rw [e1]; decide
  obtain ⟨kk, hkk⟩ := zl_in (V := zV b b0) hi
  have hil := znth_lt hi
  rw [show zV b b0 (znth ls i) = .int (Int32.ofInt (znth ls i).2) by unfold zV; rw [e1]; rfl] at hkk
  refine lv_iinc hx hb hd hL hkk (v := Int32.ofInt (zw ((znth ls i).2 + d))) (by rw [z32_zw, Int32.ofInt_add]) (by omega) rfl (fun ls' hl' => ?_)
  exact g.2 hF hR a1 a2 H locs ls' hP hS (zl_sub hl' (zl_set1 (v := (0, zw ((znth ls i).2 + d))) rfl hil))
theorem zs_iadd (hd : decode cc pc = .ok (.iadd, 1)) : zSound tab own cc nL rt nm pc (zi_bin zadd (pc + 1)) := by
  intro D cy b b0 L xs l call p e R s m args below meth cd Q n0 s0 dl v c' hCall hbb ls st c k h hk w1 w2 w3 w4
  cases st with
  | nil => cases h
  | cons y st =>
  cases st with
  | nil => cases h
  | cons x st =>
  obtain ⟨e1, h⟩ := zc_of h
  obtain ⟨ty, y⟩ := y
  have e1 : ty = 0 := e1
  subst e1
  obtain ⟨e1, h⟩ := zc_of h
  obtain ⟨tx, x⟩ := x
  have e1 : tx = 0 := e1
  subst e1
  have g := hk _ _ _ _ h w1 w2 (zokl_c (zok0 (zw_in _)) (zokl_t (zokl_t w3))) w4
  refine ⟨g.1, fun hF hR a1 a2 H locs lsR hP hS hL => ?_⟩
  have hF9 := hF
  obtain ⟨hx, hb, hml, hown, hts, hKn, hX, hbb2, hsz, hn0, hs0, hfr, hlo, hrc, hrs, hnm⟩ := hF9
  refine lv_iadd hx hb hd ?_
  rw [← z32_add]
  exact g.2 hF hR a1 a2 H locs lsR hP hS hL
theorem zs_isub (hd : decode cc pc = .ok (.isub, 1)) : zSound tab own cc nL rt nm pc (zi_bin zsub (pc + 1)) := by
  intro D cy b b0 L xs l call p e R s m args below meth cd Q n0 s0 dl v c' hCall hbb ls st c k h hk w1 w2 w3 w4
  cases st with
  | nil => cases h
  | cons y st =>
  cases st with
  | nil => cases h
  | cons x st =>
  obtain ⟨e1, h⟩ := zc_of h
  obtain ⟨ty, y⟩ := y
  have e1 : ty = 0 := e1
  subst e1
  obtain ⟨e1, h⟩ := zc_of h
  obtain ⟨tx, x⟩ := x
  have e1 : tx = 0 := e1
  subst e1
  have g := hk _ _ _ _ h w1 w2 (zokl_c (zok0 (zw_in _)) (zokl_t (zokl_t w3))) w4
  refine ⟨g.1, fun hF hR a1 a2 H locs lsR hP hS hL => ?_⟩
  have hF9 := hF
  obtain ⟨hx, hb, hml, hown, hts, hKn, hX, hbb2, hsz, hn0, hs0, hfr, hlo, hrc, hrs, hnm⟩ := hF9
  refine lv_isub hx hb hd ?_
  rw [← z32_sub]
  exact g.2 hF hR a1 a2 H locs lsR hP hS hL
theorem zs_imul (hd : decode cc pc = .ok (.imul, 1)) : zSound tab own cc nL rt nm pc (zi_bin zmul (pc + 1)) := by
  intro D cy b b0 L xs l call p e R s m args below meth cd Q n0 s0 dl v c' hCall hbb ls st c k h hk w1 w2 w3 w4
  cases st with
  | nil => cases h
  | cons y st =>
  cases st with
  | nil => cases h
  | cons x st =>
  obtain ⟨e1, h⟩ := zc_of h
  obtain ⟨ty, y⟩ := y
  have e1 : ty = 0 := e1
  subst e1
  obtain ⟨e1, h⟩ := zc_of h
  obtain ⟨tx, x⟩ := x
  have e1 : tx = 0 := e1
  subst e1
  have g := hk _ _ _ _ h w1 w2 (zokl_c (zok0 (zw_in _)) (zokl_t (zokl_t w3))) w4
  refine ⟨g.1, fun hF hR a1 a2 H locs lsR hP hS hL => ?_⟩
  have hF9 := hF
  obtain ⟨hx, hb, hml, hown, hts, hKn, hX, hbb2, hsz, hn0, hs0, hfr, hlo, hrc, hrs, hnm⟩ := hF9
  refine lv_imul hx hb hd ?_
  rw [← z32_mul]
  exact g.2 hF hR a1 a2 H locs lsR hP hS hL
theorem zs_ishl (hd : decode cc pc = .ok (.ishl, 1)) : zSound tab own cc nL rt nm pc (zi_bin zishl (pc + 1)) := by
  intro D cy b b0 L xs l call p e R s m args below meth cd Q n0 s0 dl v c' hCall hbb ls st c k h hk w1 w2 w3 w4
  cases st with
  | nil => cases h
  | cons y st =>
  cases st with
  | nil => cases h
  | cons x st =>
  obtain ⟨e1, h⟩ := zc_of h
  obtain ⟨ty, y⟩ := y
  have e1 : ty = 0 := e1
  subst e1
  obtain ⟨e1, h⟩ := zc_of h
  obtain ⟨tx, x⟩ := x
  have e1 : tx = 0 := e1
  subst e1
  have g := hk _ _ _ _ h w1 w2 (zokl_c (zok0 (z32_in _)) (zokl_t (zokl_t w3))) w4
  refine ⟨g.1, fun hF hR a1 a2 H locs lsR hP hS hL => ?_⟩
  have hF9 := hF
  obtain ⟨hx, hb, hml, hown, hts, hKn, hX, hbb2, hsz, hn0, hs0, hfr, hlo, hrc, hrs, hnm⟩ := hF9
  have g2 := g.2 hF hR a1 a2 H locs lsR hP hS hL
  rw [List.map_cons, show zV b b0 (0, zishl x y) = .int (Int32.ofInt (zishl x y)) from rfl] at g2
  unfold zishl at g2
  rw [z32_of] at g2
  exact lv_ishl hx hb hd g2
theorem zs_ishr (hd : decode cc pc = .ok (.ishr, 1)) : zSound tab own cc nL rt nm pc (zi_bin zishr (pc + 1)) := by
  intro D cy b b0 L xs l call p e R s m args below meth cd Q n0 s0 dl v c' hCall hbb ls st c k h hk w1 w2 w3 w4
  cases st with
  | nil => cases h
  | cons y st =>
  cases st with
  | nil => cases h
  | cons x st =>
  obtain ⟨e1, h⟩ := zc_of h
  obtain ⟨ty, y⟩ := y
  have e1 : ty = 0 := e1
  subst e1
  obtain ⟨e1, h⟩ := zc_of h
  obtain ⟨tx, x⟩ := x
  have e1 : tx = 0 := e1
  subst e1
  have g := hk _ _ _ _ h w1 w2 (zokl_c (zok0 (z32_in _)) (zokl_t (zokl_t w3))) w4
  refine ⟨g.1, fun hF hR a1 a2 H locs lsR hP hS hL => ?_⟩
  have hF9 := hF
  obtain ⟨hx, hb, hml, hown, hts, hKn, hX, hbb2, hsz, hn0, hs0, hfr, hlo, hrc, hrs, hnm⟩ := hF9
  have g2 := g.2 hF hR a1 a2 H locs lsR hP hS hL
  rw [List.map_cons, show zV b b0 (0, zishr x y) = .int (Int32.ofInt (zishr x y)) from rfl] at g2
  unfold zishr at g2
  rw [z32_of] at g2
  exact lv_ishr hx hb hd g2
theorem zs_iand (hd : decode cc pc = .ok (.iand, 1)) : zSound tab own cc nL rt nm pc (zi_bin ziand (pc + 1)) := by
  intro D cy b b0 L xs l call p e R s m args below meth cd Q n0 s0 dl v c' hCall hbb ls st c k h hk w1 w2 w3 w4
  cases st with
  | nil => cases h
  | cons y st =>
  cases st with
  | nil => cases h
  | cons x st =>
  obtain ⟨e1, h⟩ := zc_of h
  obtain ⟨ty, y⟩ := y
  have e1 : ty = 0 := e1
  subst e1
  obtain ⟨e1, h⟩ := zc_of h
  obtain ⟨tx, x⟩ := x
  have e1 : tx = 0 := e1
  subst e1
  have g := hk _ _ _ _ h w1 w2 (zokl_c (zok0 (z32_in _)) (zokl_t (zokl_t w3))) w4
  refine ⟨g.1, fun hF hR a1 a2 H locs lsR hP hS hL => ?_⟩
  have hF9 := hF
  obtain ⟨hx, hb, hml, hown, hts, hKn, hX, hbb2, hsz, hn0, hs0, hfr, hlo, hrc, hrs, hnm⟩ := hF9
  have g2 := g.2 hF hR a1 a2 H locs lsR hP hS hL
  rw [List.map_cons, show zV b b0 (0, ziand x y) = .int (Int32.ofInt (ziand x y)) from rfl] at g2
  unfold ziand at g2
  rw [z32_of] at g2
  exact lv_iand hx hb hd g2
theorem zs_ior (hd : decode cc pc = .ok (.ior, 1)) : zSound tab own cc nL rt nm pc (zi_bin zior (pc + 1)) := by
  intro D cy b b0 L xs l call p e R s m args below meth cd Q n0 s0 dl v c' hCall hbb ls st c k h hk w1 w2 w3 w4
  cases st with
  | nil => cases h
  | cons y st =>
  cases st with
  | nil => cases h
  | cons x st =>
  obtain ⟨e1, h⟩ := zc_of h
  obtain ⟨ty, y⟩ := y
  have e1 : ty = 0 := e1
  subst e1
  obtain ⟨e1, h⟩ := zc_of h
  obtain ⟨tx, x⟩ := x
  have e1 : tx = 0 := e1
  subst e1
  have g := hk _ _ _ _ h w1 w2 (zokl_c (zok0 (z32_in _)) (zokl_t (zokl_t w3))) w4
  refine ⟨g.1, fun hF hR a1 a2 H locs lsR hP hS hL => ?_⟩
  have hF9 := hF
  obtain ⟨hx, hb, hml, hown, hts, hKn, hX, hbb2, hsz, hn0, hs0, hfr, hlo, hrc, hrs, hnm⟩ := hF9
  have g2 := g.2 hF hR a1 a2 H locs lsR hP hS hL
  rw [List.map_cons, show zV b b0 (0, zior x y) = .int (Int32.ofInt (zior x y)) from rfl] at g2
  unfold zior at g2
  rw [z32_of] at g2
  exact lv_ior hx hb hd g2
theorem zs_ixor (hd : decode cc pc = .ok (.ixor, 1)) : zSound tab own cc nL rt nm pc (zi_bin zixor (pc + 1)) := by
  intro D cy b b0 L xs l call p e R s m args below meth cd Q n0 s0 dl v c' hCall hbb ls st c k h hk w1 w2 w3 w4
  cases st with
  | nil => cases h
  | cons y st =>
  cases st with
  | nil => cases h
  | cons x st =>
  obtain ⟨e1, h⟩ := zc_of h
  obtain ⟨ty, y⟩ := y
  have e1 : ty = 0 := e1
  subst e1
  obtain ⟨e1, h⟩ := zc_of h
  obtain ⟨tx, x⟩ := x
  have e1 : tx = 0 := e1
  subst e1
  have g := hk _ _ _ _ h w1 w2 (zokl_c (zok0 (z32_in _)) (zokl_t (zokl_t w3))) w4
  refine ⟨g.1, fun hF hR a1 a2 H locs lsR hP hS hL => ?_⟩
  have hF9 := hF
  obtain ⟨hx, hb, hml, hown, hts, hKn, hX, hbb2, hsz, hn0, hs0, hfr, hlo, hrc, hrs, hnm⟩ := hF9
  have g2 := g.2 hF hR a1 a2 H locs lsR hP hS hL
  rw [List.map_cons, show zV b b0 (0, zixor x y) = .int (Int32.ofInt (zixor x y)) from rfl] at g2
  unfold zixor at g2
  rw [z32_of] at g2
  exact lv_ixor hx hb hd g2
theorem zs_land (hd : decode cc pc = .ok (.land, 1)) : zSound tab own cc nL rt nm pc (zi_lbin 1 zland (pc + 1)) := by
  intro D cy b b0 L xs l call p e R s m args below meth cd Q n0 s0 dl v c' hCall hbb ls st c k h hk w1 w2 w3 w4
  cases st with
  | nil => cases h
  | cons y st =>
  cases st with
  | nil => cases h
  | cons x st =>
  obtain ⟨e1, h⟩ := zc_of h
  obtain ⟨ty, y⟩ := y
  have e1 : ty = 1 := e1
  subst e1
  obtain ⟨e1, h⟩ := zc_of h
  obtain ⟨tx, x⟩ := x
  have e1 : tx = 1 := e1
  subst e1
  have g := hk _ _ _ _ h w1 w2 (zokl_c (zok1 (z64_in _)) (zokl_t (zokl_t w3))) w4
  refine ⟨g.1, fun hF hR a1 a2 H locs lsR hP hS hL => ?_⟩
  have hF9 := hF
  obtain ⟨hx, hb, hml, hown, hts, hKn, hX, hbb2, hsz, hn0, hs0, hfr, hlo, hrc, hrs, hnm⟩ := hF9
  have g2 := g.2 hF hR a1 a2 H locs lsR hP hS hL
  rw [List.map_cons, show zV b b0 (1, zland x y) = .long (Int64.ofInt (zland x y)) from rfl] at g2
  unfold zland at g2
  rw [z64_of] at g2
  exact lv_land hx hb hd g2
theorem zs_lor (hd : decode cc pc = .ok (.lor, 1)) : zSound tab own cc nL rt nm pc (zi_lbin 1 zlor (pc + 1)) := by
  intro D cy b b0 L xs l call p e R s m args below meth cd Q n0 s0 dl v c' hCall hbb ls st c k h hk w1 w2 w3 w4
  cases st with
  | nil => cases h
  | cons y st =>
  cases st with
  | nil => cases h
  | cons x st =>
  obtain ⟨e1, h⟩ := zc_of h
  obtain ⟨ty, y⟩ := y
  have e1 : ty = 1 := e1
  subst e1
  obtain ⟨e1, h⟩ := zc_of h
  obtain ⟨tx, x⟩ := x
  have e1 : tx = 1 := e1
  subst e1
  have g := hk _ _ _ _ h w1 w2 (zokl_c (zok1 (z64_in _)) (zokl_t (zokl_t w3))) w4
  refine ⟨g.1, fun hF hR a1 a2 H locs lsR hP hS hL => ?_⟩
  have hF9 := hF
  obtain ⟨hx, hb, hml, hown, hts, hKn, hX, hbb2, hsz, hn0, hs0, hfr, hlo, hrc, hrs, hnm⟩ := hF9
  have g2 := g.2 hF hR a1 a2 H locs lsR hP hS hL
  rw [List.map_cons, show zV b b0 (1, zlor x y) = .long (Int64.ofInt (zlor x y)) from rfl] at g2
  unfold zlor at g2
  rw [z64_of] at g2
  exact lv_lor hx hb hd g2
theorem zs_lshl (hd : decode cc pc = .ok (.lshl, 1)) : zSound tab own cc nL rt nm pc (zi_lbin 0 zlshl (pc + 1)) := by
  intro D cy b b0 L xs l call p e R s m args below meth cd Q n0 s0 dl v c' hCall hbb ls st c k h hk w1 w2 w3 w4
  cases st with
  | nil => cases h
  | cons y st =>
  cases st with
  | nil => cases h
  | cons x st =>
  obtain ⟨e1, h⟩ := zc_of h
  obtain ⟨ty, y⟩ := y
  have e1 : ty = 0 := e1
  subst e1
  obtain ⟨e1, h⟩ := zc_of h
  obtain ⟨tx, x⟩ := x
  have e1 : tx = 1 := e1
  subst e1
  have g := hk _ _ _ _ h w1 w2 (zokl_c (zok1 (z64_in _)) (zokl_t (zokl_t w3))) w4
  refine ⟨g.1, fun hF hR a1 a2 H locs lsR hP hS hL => ?_⟩
  have hF9 := hF
  obtain ⟨hx, hb, hml, hown, hts, hKn, hX, hbb2, hsz, hn0, hs0, hfr, hlo, hrc, hrs, hnm⟩ := hF9
  have g2 := g.2 hF hR a1 a2 H locs lsR hP hS hL
  rw [List.map_cons, show zV b b0 (1, zlshl x y) = .long (Int64.ofInt (zlshl x y)) from rfl] at g2
  unfold zlshl at g2
  rw [z64_of] at g2
  exact lv_lshl hx hb hd rfl g2
theorem zs_lushr (hd : decode cc pc = .ok (.lushr, 1)) : zSound tab own cc nL rt nm pc (zi_lbin 0 zlushr (pc + 1)) := by
  intro D cy b b0 L xs l call p e R s m args below meth cd Q n0 s0 dl v c' hCall hbb ls st c k h hk w1 w2 w3 w4
  cases st with
  | nil => cases h
  | cons y st =>
  cases st with
  | nil => cases h
  | cons x st =>
  obtain ⟨e1, h⟩ := zc_of h
  obtain ⟨ty, y⟩ := y
  have e1 : ty = 0 := e1
  subst e1
  obtain ⟨e1, h⟩ := zc_of h
  obtain ⟨tx, x⟩ := x
  have e1 : tx = 1 := e1
  subst e1
  have g := hk _ _ _ _ h w1 w2 (zokl_c (zok1 (z64_in _)) (zokl_t (zokl_t w3))) w4
  refine ⟨g.1, fun hF hR a1 a2 H locs lsR hP hS hL => ?_⟩
  have hF9 := hF
  obtain ⟨hx, hb, hml, hown, hts, hKn, hX, hbb2, hsz, hn0, hs0, hfr, hlo, hrc, hrs, hnm⟩ := hF9
  have g2 := g.2 hF hR a1 a2 H locs lsR hP hS hL
  rw [List.map_cons, show zV b b0 (1, zlushr x y) = .long (Int64.ofInt (zlushr x y)) from rfl] at g2
  unfold zlushr at g2
  rw [z64_of] at g2
  exact lv_lushr hx hb hd rfl g2
theorem zs_lcmp (hd : decode cc pc = .ok (.lcmp, 1)) : zSound tab own cc nL rt nm pc (zi_lcmp (pc + 1)) := by
  intro D cy b b0 L xs l call p e R s m args below meth cd Q n0 s0 dl v c' hCall hbb ls st c k h hk w1 w2 w3 w4
  cases st with
  | nil => cases h
  | cons y st =>
  cases st with
  | nil => cases h
  | cons x st =>
  obtain ⟨e1, h⟩ := zc_of h
  obtain ⟨ty, y⟩ := y
  have e1 : ty = 1 := e1
  subst e1
  obtain ⟨e1, h⟩ := zc_of h
  obtain ⟨tx, x⟩ := x
  have e1 : tx = 1 := e1
  subst e1
  have g := hk _ _ _ _ h w1 w2 (zokl_c (zok0 (by split; exact ⟨by decide, by decide⟩; split <;> exact ⟨by decide, by decide⟩)) (zokl_t (zokl_t w3))) w4
  refine ⟨g.1, fun hF hR a1 a2 H locs lsR hP hS hL => ?_⟩
  have hF9 := hF
  obtain ⟨hx, hb, hml, hown, hts, hKn, hX, hbb2, hsz, hn0, hs0, hfr, hlo, hrc, hrs, hnm⟩ := hF9
  have oy := (zokl_h w3).2 rfl
  have ox := (zokl_h (zokl_t w3)).2 rfl
  refine W.lcmp hx hb hd ?_
  have e : lg_cmp (Int64.ofInt x) (Int64.ofInt y) = Int32.ofInt (if y < x then 1 else if x = y then 0 else -1) := by
    unfold lg_cmp
    simp only [gt_iff_lt, z64_lt oy ox, z64_eq ox oy]
    split
    · rfl
    · split <;> rfl
  rw [e]
  exact g.2 hF hR a1 a2 H locs lsR hP hS hL
theorem zs_i2l (hd : decode cc pc = .ok (.i2l, 1)) : zSound tab own cc nL rt nm pc (zi_i2l (pc + 1)) := by
  intro D cy b b0 L xs l call p e R s m args below meth cd Q n0 s0 dl v c' hCall hbb ls st c k h hk w1 w2 w3 w4
  cases st with
  | nil => cases h
  | cons x st =>
  obtain ⟨e1, h⟩ := zc_of h
  obtain ⟨tx, x⟩ := x
  have e1 : tx = 0 := e1
  subst e1
  have ox := (zokl_h w3).1 rfl
  have ox : zin32 x := ox
  have g := hk _ _ _ _ h w1 w2 (zokl_c (zok1 (by obtain ⟨q1, q2⟩ := ox; exact ⟨by omega, by omega⟩)) (zokl_t w3)) w4
  refine ⟨g.1, fun hF hR a1 a2 H locs lsR hP hS hL => ?_⟩
  have hF9 := hF
  obtain ⟨hx, hb, hml, hown, hts, hKn, hX, hbb2, hsz, hn0, hs0, hfr, hlo, hrc, hrs, hnm⟩ := hF9
  refine lv_i2l hx hb hd (v := Int64.ofInt x) ?_ (g.2 hF hR a1 a2 H locs lsR hP hS hL)
  rw [← Int64.toInt_inj, Int32.toInt_toInt64, z32_to ox, z64_to (by obtain ⟨q1, q2⟩ := ox; exact ⟨by omega, by omega⟩)]
theorem zs_l2i (hd : decode cc pc = .ok (.l2i, 1)) : zSound tab own cc nL rt nm pc (zi_l2i (pc + 1)) := by
  intro D cy b b0 L xs l call p e R s m args below meth cd Q n0 s0 dl v c' hCall hbb ls st c k h hk w1 w2 w3 w4
  cases st with
  | nil => cases h
  | cons x st =>
  obtain ⟨e1, h⟩ := zc_of h
  obtain ⟨tx, x⟩ := x
  have e1 : tx = 1 := e1
  subst e1
  have g := hk _ _ _ _ h w1 w2 (zokl_c (zok0 (z32_in _)) (zokl_t w3)) w4
  refine ⟨g.1, fun hF hR a1 a2 H locs lsR hP hS hL => ?_⟩
  have hF9 := hF
  obtain ⟨hx, hb, hml, hown, hts, hKn, hX, hbb2, hsz, hn0, hs0, hfr, hlo, hrc, hrs, hnm⟩ := hF9
  refine lv_l2i hx hb hd (v := Int32.ofInt (zl2i x)) ?_ (g.2 hF hR a1 a2 H locs lsR hP hS hL)
  unfold zl2i
  rw [z32_of]
theorem zs_ifeq {off : Int} {t : Nat} (hd : decode cc pc = .ok (.ifCond .eq off, 3)) (ht : (pc : Int) + off = (t : Int)) : zSound tab own cc nL rt nm pc (zi_ifeq t (pc + 3)) := by
  intro D cy b b0 L xs l call p e R s m args below meth cd Q n0 s0 dl v c' hCall hbb ls st c k h hk w1 w2 w3 w4
  cases st with
  | nil => cases h
  | cons x st =>
  obtain ⟨e1, h⟩ := zc_of h
  obtain ⟨tx, x⟩ := x
  have e1 : tx = 0 := e1
  subst e1
  have ox : zin32 x := (zokl_h w3).1 rfl
  have h : (if x = 0 then k t ls st c else k (pc + 3) ls st c) = some (v, c') := h
  by_cases e : x = 0
  · rw [if_pos e] at h
    have g := hk _ _ _ _ h w1 w2 (zokl_t w3) w4
    refine ⟨g.1, fun hF hR a1 a2 H locs lsR hP hS hL => ?_⟩
    have hF9 := hF
    obtain ⟨hx, hb, hml, hown, hts, hKn, hX, hbb2, hsz, hn0, hs0, hfr, hlo, hrc, hrs, hnm⟩ := hF9
    refine lv_if_eq hx hb hd ht (fun q => ?_) (fun q => ?_)
    · exact g.2 hF hR a1 a2 H locs lsR hP hS hL
    · exact absurd ((@z32_if0 x ox).mpr e) q
  · rw [if_neg e] at h
    have g := hk _ _ _ _ h w1 w2 (zokl_t w3) w4
    refine ⟨g.1, fun hF hR a1 a2 H locs lsR hP hS hL => ?_⟩
    have hF9 := hF
    obtain ⟨hx, hb, hml, hown, hts, hKn, hX, hbb2, hsz, hn0, hs0, hfr, hlo, hrc, hrs, hnm⟩ := hF9
    refine lv_if_eq hx hb hd ht (fun q => ?_) (fun q => ?_)
    · exact absurd ((@z32_if0 x ox).mp q) e
    · exact g.2 hF hR a1 a2 H locs lsR hP hS hL
theorem zs_ifne {off : Int} {t : Nat} (hd : decode cc pc = .ok (.ifCond .ne off, 3)) (ht : (pc : Int) + off = (t : Int)) : zSound tab own cc nL rt nm pc (zi_ifeq (pc + 3) t) := by
  intro D cy b b0 L xs l call p e R s m args below meth cd Q n0 s0 dl v c' hCall hbb ls st c k h hk w1 w2 w3 w4
  cases st with
  | nil => cases h
  | cons x st =>
  obtain ⟨e1, h⟩ := zc_of h
  obtain ⟨tx, x⟩ := x
  have e1 : tx = 0 := e1
  subst e1
  have ox : zin32 x := (zokl_h w3).1 rfl
  have h : (if x = 0 then k (pc + 3) ls st c else k t ls st c) = some (v, c') := h
  by_cases e : x = 0
  · rw [if_pos e] at h
    have g := hk _ _ _ _ h w1 w2 (zokl_t w3) w4
    refine ⟨g.1, fun hF hR a1 a2 H locs lsR hP hS hL => ?_⟩
    have hF9 := hF
    obtain ⟨hx, hb, hml, hown, hts, hKn, hX, hbb2, hsz, hn0, hs0, hfr, hlo, hrc, hrs, hnm⟩ := hF9
    refine lv_if_ne hx hb hd ht (fun q => ?_) (fun q => ?_)
    · exact absurd ((@z32_if0 x ox).mpr e) q
    · exact g.2 hF hR a1 a2 H locs lsR hP hS hL
  · rw [if_neg e] at h
    have g := hk _ _ _ _ h w1 w2 (zokl_t w3) w4
    refine ⟨g.1, fun hF hR a1 a2 H locs lsR hP hS hL => ?_⟩
    have hF9 := hF
    obtain ⟨hx, hb, hml, hown, hts, hKn, hX, hbb2, hsz, hn0, hs0, hfr, hlo, hrc, hrs, hnm⟩ := hF9
    refine lv_if_ne hx hb hd ht (fun q => ?_) (fun q => ?_)
    · exact g.2 hF hR a1 a2 H locs lsR hP hS hL
    · exact absurd ((@z32_if0 x ox).mp q) e
theorem zs_iflt {off : Int} {t : Nat} (hd : decode cc pc = .ok (.ifCond .lt off, 3)) (ht : (pc : Int) + off = (t : Int)) : zSound tab own cc nL rt nm pc (zi_iflt t (pc + 3)) := by
  intro D cy b b0 L xs l call p e R s m args below meth cd Q n0 s0 dl v c' hCall hbb ls st c k h hk w1 w2 w3 w4
  cases st with
  | nil => cases h
  | cons x st =>
  obtain ⟨e1, h⟩ := zc_of h
  obtain ⟨tx, x⟩ := x
  have e1 : tx = 0 := e1
  subst e1
  have ox : zin32 x := (zokl_h w3).1 rfl
  have h : (if x < 0 then k t ls st c else k (pc + 3) ls st c) = some (v, c') := h
  by_cases e : x < 0
  · rw [if_pos e] at h
    have g := hk _ _ _ _ h w1 w2 (zokl_t w3) w4
    refine ⟨g.1, fun hF hR a1 a2 H locs lsR hP hS hL => ?_⟩
    have hF9 := hF
    obtain ⟨hx, hb, hml, hown, hts, hKn, hX, hbb2, hsz, hn0, hs0, hfr, hlo, hrc, hrs, hnm⟩ := hF9
    refine lv_if_lt hx hb hd ht (fun q => ?_) (fun q => ?_)
    · exact g.2 hF hR a1 a2 H locs lsR hP hS hL
    · exact absurd ((@z32_lt0 x ox).mpr e) q
  · rw [if_neg e] at h
    have g := hk _ _ _ _ h w1 w2 (zokl_t w3) w4
    refine ⟨g.1, fun hF hR a1 a2 H locs lsR hP hS hL => ?_⟩
    have hF9 := hF
    obtain ⟨hx, hb, hml, hown, hts, hKn, hX, hbb2, hsz, hn0, hs0, hfr, hlo, hrc, hrs, hnm⟩ := hF9
    refine lv_if_lt hx hb hd ht (fun q => ?_) (fun q => ?_)
    · exact absurd ((@z32_lt0 x ox).mp q) e
    · exact g.2 hF hR a1 a2 H locs lsR hP hS hL
theorem zs_ifge {off : Int} {t : Nat} (hd : decode cc pc = .ok (.ifCond .ge off, 3)) (ht : (pc : Int) + off = (t : Int)) : zSound tab own cc nL rt nm pc (zi_iflt (pc + 3) t) := by
  intro D cy b b0 L xs l call p e R s m args below meth cd Q n0 s0 dl v c' hCall hbb ls st c k h hk w1 w2 w3 w4
  cases st with
  | nil => cases h
  | cons x st =>
  obtain ⟨e1, h⟩ := zc_of h
  obtain ⟨tx, x⟩ := x
  have e1 : tx = 0 := e1
  subst e1
  have ox : zin32 x := (zokl_h w3).1 rfl
  have h : (if x < 0 then k (pc + 3) ls st c else k t ls st c) = some (v, c') := h
  by_cases e : x < 0
  · rw [if_pos e] at h
    have g := hk _ _ _ _ h w1 w2 (zokl_t w3) w4
    refine ⟨g.1, fun hF hR a1 a2 H locs lsR hP hS hL => ?_⟩
    have hF9 := hF
    obtain ⟨hx, hb, hml, hown, hts, hKn, hX, hbb2, hsz, hn0, hs0, hfr, hlo, hrc, hrs, hnm⟩ := hF9
    refine lv_if_ge hx hb hd ht (fun q => ?_) (fun q => ?_)
    · exact absurd ((@z32_lt0 x ox).mpr e) (Int32.not_lt.mpr q)
    · exact g.2 hF hR a1 a2 H locs lsR hP hS hL
  · rw [if_neg e] at h
    have g := hk _ _ _ _ h w1 w2 (zokl_t w3) w4
    refine ⟨g.1, fun hF hR a1 a2 H locs lsR hP hS hL => ?_⟩
    have hF9 := hF
    obtain ⟨hx, hb, hml, hown, hts, hKn, hX, hbb2, hsz, hn0, hs0, hfr, hlo, hrc, hrs, hnm⟩ := hF9
    refine lv_if_ge hx hb hd ht (fun q => ?_) (fun q => ?_)
    · exact g.2 hF hR a1 a2 H locs lsR hP hS hL
    · exact absurd ((@z32_lt0 x ox).mp (Int32.not_le.mp q)) e
theorem zs_ifle {off : Int} {t : Nat} (hd : decode cc pc = .ok (.ifCond .le off, 3)) (ht : (pc : Int) + off = (t : Int)) : zSound tab own cc nL rt nm pc (zi_ifle t (pc + 3)) := by
  intro D cy b b0 L xs l call p e R s m args below meth cd Q n0 s0 dl v c' hCall hbb ls st c k h hk w1 w2 w3 w4
  cases st with
  | nil => cases h
  | cons x st =>
  obtain ⟨e1, h⟩ := zc_of h
  obtain ⟨tx, x⟩ := x
  have e1 : tx = 0 := e1
  subst e1
  have ox : zin32 x := (zokl_h w3).1 rfl
  have h : (if x ≤ 0 then k t ls st c else k (pc + 3) ls st c) = some (v, c') := h
  by_cases e : x ≤ 0
  · rw [if_pos e] at h
    have g := hk _ _ _ _ h w1 w2 (zokl_t w3) w4
    refine ⟨g.1, fun hF hR a1 a2 H locs lsR hP hS hL => ?_⟩
    have hF9 := hF
    obtain ⟨hx, hb, hml, hown, hts, hKn, hX, hbb2, hsz, hn0, hs0, hfr, hlo, hrc, hrs, hnm⟩ := hF9
    refine lv_if_le hx hb hd ht (fun q => ?_) (fun q => ?_)
    · exact g.2 hF hR a1 a2 H locs lsR hP hS hL
    · exact absurd ((@z32_le0 x ox).mpr e) q
  · rw [if_neg e] at h
    have g := hk _ _ _ _ h w1 w2 (zokl_t w3) w4
    refine ⟨g.1, fun hF hR a1 a2 H locs lsR hP hS hL => ?_⟩
    have hF9 := hF
    obtain ⟨hx, hb, hml, hown, hts, hKn, hX, hbb2, hsz, hn0, hs0, hfr, hlo, hrc, hrs, hnm⟩ := hF9
    refine lv_if_le hx hb hd ht (fun q => ?_) (fun q => ?_)
    · exact absurd ((@z32_le0 x ox).mp q) e
    · exact g.2 hF hR a1 a2 H locs lsR hP hS hL
theorem zs_ifgt {off : Int} {t : Nat} (hd : decode cc pc = .ok (.ifCond .gt off, 3)) (ht : (pc : Int) + off = (t : Int)) : zSound tab own cc nL rt nm pc (zi_ifle (pc + 3) t) := by
  intro D cy b b0 L xs l call p e R s m args below meth cd Q n0 s0 dl v c' hCall hbb ls st c k h hk w1 w2 w3 w4
  cases st with
  | nil => cases h
  | cons x st =>
  obtain ⟨e1, h⟩ := zc_of h
  obtain ⟨tx, x⟩ := x
  have e1 : tx = 0 := e1
  subst e1
  have ox : zin32 x := (zokl_h w3).1 rfl
  have h : (if x ≤ 0 then k (pc + 3) ls st c else k t ls st c) = some (v, c') := h
  by_cases e : x ≤ 0
  · rw [if_pos e] at h
    have g := hk _ _ _ _ h w1 w2 (zokl_t w3) w4
    refine ⟨g.1, fun hF hR a1 a2 H locs lsR hP hS hL => ?_⟩
    have hF9 := hF
    obtain ⟨hx, hb, hml, hown, hts, hKn, hX, hbb2, hsz, hn0, hs0, hfr, hlo, hrc, hrs, hnm⟩ := hF9
    refine lv_if_gt hx hb hd ht (fun q => ?_) (fun q => ?_)
    · exact absurd ((@z32_le0 x ox).mpr e) (Int32.not_le.mpr q)
    · exact g.2 hF hR a1 a2 H locs lsR hP hS hL
  · rw [if_neg e] at h
    have g := hk _ _ _ _ h w1 w2 (zokl_t w3) w4
    refine ⟨g.1, fun hF hR a1 a2 H locs lsR hP hS hL => ?_⟩
    have hF9 := hF
    obtain ⟨hx, hb, hml, hown, hts, hKn, hX, hbb2, hsz, hn0, hs0, hfr, hlo, hrc, hrs, hnm⟩ := hF9
    refine lv_if_gt hx hb hd ht (fun q => ?_) (fun q => ?_)
    · exact g.2 hF hR a1 a2 H locs lsR hP hS hL
    · exact absurd ((@z32_le0 x ox).mp (Int32.not_lt.mp q)) e
theorem zs_ceq {off : Int} {t : Nat} (hd : decode cc pc = .ok (.if_icmp .eq off, 3)) (ht : (pc : Int) + off = (t : Int)) : zSound tab own cc nL rt nm pc (zi_ceq t (pc + 3)) := by
  intro D cy b b0 L xs l call p e R s m args below meth cd Q n0 s0 dl v c' hCall hbb ls st c k h hk w1 w2 w3 w4
  cases st with
  | nil => cases h
  | cons y st =>
  cases st with
  | nil => cases h
  | cons x st =>
  obtain ⟨e1, h⟩ := zc_of h
  obtain ⟨ty, y⟩ := y
  have e1 : ty = 0 := e1
  subst e1
  obtain ⟨e1, h⟩ := zc_of h
  obtain ⟨tx, x⟩ := x
  have e1 : tx = 0 := e1
  subst e1
  have oy : zin32 y := (zokl_h w3).1 rfl
  have ox : zin32 x := (zokl_h (zokl_t w3)).1 rfl
  have h : (if x = y then k t ls st c else k (pc + 3) ls st c) = some (v, c') := h
  by_cases e : x = y
  · rw [if_pos e] at h
    have g := hk _ _ _ _ h w1 w2 (zokl_t (zokl_t w3)) w4
    refine ⟨g.1, fun hF hR a1 a2 H locs lsR hP hS hL => ?_⟩
    have hF9 := hF
    obtain ⟨hx, hb, hml, hown, hts, hKn, hX, hbb2, hsz, hn0, hs0, hfr, hlo, hrc, hrs, hnm⟩ := hF9
    refine lv_icmp_eq hx hb hd ht (fun q => ?_) (fun q => ?_)
    · exact g.2 hF hR a1 a2 H locs lsR hP hS hL
    · exact absurd ((@z32_eq x y ox oy).mpr e) q
  · rw [if_neg e] at h
    have g := hk _ _ _ _ h w1 w2 (zokl_t (zokl_t w3)) w4
    refine ⟨g.1, fun hF hR a1 a2 H locs lsR hP hS hL => ?_⟩
    have hF9 := hF
    obtain ⟨hx, hb, hml, hown, hts, hKn, hX, hbb2, hsz, hn0, hs0, hfr, hlo, hrc, hrs, hnm⟩ := hF9
    refine lv_icmp_eq hx hb hd ht (fun q => ?_) (fun q => ?_)
    · exact absurd ((@z32_eq x y ox oy).mp q) e
    · exact g.2 hF hR a1 a2 H locs lsR hP hS hL
theorem zs_cne {off : Int} {t : Nat} (hd : decode cc pc = .ok (.if_icmp .ne off, 3)) (ht : (pc : Int) + off = (t : Int)) : zSound tab own cc nL rt nm pc (zi_ceq (pc + 3) t) := by
  intro D cy b b0 L xs l call p e R s m args below meth cd Q n0 s0 dl v c' hCall hbb ls st c k h hk w1 w2 w3 w4
  cases st with
  | nil => cases h
  | cons y st =>
  cases st with
  | nil => cases h
  | cons x st =>
  obtain ⟨e1, h⟩ := zc_of h
  obtain ⟨ty, y⟩ := y
  have e1 : ty = 0 := e1
  subst e1
  obtain ⟨e1, h⟩ := zc_of h
  obtain ⟨tx, x⟩ := x
  have e1 : tx = 0 := e1
  subst e1
  have oy : zin32 y := (zokl_h w3).1 rfl
  have ox : zin32 x := (zokl_h (zokl_t w3)).1 rfl
  have h : (if x = y then k (pc + 3) ls st c else k t ls st c) = some (v, c') := h
  by_cases e : x = y
  · rw [if_pos e] at h
    have g := hk _ _ _ _ h w1 w2 (zokl_t (zokl_t w3)) w4
    refine ⟨g.1, fun hF hR a1 a2 H locs lsR hP hS hL => ?_⟩
    have hF9 := hF
    obtain ⟨hx, hb, hml, hown, hts, hKn, hX, hbb2, hsz, hn0, hs0, hfr, hlo, hrc, hrs, hnm⟩ := hF9
    refine lv_icmp_ne hx hb hd ht (fun q => ?_) (fun q => ?_)
    · exact absurd ((@z32_eq x y ox oy).mpr e) q
    · exact g.2 hF hR a1 a2 H locs lsR hP hS hL
  · rw [if_neg e] at h
    have g := hk _ _ _ _ h w1 w2 (zokl_t (zokl_t w3)) w4
    refine ⟨g.1, fun hF hR a1 a2 H locs lsR hP hS hL => ?_⟩
    have hF9 := hF
    obtain ⟨hx, hb, hml, hown, hts, hKn, hX, hbb2, hsz, hn0, hs0, hfr, hlo, hrc, hrs, hnm⟩ := hF9
    refine lv_icmp_ne hx hb hd ht (fun q => ?_) (fun q => ?_)
    · exact g.2 hF hR a1 a2 H locs lsR hP hS hL
    · exact absurd ((@z32_eq x y ox oy).mp q) e
theorem zs_clt {off : Int} {t : Nat} (hd : decode cc pc = .ok (.if_icmp .lt off, 3)) (ht : (pc : Int) + off = (t : Int)) : zSound tab own cc nL rt nm pc (zi_clt t (pc + 3)) := by
  intro D cy b b0 L xs l call p e R s m args below meth cd Q n0 s0 dl v c' hCall hbb ls st c k h hk w1 w2 w3 w4
  cases st with
  | nil => cases h
  | cons y st =>
  cases st with
  | nil => cases h
  | cons x st =>
  obtain ⟨e1, h⟩ := zc_of h
  obtain ⟨ty, y⟩ := y
  have e1 : ty = 0 := e1
  subst e1
  obtain ⟨e1, h⟩ := zc_of h
  obtain ⟨tx, x⟩ := x
  have e1 : tx = 0 := e1
  subst e1
  have oy : zin32 y := (zokl_h w3).1 rfl
  have ox : zin32 x := (zokl_h (zokl_t w3)).1 rfl
  have h : (if x < y then k t ls st c else k (pc + 3) ls st c) = some (v, c') := h
  by_cases e : x < y
  · rw [if_pos e] at h
    have g := hk _ _ _ _ h w1 w2 (zokl_t (zokl_t w3)) w4
    refine ⟨g.1, fun hF hR a1 a2 H locs lsR hP hS hL => ?_⟩
    have hF9 := hF
    obtain ⟨hx, hb, hml, hown, hts, hKn, hX, hbb2, hsz, hn0, hs0, hfr, hlo, hrc, hrs, hnm⟩ := hF9
    refine lv_icmp_lt hx hb hd ht (fun q => ?_) (fun q => ?_)
    · exact g.2 hF hR a1 a2 H locs lsR hP hS hL
    · exact absurd ((@z32_lt x y ox oy).mpr e) q
  · rw [if_neg e] at h
    have g := hk _ _ _ _ h w1 w2 (zokl_t (zokl_t w3)) w4
    refine ⟨g.1, fun hF hR a1 a2 H locs lsR hP hS hL => ?_⟩
    have hF9 := hF
    obtain ⟨hx, hb, hml, hown, hts, hKn, hX, hbb2, hsz, hn0, hs0, hfr, hlo, hrc, hrs, hnm⟩ := hF9
    refine lv_icmp_lt hx hb hd ht (fun q => ?_) (fun q => ?_)
    · exact absurd ((@z32_lt x y ox oy).mp q) e
    · exact g.2 hF hR a1 a2 H locs lsR hP hS hL
theorem zs_cge {off : Int} {t : Nat} (hd : decode cc pc = .ok (.if_icmp .ge off, 3)) (ht : (pc : Int) + off = (t : Int)) : zSound tab own cc nL rt nm pc (zi_clt (pc + 3) t) := by
  intro D cy b b0 L xs l call p e R s m args below meth cd Q n0 s0 dl v c' hCall hbb ls st c k h hk w1 w2 w3 w4
  cases st with
  | nil => cases h
  | cons y st =>
  cases st with
  | nil => cases h
  | cons x st =>
  obtain ⟨e1, h⟩ := zc_of h
  obtain ⟨ty, y⟩ := y
  have e1 : ty = 0 := e1
  subst e1
  obtain ⟨e1, h⟩ := zc_of h
  obtain ⟨tx, x⟩ := x
  have e1 : tx = 0 := e1
  subst e1
  have oy : zin32 y := (zokl_h w3).1 rfl
  have ox : zin32 x := (zokl_h (zokl_t w3)).1 rfl
  have h : (if x < y then k (pc + 3) ls st c else k t ls st c) = some (v, c') := h
  by_cases e : x < y
  · rw [if_pos e] at h
    have g := hk _ _ _ _ h w1 w2 (zokl_t (zokl_t w3)) w4
    refine ⟨g.1, fun hF hR a1 a2 H locs lsR hP hS hL => ?_⟩
    have hF9 := hF
    obtain ⟨hx, hb, hml, hown, hts, hKn, hX, hbb2, hsz, hn0, hs0, hfr, hlo, hrc, hrs, hnm⟩ := hF9
    refine lv_icmp_ge hx hb hd ht (fun q => ?_) (fun q => ?_)
    · exact absurd ((@z32_lt x y ox oy).mpr e) (Int32.not_lt.mpr q)
    · exact g.2 hF hR a1 a2 H locs lsR hP hS hL
  · rw [if_neg e] at h
    have g := hk _ _ _ _ h w1 w2 (zokl_t (zokl_t w3)) w4
    refine ⟨g.1, fun hF hR a1 a2 H locs lsR hP hS hL => ?_⟩
    have hF9 := hF
    obtain ⟨hx, hb, hml, hown, hts, hKn, hX, hbb2, hsz, hn0, hs0, hfr, hlo, hrc, hrs, hnm⟩ := hF9
    refine lv_icmp_ge hx hb hd ht (fun q => ?_) (fun q => ?_)
    · exact g.2 hF hR a1 a2 H locs lsR hP hS hL
    · exact absurd ((@z32_lt x y ox oy).mp (Int32.not_le.mp q)) e
theorem zs_cle {off : Int} {t : Nat} (hd : decode cc pc = .ok (.if_icmp .le off, 3)) (ht : (pc : Int) + off = (t : Int)) : zSound tab own cc nL rt nm pc (zi_cle t (pc + 3)) := by
  intro D cy b b0 L xs l call p e R s m args below meth cd Q n0 s0 dl v c' hCall hbb ls st c k h hk w1 w2 w3 w4
  cases st with
  | nil => cases h
  | cons y st =>
  cases st with
  | nil => cases h
  | cons x st =>
  obtain ⟨e1, h⟩ := zc_of h
  obtain ⟨ty, y⟩ := y
  have e1 : ty = 0 := e1
  subst e1
  obtain ⟨e1, h⟩ := zc_of h
  obtain ⟨tx, x⟩ := x
  have e1 : tx = 0 := e1
  subst e1
  have oy : zin32 y := (zokl_h w3).1 rfl
  have ox : zin32 x := (zokl_h (zokl_t w3)).1 rfl
  have h : (if x ≤ y then k t ls st c else k (pc + 3) ls st c) = some (v, c') := h
  by_cases e : x ≤ y
  · rw [if_pos e] at h
    have g := hk _ _ _ _ h w1 w2 (zokl_t (zokl_t w3)) w4
    refine ⟨g.1, fun hF hR a1 a2 H locs lsR hP hS hL => ?_⟩
    have hF9 := hF
    obtain ⟨hx, hb, hml, hown, hts, hKn, hX, hbb2, hsz, hn0, hs0, hfr, hlo, hrc, hrs, hnm⟩ := hF9
    refine lv_icmp_le hx hb hd ht (fun q => ?_) (fun q => ?_)
    · exact g.2 hF hR a1 a2 H locs lsR hP hS hL
    · exact absurd ((@z32_le x y ox oy).mpr e) q
  · rw [if_neg e] at h
    have g := hk _ _ _ _ h w1 w2 (zokl_t (zokl_t w3)) w4
    refine ⟨g.1, fun hF hR a1 a2 H locs lsR hP hS hL => ?_⟩
    have hF9 := hF
    obtain ⟨hx, hb, hml, hown, hts, hKn, hX, hbb2, hsz, hn0, hs0, hfr, hlo, hrc, hrs, hnm⟩ := hF9
    refine lv_icmp_le hx hb hd ht (fun q => ?_) (fun q => ?_)
    · exact absurd ((@z32_le x y ox oy).mp q) e
    · exact g.2 hF hR a1 a2 H locs lsR hP hS hL
theorem zs_cgt {off : Int} {t : Nat} (hd : decode cc pc = .ok (.if_icmp .gt off, 3)) (ht : (pc : Int) + off = (t : Int)) : zSound tab own cc nL rt nm pc (zi_cle (pc + 3) t) := by
  intro D cy b b0 L xs l call p e R s m args below meth cd Q n0 s0 dl v c' hCall hbb ls st c k h hk w1 w2 w3 w4
  cases st with
  | nil => cases h
  | cons y st =>
  cases st with
  | nil => cases h
  | cons x st =>
  obtain ⟨e1, h⟩ := zc_of h
  obtain ⟨ty, y⟩ := y
  have e1 : ty = 0 := e1
  subst e1
  obtain ⟨e1, h⟩ := zc_of h
  obtain ⟨tx, x⟩ := x
  have e1 : tx = 0 := e1
  subst e1
  have oy : zin32 y := (zokl_h w3).1 rfl
  have ox : zin32 x := (zokl_h (zokl_t w3)).1 rfl
  have h : (if x ≤ y then k (pc + 3) ls st c else k t ls st c) = some (v, c') := h
  by_cases e : x ≤ y
  · rw [if_pos e] at h
    have g := hk _ _ _ _ h w1 w2 (zokl_t (zokl_t w3)) w4
    refine ⟨g.1, fun hF hR a1 a2 H locs lsR hP hS hL => ?_⟩
    have hF9 := hF
    obtain ⟨hx, hb, hml, hown, hts, hKn, hX, hbb2, hsz, hn0, hs0, hfr, hlo, hrc, hrs, hnm⟩ := hF9
    refine lv_icmp_gt hx hb hd ht (fun q => ?_) (fun q => ?_)
    · exact absurd ((@z32_le x y ox oy).mpr e) (Int32.not_le.mpr q)
    · exact g.2 hF hR a1 a2 H locs lsR hP hS hL
  · rw [if_neg e] at h
    have g := hk _ _ _ _ h w1 w2 (zokl_t (zokl_t w3)) w4
    refine ⟨g.1, fun hF hR a1 a2 H locs lsR hP hS hL => ?_⟩
    have hF9 := hF
    obtain ⟨hx, hb, hml, hown, hts, hKn, hX, hbb2, hsz, hn0, hs0, hfr, hlo, hrc, hrs, hnm⟩ := hF9
    refine lv_icmp_gt hx hb hd ht (fun q => ?_) (fun q => ?_)
    · exact g.2 hF hR a1 a2 H locs lsR hP hS hL
    · exact absurd ((@z32_le x y ox oy).mp (Int32.not_lt.mp q)) e
theorem zs_ifnull {off : Int} {t : Nat} (hd : decode cc pc = .ok (.ifnull off, 3)) (ht : (pc : Int) + off = (t : Int)) : zSound tab own cc nL rt nm pc (zi_ifnull t (pc + 3)) := by
  intro D cy b b0 L xs l call p e R s m args below meth cd Q n0 s0 dl v c' hCall hbb ls st c k h hk w1 w2 w3 w4
  cases st with
  | nil => cases h
  | cons x st =>
  obtain ⟨e1, h⟩ := zc_of h
  obtain ⟨tx, x⟩ := x
  have e1 : tx = 2 := e1
  subst e1
  by_cases e : x = 0
  · subst e
    have g := hk _ _ _ _ h w1 w2 (zokl_t w3) w4
    refine ⟨g.1, fun hF hR a1 a2 H locs lsR hP hS hL => ?_⟩
    have hF9 := hF
    obtain ⟨hx, hb, hml, hown, hts, hKn, hX, hbb2, hsz, hn0, hs0, hfr, hlo, hrc, hrs, hnm⟩ := hF9
    exact lv_ifnullN hx hb hd ht (g.2 hF hR a1 a2 H locs lsR hP hS hL)
  · have h : (if x = 0 then k t ls st c else k (pc + 3) ls st c) = some (v, c') := h
    rw [if_neg e] at h
    have g := hk _ _ _ _ h w1 w2 (zokl_t w3) w4
    refine ⟨g.1, fun hF hR a1 a2 H locs lsR hP hS hL => ?_⟩
    have hF9 := hF
    obtain ⟨hx, hb, hml, hown, hts, hKn, hX, hbb2, hsz, hn0, hs0, hfr, hlo, hrc, hrs, hnm⟩ := hF9
    have ev : zV b b0 (2, x) = .ref (zro b b0 x) := by show va_rf (zrf b b0 x) = _; unfold zrf; rw [if_neg e]; rfl
    rw [List.map_cons, ev]
    exact lv_ifnull hx hb hd (g.2 hF hR a1 a2 H locs lsR hP hS hL)
theorem zs_ifnonnull {off : Int} {t : Nat} (hd : decode cc pc = .ok (.ifnonnull off, 3)) (ht : (pc : Int) + off = (t : Int)) : zSound tab own cc nL rt nm pc (zi_ifnull (pc + 3) t) := by
  intro D cy b b0 L xs l call p e R s m args below meth cd Q n0 s0 dl v c' hCall hbb ls st c k h hk w1 w2 w3 w4
  cases st with
  | nil => cases h
  | cons x st =>
  obtain ⟨e1, h⟩ := zc_of h
  obtain ⟨tx, x⟩ := x
  have e1 : tx = 2 := e1
  subst e1
  by_cases e : x = 0
  · subst e
    have g := hk _ _ _ _ h w1 w2 (zokl_t w3) w4
    refine ⟨g.1, fun hF hR a1 a2 H locs lsR hP hS hL => ?_⟩
    have hF9 := hF
    obtain ⟨hx, hb, hml, hown, hts, hKn, hX, hbb2, hsz, hn0, hs0, hfr, hlo, hrc, hrs, hnm⟩ := hF9
    exact lv_ifnonnullN hx hb hd (g.2 hF hR a1 a2 H locs lsR hP hS hL)
  · have h : (if x = 0 then k (pc + 3) ls st c else k t ls st c) = some (v, c') := h
    rw [if_neg e] at h
    have g := hk _ _ _ _ h w1 w2 (zokl_t w3) w4
    refine ⟨g.1, fun hF hR a1 a2 H locs lsR hP hS hL => ?_⟩
    have hF9 := hF
    obtain ⟨hx, hb, hml, hown, hts, hKn, hX, hbb2, hsz, hn0, hs0, hfr, hlo, hrc, hrs, hnm⟩ := hF9
    have ev : zV b b0 (2, x) = .ref (zro b b0 x) := by show va_rf (zrf b b0 x) = _; unfold zrf; rw [if_neg e]; rfl
    rw [List.map_cons, ev]
    exact lv_ifnonnull hx hb hd ht (g.2 hF hR a1 a2 H locs lsR hP hS hL)
theorem zs_goto {off : Int} {t : Nat} (hd : decode cc pc = .ok (.goto off, 3)) (ht : (pc : Int) + off = (t : Int)) : zSound tab own cc nL rt nm pc (zi_goto t) := by
  intro D cy b b0 L xs l call p e R s m args below meth cd Q n0 s0 dl v c' hCall hbb ls st c k h hk w1 w2 w3 w4
  have g := hk _ _ _ _ h w1 w2 w3 w4
  refine ⟨g.1, fun hF hR a1 a2 H locs lsR hP hS hL => ?_⟩
  have hF9 := hF
  obtain ⟨hx, hb, hml, hown, hts, hKn, hX, hbb2, hsz, hn0, hs0, hfr, hlo, hrc, hrs, hnm⟩ := hF9
  exact lv_goto hx hb hd ht (g.2 hF hR a1 a2 H locs lsR hP hS hL)
theorem zsw_of {x : Int} {d : Nat} {f : Nat → zR} {qs : List (Int × Nat)} {r : Int × zC} (h : zsw x d f qs = some r) : (∃ t, (x, t) ∈ qs ∧ f t = some r) ∨ ((∀ q ∈ qs, x ≠ q.1) ∧ f d = some r) := by
  induction qs with
  | nil => exact Or.inr ⟨(fun q hq => by cases hq), h⟩
  | cons q qs ih =>
    have h : (if x = q.1 then f q.2 else zsw x d f qs) = some r := h
    by_cases e : x = q.1
    · rw [if_pos e] at h
      exact Or.inl ⟨q.2, by rw [e]; exact List.mem_cons_self, h⟩
    · rw [if_neg e] at h
      rcases ih h with ⟨t, h1, h2⟩ | ⟨h1, h2⟩
      · exact Or.inl ⟨t, List.mem_cons_of_mem _ h1, h2⟩
      · refine Or.inr ⟨fun q' hq => ?_, h2⟩
        rcases List.mem_cons.mp hq with rfl | hq
        · exact e
        · exact h1 q' hq
theorem zs_switch {dflt lo hi : Int} {offs : Array Int} {len d : Nat} {qs : List (Int × Nat)} (hd : decode cc pc = .ok (.tableswitch dflt lo hi offs, len)) (hdt : (pc : Int) + dflt = (d : Int)) (hq : ∀ q ∈ qs, lo ≤ q.1 ∧ q.1 ≤ hi ∧ offs[(q.1 - lo).toNat]? = some ((q.2 : Int) - pc)) (hall : ∀ x : Int, lo ≤ x → x ≤ hi → ∃ q ∈ qs, q.1 = x) : zSound tab own cc nL rt nm pc (zi_switch d qs) := by
  intro D cy b b0 L xs l call p e R s m args below meth cd Q n0 s0 dl v c' hCall hbb ls st c k h hk w1 w2 w3 w4
  cases st with
  | nil => cases h
  | cons x st =>
  obtain ⟨e1, h⟩ := zc_of h
  obtain ⟨tx, x⟩ := x
  have e1 : tx = 0 := e1
  subst e1
  have ox : zin32 x := (zokl_h w3).1 rfl
  rcases zsw_of h with ⟨t, h1, h2⟩ | ⟨h1, h2⟩
  · have g := hk _ _ _ _ h2 w1 w2 (zokl_t w3) w4
    refine ⟨g.1, fun hF hR a1 a2 H locs lsR hP hS hL => ?_⟩
    have hF9 := hF
    obtain ⟨hx, hb, hml, hown, hts, hKn, hX, hbb2, hsz, hn0, hs0, hfr, hlo, hrc, hrs, hnm⟩ := hF9
    obtain ⟨q1, q2, q3⟩ := hq _ h1
    exact lv_tableIn hx hb hd (by rw [z32_to ox]; exact Int.not_lt.mpr q1) (by rw [z32_to ox]; exact Int.not_lt.mpr q2) (by rw [z32_to ox]; exact q3) (by omega) (g.2 hF hR a1 a2 H locs lsR hP hS hL)
  · have g := hk _ _ _ _ h2 w1 w2 (zokl_t w3) w4
    refine ⟨g.1, fun hF hR a1 a2 H locs lsR hP hS hL => ?_⟩
    have hF9 := hF
    obtain ⟨hx, hb, hml, hown, hts, hKn, hX, hbb2, hsz, hn0, hs0, hfr, hlo, hrc, hrs, hnm⟩ := hF9
    refine lv_tableOut hx hb hd ?_ hdt (g.2 hF hR a1 a2 H locs lsR hP hS hL)
    rw [z32_to ox]
    by_cases q1 : x < lo
    · exact Or.inl q1
    · by_cases q2 : hi < x
      · exact Or.inr q2
      · obtain ⟨q, hq1, hq2⟩ := hall x (Int.not_lt.mp q1) (Int.not_lt.mp q2)
        exact absurd hq2.symm (h1 q hq1)
theorem zs_dup (hd : decode cc pc = .ok (.dup, 1)) : zSound tab own cc nL rt nm pc (zi_dup (pc + 1)) := by
  intro D cy b b0 L xs l call p e R s m args below meth cd Q n0 s0 dl v c' hCall hbb ls st c k h hk w1 w2 w3 w4
  cases st with
  | nil => cases h
  | cons x st =>
  obtain ⟨e1, h⟩ := zc_no h
  have g := hk _ _ _ _ h w1 w2 (zokl_c (zokl_h w3) w3) w4
  refine ⟨g.1, fun hF hR a1 a2 H locs lsR hP hS hL => ?_⟩
  have hF9 := hF
  obtain ⟨hx, hb, hml, hown, hts, hKn, hX, hbb2, hsz, hn0, hs0, hfr, hlo, hrc, hrs, hnm⟩ := hF9
  exact lv_dup hx hb hd (zV_cat x e1) (g.2 hF hR a1 a2 H locs lsR hP hS hL)
theorem zs_dup2 (hd : decode cc pc = .ok (.dup2, 1)) : zSound tab own cc nL rt nm pc (zi_dup2 (pc + 1)) := by
  intro D cy b b0 L xs l call p e R s m args below meth cd Q n0 s0 dl v c' hCall hbb ls st c k h hk w1 w2 w3 w4
  cases st with
  | nil => cases h
  | cons y st =>
  cases st with
  | nil => cases h
  | cons x st =>
  obtain ⟨e1, h⟩ := zc_no h
  obtain ⟨e2, h⟩ := zc_no h
  have g := hk _ _ _ _ h w1 w2 (zokl_c (zokl_h w3) (zokl_c (zokl_h (zokl_t w3)) w3)) w4
  refine ⟨g.1, fun hF hR a1 a2 H locs lsR hP hS hL => ?_⟩
  have hF9 := hF
  obtain ⟨hx, hb, hml, hown, hts, hKn, hX, hbb2, hsz, hn0, hs0, hfr, hlo, hrc, hrs, hnm⟩ := hF9
  exact lv_dup2_11 hx hb hd (zV_cat y e1) (zV_cat x e2) (g.2 hF hR a1 a2 H locs lsR hP hS hL)
theorem zs_pop (hd : decode cc pc = .ok (.pop, 1)) : zSound tab own cc nL rt nm pc (zi_pop (pc + 1)) := by
  intro D cy b b0 L xs l call p e R s m args below meth cd Q n0 s0 dl v c' hCall hbb ls st c k h hk w1 w2 w3 w4
  cases st with
  | nil => cases h
  | cons x st =>
  obtain ⟨e1, h⟩ := zc_no h
  have g := hk _ _ _ _ h w1 w2 (zokl_t w3) w4
  refine ⟨g.1, fun hF hR a1 a2 H locs lsR hP hS hL => ?_⟩
  have hF9 := hF
  obtain ⟨hx, hb, hml, hown, hts, hKn, hX, hbb2, hsz, hn0, hs0, hfr, hlo, hrc, hrs, hnm⟩ := hF9
  exact lv_pop hx hb hd (zV_cat x e1) (g.2 hF hR a1 a2 H locs lsR hP hS hL)
theorem zs_objinit {index : Nat} (hd : decode cc pc = .ok (.invokespecial index, 3)) (h1 : Cond.methodLink own index objectInit ∈ zWS) (h2 : Cond.instanceMethod objectInit ∈ zWS) (h3 : Cond.code objectInit ⟨#[0xb1]⟩ 1 none ∈ zWS) : zSound tab own cc nL rt nm pc (zi_objinit (pc + 3)) := by
  intro D cy b b0 L xs l call p e R s m args below meth cd Q n0 s0 dl v c' hCall hbb ls st c k h hk w1 w2 w3 w4
  cases st with
  | nil => cases h
  | cons x st =>
  obtain ⟨e1, h⟩ := zc_of h
  obtain ⟨tx, x⟩ := x
  have e1 : tx = 2 := e1
  subst e1
  obtain ⟨e2, h⟩ := zc_le h
  obtain ⟨e3, h⟩ := zi_no h
  have e3 : ¬ x = 0 := e3
  have g := hk _ _ _ _ h w1 w2 (zokl_t w3) w4
  refine ⟨g.1, fun hF hR a1 a2 H locs lsR hP hS hL => ?_⟩
  have hF9 := hF
  obtain ⟨hx, hb, hml, hown, hts, hKn, hX, hbb2, hsz, hn0, hs0, hfr, hlo, hrc, hrs, hnm⟩ := hF9
  have ev : zV b b0 (2, x) = .ref (zro b b0 x) := by show va_rf (zrf b b0 x) = _; unfold zrf; rw [if_neg e3]; rfl
  rw [List.map_cons, ev]
  refine W.objInit hx hb hown (hts _ h1) (hts _ h2) (hts _ h3) rfl (by show lsR.size = _; rw [hL.1, hml]) rfl hd (by omega) ?_ (g.2 hF hR a1 a2 H locs lsR hP hS hL)
  show 2 * 0 + ((st.map (zV b b0)).map fun v => v.category).sum + 12 ≤ R.locals
  rw [zcat_eq]; omega
theorem zs_ret {t : Nat} {ty : FieldType} (hr : rt = some ty) (hz : (ty = .int ∧ t = 0 ∧ decode cc pc = .ok (.ireturn, 1)) ∨ (ty = .long ∧ t = 1 ∧ decode cc pc = .ok (.lreturn, 1)) ∨ (∃ n, ty = .object n ∧ t = 2 ∧ decode cc pc = .ok (.areturn, 1))) : zSound tab own cc nL rt nm pc (zi_ret t) := by
  intro D cy b b0 L xs l call p e R s m args below meth cd Q n0 s0 dl v c' hCall hbb ls st c k h hk w1 w2 w3 w4
  cases st with
  | nil => cases h
  | cons x st =>
  cases st with
  | cons y st => cases h
  | nil =>
  obtain ⟨t2, x⟩ := x
  have h : cond (Nat.beq t2 t) (some (x, c)) none = some (v, c') := h
  obtain ⟨e1, h4⟩ := zc_of h
  have h3 := Option.some.inj h4
  have e4 : x = v := congrArg Prod.fst h3
  have e5 : c = c' := congrArg Prod.snd h3
  clear h
  subst e1 e4 e5
  have oz := zokl_h w3
  rcases hz with ⟨rfl, rfl, hd⟩ | ⟨rfl, rfl, hd⟩ | ⟨n, rfl, rfl, hd⟩ <;> subst hr
  · exact ⟨⟨oz, w1, Int.le_refl _, Int.le_refl _⟩, fun hF hR a1 a2 H locs lsR hP hS hL => hR pc H locs lsR _ ⟨hd, rfl⟩ hP hS⟩
  · exact ⟨⟨oz, w1, Int.le_refl _, Int.le_refl _⟩, fun hF hR a1 a2 H locs lsR hP hS hL => hR pc H locs lsR _ ⟨hd, rfl⟩ hP hS⟩
  · exact ⟨⟨oz, w1, Int.le_refl _, Int.le_refl _⟩, fun hF hR a1 a2 H locs lsR hP hS hL => hR pc H locs lsR _ ⟨hd, rfl⟩ hP hS⟩
theorem zs_zret (hr : rt = some .boolean) (hd : decode cc pc = .ok (.ireturn, 1)) : zSound tab own cc nL rt nm pc zi_zret := by
  intro D cy b b0 L xs l call p e R s m args below meth cd Q n0 s0 dl v c' hCall hbb ls st c k h hk w1 w2 w3 w4
  cases st with
  | nil => cases h
  | cons x st =>
  cases st with
  | cons y st => cases h
  | nil =>
  obtain ⟨e1, h⟩ := zc_of h
  obtain ⟨t2, x⟩ := x
  have e1 : t2 = 0 := e1
  subst e1
  obtain ⟨e2, h⟩ := zi_of h
  cases h
  subst hr
  exact ⟨⟨zokl_h w3, w1, Int.le_refl _, Int.le_refl _⟩, fun hF hR a1 a2 H locs lsR hP hS hL => hR pc H locs lsR _ ⟨hd, rfl, e2⟩ hP hS⟩
theorem zs_vret (hr : rt = none) (hd : decode cc pc = .ok (.return_, 1)) : zSound tab own cc nL rt nm pc zi_vret := by
  intro D cy b b0 L xs l call p e R s m args below meth cd Q n0 s0 dl v c' hCall hbb ls st c k h hk w1 w2 w3 w4
  cases st with
  | cons x st => cases h
  | nil =>
  cases h
  subst hr
  exact ⟨⟨trivial, w1, Int.le_refl _, Int.le_refl _⟩, fun hF hR a1 a2 H locs lsR hP hS hL => hR pc H locs lsR _ ⟨hd, rfl⟩ hP hS⟩
end
