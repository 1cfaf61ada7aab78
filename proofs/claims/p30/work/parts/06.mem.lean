/-- an object; rows of ints, booleans, longs, references to Object, to Chronicle -/
def zob (ci : Nat) (fs : List Value) : va_E := .inr (ci, fs)
def zai (g : zGh) (n : Nat) (f : Nat → Int32) : va_E := .inl (g.2.2.1 0, n, .inl f)
def zaz (g : zGh) (n : Nat) (f : Nat → Int32) : va_E := .inl (g.2.2.1 1, n, .inl f)
def zaj (g : zGh) (n : Nat) (f : Nat → Int64) : va_E := .inl (g.2.2.1 2, n, .inr (.inl f))
def zao (g : zGh) (n : Nat) (f : Nat → Option Nat) : va_E := .inl (g.2.2.1 3, n, .inr (.inr (.inr (.inr f))))
def zac (g : zGh) (n : Nat) (f : Nat → Option Nat) : va_E := .inl (g.2.2.1 4, n, .inr (.inr (.inr (.inr f))))
/-- a field's place as one class's constant pool has it -/
def zF (own : String) (idx ci j : Nat) (C : String) (T : u_T) (N : Nat) (ref : String) : Prop :=
  vwCl[ci]? = some (C, T, N) ∧ j < N ∧ Cond.fieldLink own idx ref (T j).2.1 (T j).2.2.1 ∈ GW ∧ (∀ w ∈ u_ws C T N, w ∈ GW) ∧ (ref = (T j).1 ∨ Cond.sameField ref (T j).1 (T j).2.1 (T j).2.2.1 ∈ GW)
/-- .. a field that is written -/
def zFp (C : String) (T : u_T) (N : Nat) (ty : Nat → FieldType) : Prop :=
  (∀ k, k < N → parseFieldDescriptor (T k).2.2.1 = some (ty k)) ∧ (∀ a, a < N → ∀ b, b < N → a ≠ b → (T a).2.1 ≠ (T b).2.1)
section ZM
variable {g : zGh} {X : zX} {own : String} {cc : ByteArray} {nL fr lc mc ms : Nat} {M : zM} {k n pc : Nat} {L L1 : List (Option Value)} {st : List Value}
theorem zF.same {idx ci j N : Nat} {C ref : String} {T : u_T} {args : Array Value} {s : State} (hF : zF own idx ci j C T N ref) (hts : ∀ w ∈ GW, w.before args s = true) : ∀ x, s.fieldFound? (T j).1 (T j).2.1 (T j).2.2.1 = some x → s.fieldFound? ref (T j).2.1 (T j).2.2.1 = some x := by
  rcases hF.2.2.2.2 with h | h
  · rw [h]; exact fun _ h => h
  · exact fun x hx => u_same (hts _ h) x hx
theorem zget (C : zC g X own cc nL fr lc mc ms) {idx ci j N a : Nat} {Cn ref : String} {T : u_T} {fs : List Value} {v : Value} (hF : zF own idx ci j Cn T N ref) (hM : M a = some (zob ci fs)) (hv : fs[j]? = some v) (hd : decode cc pc = .ok (.getfield idx, 3)) (kk : zG g X M k n (pc + 3) L (v :: st)) : zG g X M k n pc L (.ref a :: st) := by
  intro H locs ls hH hS hL
  have hP : va_P g.2.1 vwCl [(a, zob ci fs)] H := fun i q hq => by
    have hz : i < 1 := (List.getElem?_eq_some_iff.mp hq).1
    rw [show i = 0 by omega] at hq
    cases hq
    exact hH.at hM
  exact va_get C.1 C.2.1 C.2.2.2.2.1 hF.2.2.2.1 C.2.2.2.1 C.2.2.2.2.2.1.1 hP 0 rfl hF.1 j hF.2.1 (C.2.2.2.2.1 _ hF.2.2.1) (hF.same C.2.2.2.2.1) hv hd (kk H locs ls hH hS hL)
theorem zput (C : zC g X own cc nL fr lc mc ms) {idx ci j N a : Nat} {Cn ref : String} {T : u_T} {ty : Nat → FieldType} {fs fs1 : List Value} {v : Value} (hF : zF own idx ci j Cn T N ref) (hp : zFp Cn T N ty) (hfin : (T j).2.2.2 = false) (hM : M a = some (zob ci fs)) (hn : narrow (ty j) v = v) (hfit : fits (ty j) v = true) (hl : j < fs.length) (hs : fs.set j v = fs1) (hd : decode cc pc = .ok (.putfield idx, 3)) (kk : zG g X (zup M a (zob ci fs1)) k n (pc + 3) L st) : zG g X M k n pc L (v :: .ref a :: st) := by
  intro H locs ls hH hS hL
  subst hs
  obtain ⟨ws, hP, hD, hi⟩ := hH
  obtain ⟨q, hq⟩ := List.getElem?_of_mem ((hi _ _).mp hM)
  exact va_put C.1 C.2.1 C.2.2.2.2.1 hF.2.2.2.1 ty hp.1 hp.2 C.2.2.2.1 C.2.2.2.2.2.1.1 hP hD hS q hq hF.1 j hF.2.1 (C.2.2.2.2.1 _ hF.2.2.1) (hF.same C.2.2.2.2.1) hfin (hp.1 j hF.2.1) hn hfit hl hd
    (fun H1 locs1 hP1 hD1 hS1 => kk H1 locs1 ls ⟨_, hP1, hD1, zset_iff hP hD hi hq⟩ hS1 hL)
theorem zputF (C : zC g X own cc nL fr lc mc ms) (hnm : zNm X "<init>") {idx ci j N a : Nat} {Cn ref : String} {T : u_T} {ty : Nat → FieldType} {fs fs1 : List Value} {v : Value} (hF : zF own idx ci j Cn T N ref) (hp : zFp Cn T N ty) (hfin : (T j).2.2.2 = true) (hdecl : (T j).1 = own) (hM : M a = some (zob ci fs)) (hn : narrow (ty j) v = v) (hfit : fits (ty j) v = true) (hl : j < fs.length) (hs : fs.set j v = fs1) (hd : decode cc pc = .ok (.putfield idx, 3)) (kk : zG g X (zup M a (zob ci fs1)) k n (pc + 3) L st) : zG g X M k n pc L (v :: .ref a :: st) := by
  intro H locs ls hH hS hL
  subst hs
  obtain ⟨ws, hP, hD, hi⟩ := hH
  obtain ⟨q, hq⟩ := List.getElem?_of_mem ((hi _ _).mp hM)
  exact va_putF C.1 C.2.1 C.2.2.2.2.1 hF.2.2.2.1 ty hp.1 hp.2 C.2.2.2.1 C.2.2.2.2.2.1.1 hP hD hS q hq hF.1 j hF.2.1 (C.2.2.2.2.1 _ hF.2.2.1) (hF.same C.2.2.2.2.1) hfin hnm hdecl (hp.1 j hF.2.1) hn hfit hl hd
    (fun H1 locs1 hP1 hD1 hS1 => kk H1 locs1 ls ⟨_, hP1, hD1, zset_iff hP hD hi hq⟩ hS1 hL)
/-- one cell of a memory, alone -/
theorem zH.one {H : Heap} (hH : zH vwCl g M H) {a : Nat} {e : va_E} (hM : M a = some e) : va_P g.2.1 vwCl [(a, e)] H := fun i q hq => by
  have hz : i < 1 := (List.getElem?_eq_some_iff.mp hq).1
  rw [show i = 0 by omega] at hq
  cases hq
  exact hH.at hM
theorem ziald (C : zC g X own cc nL fr lc mc ms) {a N : Nat} {f : Nat → Int32} {i : Int32} (hM : M a = some (zai g N f)) (hin : vp_in i N) (hd : decode cc pc = .ok (.iaload, 1)) (kk : zG g X M k n (pc + 1) L (.int (f i.toNatClampNeg) :: st)) : zG g X M k n pc L (.int i :: .ref a :: st) :=
  fun H locs ls hH hS hL => va_iald (tys := zT g) C.1 C.2.1 C.2.2.2.2.2.1.1 (hH.one hM) 0 0 rfl rfl hin hd (kk H locs ls hH hS hL)
theorem zoald (C : zC g X own cc nL fr lc mc ms) {a N : Nat} {f : Nat → Option Nat} {i : Int32} (hM : M a = some (zao g N f)) (hin : vp_in i N) (hd : decode cc pc = .ok (.aaload, 1)) (kk : zG g X M k n (pc + 1) L (va_rf (f i.toNatClampNeg) :: st)) : zG g X M k n pc L (.int i :: .ref a :: st) :=
  fun H locs ls hH hS hL => va_aldq (tys := zT g) C.1 C.2.1 C.2.2.2.2.2.1.1 (hH.one hM) 0 3 rfl rfl hin hd (kk H locs ls hH hS hL)
theorem zcald (C : zC g X own cc nL fr lc mc ms) {a N : Nat} {f : Nat → Option Nat} {i : Int32} (hM : M a = some (zac g N f)) (hin : vp_in i N) (hd : decode cc pc = .ok (.aaload, 1)) (kk : zG g X M k n (pc + 1) L (va_rf (f i.toNatClampNeg) :: st)) : zG g X M k n pc L (.int i :: .ref a :: st) :=
  fun H locs ls hH hS hL => va_aldq (tys := zT g) C.1 C.2.1 C.2.2.2.2.2.1.1 (hH.one hM) 0 4 rfl rfl hin hd (kk H locs ls hH hS hL)
theorem ziast (C : zC g X own cc nL fr lc mc ms) {a N : Nat} {f : Nat → Int32} {i x : Int32} (hM : M a = some (zai g N f)) (hin : vp_in i N) (hd : decode cc pc = .ok (.iastore, 1)) (kk : zG g X (zup M a (zai g N (upd f i.toNatClampNeg x))) k n (pc + 1) L st) : zG g X M k n pc L (.int x :: .int i :: .ref a :: st) := by
  intro H locs ls hH hS hL
  obtain ⟨ws, hP, hD, hi⟩ := hH
  obtain ⟨q, hq⟩ := List.getElem?_of_mem ((hi _ _).mp hM)
  exact va_iast (tys := zT g) C.1 C.2.1 C.2.2.2.2.2.1.1 hP hD hS q 0 hq rfl hin hd (fun H1 locs1 hP1 hD1 hS1 => kk H1 locs1 ls ⟨_, hP1, hD1, zset_iff hP hD hi hq⟩ hS1 hL)
theorem zcast (C : zC g X own cc nL fr lc mc ms) {a v N : Nat} {vs : List Value} {f : Nat → Option Nat} {i : Int32} (hM : M a = some (zac g N f)) (hv : M v = some (zob 1 vs)) (hin : vp_in i N) (hd : decode cc pc = .ok (.aastore, 1)) (kk : zG g X (zup M a (zac g N (va_up f i.toNatClampNeg (some v)))) k n (pc + 1) L st) : zG g X M k n pc L (.ref v :: .int i :: .ref a :: st) := by
  intro H locs ls hH hS hL
  obtain ⟨ws, hP, hD, hi⟩ := hH
  obtain ⟨q, hq⟩ := List.getElem?_of_mem ((hi _ _).mp hM)
  obtain ⟨qv, hqv⟩ := List.getElem?_of_mem ((hi _ _).mp hv)
  exact va_astq (tys := zT g) C.1 C.2.1 C.2.2.2.2.2.1.1 hP hD hS q 4 qv 1 hq rfl hqv rfl hin hd (fun H1 locs1 hP1 hD1 hS1 => kk H1 locs1 ls ⟨_, hP1, hD1, zset_iff hP hD hi hq⟩ hS1 hL)
theorem zalen (C : zC g X own cc nL fr lc mc ms) {a N : Nat} {f : Nat → Int32} {v : Int32} (hM : M a = some (zai g N f)) (hv : Int32.ofNat N = v) (hd : decode cc pc = .ok (.arraylength, 1)) (kk : zG g X M k n (pc + 1) L (.int v :: st)) : zG g X M k n pc L (.ref a :: st) :=
  fun H locs ls hH hS hL => va_alen (tys := zT g) (ty := .int) C.1 C.2.1 C.2.2.2.2.2.1.1 (hH.one hM) 0 0 rfl rfl hv hd (kk H locs ls hH hS hL)
theorem zaleno (C : zC g X own cc nL fr lc mc ms) {a N : Nat} {f : Nat → Option Nat} {v : Int32} (hM : M a = some (zao g N f)) (hv : Int32.ofNat N = v) (hd : decode cc pc = .ok (.arraylength, 1)) (kk : zG g X M k n (pc + 1) L (.int v :: st)) : zG g X M k n pc L (.ref a :: st) :=
  fun H locs ls hH hS hL => va_alen (tys := zT g) (ty := .object "java/lang/Object") C.1 C.2.1 C.2.2.2.2.2.1.1 (hH.one hM) 0 3 rfl rfl hv hd (kk H locs ls hH hS hL)
/-- a class's facts for 'new' -/
def zNwC (own : String) (idx ci N : Nat) (Cn : String) (T : u_T) (ty : Nat → FieldType) : Prop :=
  vwCl[ci]? = some (Cn, T, N) ∧ (∀ w ∈ u_ws Cn T N, w ∈ GW) ∧ (∀ k, k < N → parseFieldDescriptor (T k).2.2.1 = some (ty k)) ∧ Cond.classLink own idx Cn ∈ GW ∧ Cond.instantiable Cn N ∈ GW ∧ Cond.initialized Cn ∈ GW
theorem znew (C : zC g X own cc nL fr lc mc ms) {idx ci N : Nat} {Cn : String} {T : u_T} {ty : Nat → FieldType} {fs : List Value} (hN : zNwC own idx ci N Cn T ty) (hfs : (List.range N).map (fun j => defaultValue (ty j)) = fs) (hc : k + 1 ≤ mc) (hs : n + N ≤ ms) (hd : decode cc pc = .ok (.new idx, 3)) (kk : ∀ q : Nat, M q = none → zG g X (zup M q (zob ci fs)) (k + 1) (n + N) (pc + 3) L (.ref q :: st)) : zG g X M k n pc L st := by
  intro H locs ls hH hS hL
  obtain ⟨ws, hP, hD, hi⟩ := hH
  have hlo : g.1 ≤ X.1.2.2.2.heap.size := C.2.2.2.2.2.2.2.1
  refine va_new C.1 C.2.1 C.2.2.2.2.1 hN.2.1 ty hN.2.2.1 C.2.2.2.1 (C.2.2.2.2.1 _ hN.2.2.2.1) (C.2.2.2.2.1 _ hN.2.2.2.2.1) (C.2.2.2.2.1 _ hN.2.2.2.2.2) C.2.2.2.2.2.1.1 hP hD hS (fun q hq => Nat.le_trans hlo hq) hN.1 (fs := fs) (fun j hj => ?_) (by rw [C.2.2.2.2.2.2.2.2.2.2.1]; exact hc) (by rw [C.2.2.2.2.2.2.2.2.2.2.2]; exact hs) hd (fun q H1 hP1 hD1 hS1 => ?_)
  · subst hfs
    simp [vp_V, hj]
  · exact kk q (zpush_fresh hD1 hi) H1 locs ls ⟨_, hP1, hD1, zpush_iff hD1 hi⟩ hS1 hL
theorem zfindC {s : State} {c1 c2 : ClassId} {ty : FieldType} (h1 : va_RA s c1 ty) (h2 : va_RA s c2 ty) : c1 = c2 := by
  cases ty with
  | object C =>
    obtain ⟨_, _, _, _, _, e1⟩ := h1
    obtain ⟨_, _, _, _, _, e2⟩ := h2
    exact Option.some.inj (e1.symm.trans e2)
  | _ => exact Option.some.inj (Eq.trans (Eq.symm h1) h2)
theorem znewi (C : zC g X own cc nL fr lc mc ms) {N : Nat} {v : Int32} (hw : Cond.arrayClass .int ∈ GW) (hn : ¬ v < 0) (hN : v.toNatClampNeg = N) (hb : N * 4 ≤ 536870912) (hc : k + 1 ≤ mc) (hs : n + N ≤ ms) (hd : decode cc pc = .ok (.newarray .int, 2)) (kk : ∀ q : Nat, M q = none → zG g X (zup M q (zai g N (fun _ => 0))) (k + 1) (n + N) (pc + 2) L (.ref q :: st)) : zG g X M k n pc L (.int v :: st) := by
  intro H locs ls hH hS hL
  obtain ⟨ws, hP, hD, hi⟩ := hH
  have hlo : g.1 ≤ X.1.2.2.2.heap.size := C.2.2.2.2.2.2.2.1
  refine va_newa (atype := .int) (a0 := (N, .inl (fun _ => 0))) (ty := .int) C.1 C.2.1 (C.2.2.2.2.1 _ hw) rfl C.2.2.2.2.2.1.1 hP hD hS (fun q hq => Nat.le_trans hlo hq) (fun _ => rfl) hn hN hb (by rw [C.2.2.2.2.2.2.2.2.2.2.1]; exact hc) (by rw [C.2.2.2.2.2.2.2.2.2.2.2]; exact hs) hd (fun q cA H1 hK1 hP1 hD1 hS1 => ?_)
  have e : cA = g.2.2.1 0 := zfindC (hK1.2 5 (cA, .int) rfl).2 (C.2.2.2.2.2.1.1.2 0 (g.2.2.1 0, .int) rfl).2
  subst e
  exact kk q (zpush_fresh hD1 hi) H1 locs ls ⟨_, hP1, hD1, zpush_iff hD1 hi⟩ hS1 hL
theorem znewO (C : zC g X own cc nL fr lc mc ms) {idx N : Nat} {v : Int32} (hw : Cond.classLink own idx "java/lang/Object" ∈ GW) (hn : ¬ v < 0) (hN : v.toNatClampNeg = N) (hb : N * 4 ≤ 536870912) (hc : k + 1 ≤ mc) (hs : n + N ≤ ms) (hd : decode cc pc = .ok (.anewarray idx, 3)) (kk : ∀ q : Nat, M q = none → zG g X (zup M q (zao g N (fun _ => none))) (k + 1) (n + N) (pc + 3) L (.ref q :: st)) : zG g X M k n pc L (.int v :: st) := by
  intro H locs ls hH hS hL
  obtain ⟨ws, hP, hD, hi⟩ := hH
  have hlo : g.1 ≤ X.1.2.2.2.heap.size := C.2.2.2.2.2.2.2.1
  refine va_newq C.1 C.2.1 C.2.2.2.1 (C.2.2.2.2.1 _ hw) C.2.2.2.2.2.1.2.2.2.2.2.1.1 C.2.2.2.2.2.1.1 hP hD hS (fun q hq => Nat.le_trans hlo hq) hn hN hb (by rw [C.2.2.2.2.2.2.2.2.2.2.1]; exact hc) (by rw [C.2.2.2.2.2.2.2.2.2.2.2]; exact hs) hd (fun q cA H1 hK1 hP1 hD1 hS1 => ?_)
  have e : cA = g.2.2.1 3 := zfindC (hK1.2 5 (cA, .object "java/lang/Object") rfl).2 (C.2.2.2.2.2.1.1.2 3 (g.2.2.1 3, .object "java/lang/Object") rfl).2
  subst e
  exact kk q (zpush_fresh hD1 hi) H1 locs ls ⟨_, hP1, hD1, zpush_iff hD1 hi⟩ hS1 hL
theorem znewC (C : zC g X own cc nL fr lc mc ms) {idx N : Nat} {v : Int32} (hw : Cond.classLink own idx "Milletcourt$Chronicle" ∈ GW) (hn : ¬ v < 0) (hN : v.toNatClampNeg = N) (hb : N * 4 ≤ 536870912) (hc : k + 1 ≤ mc) (hs : n + N ≤ ms) (hd : decode cc pc = .ok (.anewarray idx, 3)) (kk : ∀ q : Nat, M q = none → zG g X (zup M q (zac g N (fun _ => none))) (k + 1) (n + N) (pc + 3) L (.ref q :: st)) : zG g X M k n pc L (.int v :: st) := by
  intro H locs ls hH hS hL
  obtain ⟨ws, hP, hD, hi⟩ := hH
  have hlo : g.1 ≤ X.1.2.2.2.heap.size := C.2.2.2.2.2.2.2.1
  refine va_newq C.1 C.2.1 C.2.2.2.1 (C.2.2.2.2.1 _ hw) C.2.2.2.2.2.1.2.2.2.2.2.1.2 C.2.2.2.2.2.1.1 hP hD hS (fun q hq => Nat.le_trans hlo hq) hn hN hb (by rw [C.2.2.2.2.2.2.2.2.2.2.1]; exact hc) (by rw [C.2.2.2.2.2.2.2.2.2.2.2]; exact hs) hd (fun q cA H1 hK1 hP1 hD1 hS1 => ?_)
  have e : cA = g.2.2.1 4 := zfindC (hK1.2 5 (cA, .object "Milletcourt$Chronicle") rfl).2 (C.2.2.2.2.2.1.1.2 4 (g.2.2.1 4, .object "Milletcourt$Chronicle") rfl).2
  subst e
  exact kk q (zpush_fresh hD1 hi) H1 locs ls ⟨_, hP1, hD1, zpush_iff hD1 hi⟩ hS1 hL
theorem zS.keep {H0 H : Heap} {locs : List Loc} (hS : va_S (zA g) H0 H locs) : ∀ a : Nat, a < H0.size → ¬ zA g a → H[a]? = H0[a]? := fun a h1 h2 => hS.2.1 a h1 h2
/-- a static row of ints is read -/
theorem zsald (C : zC g X own cc nL fr lc mc ms) {t N : Nat} {f : Nat → Int32} {i : Int32} (hT : va_T .int t N (fun j => .int (f j)) (zA g) X.1.2.2.2 X.1.2.2.2.heap) (hin : vp_in i N) (hd : decode cc pc = .ok (.iaload, 1)) (kk : zG g X M k n (pc + 1) L (.int (f i.toNatClampNeg) :: st)) : zG g X M k n pc L (.int i :: .ref t :: st) :=
  fun H locs ls hH hS hL => va_ti C.1 C.2.1 hT hS hin rfl hd (kk H locs ls hH hS hL)
theorem zsalen (C : zC g X own cc nL fr lc mc ms) {ty : FieldType} {t N : Nat} {f : Nat → Value} {v : Int32} (hT : va_T ty t N f (zA g) X.1.2.2.2 X.1.2.2.2.heap) (hv : Int32.ofNat N = v) (hd : decode cc pc = .ok (.arraylength, 1)) (kk : zG g X M k n (pc + 1) L (.int v :: st)) : zG g X M k n pc L (.ref t :: st) := by
  intro H locs ls hH hS hL
  obtain ⟨cell, h1, h2, h3, h4, h5, h6, h7⟩ := hT
  exact W.alen C.1 C.2.1 (cell := cell) (by rw [hS.2.1 t (Array.getElem?_eq_some_iff.mp h1).1 h7]; exact h1) h2 (h5.trans hv) rfl rfl hd (kk H locs ls hH hS hL)
theorem zgets (C : zC g X own cc nL fr lc mc ms) {Cn nm d : String} {v : Value} {idx : Nat} (hZ : va_Z Cn nm d v (zA g) X.1.2.2.2 X.1.2.2.2.heap) (hl : Cond.fieldLink own idx Cn nm d ∈ GW) (hd : decode cc pc = .ok (.getstatic idx, 3)) (kk : zG g X M k n (pc + 3) L (v :: st)) : zG g X M k n pc L st :=
  fun H locs ls hH hS hL => va_gets C.1 C.2.1 hZ hS C.2.2.2.1 (C.2.2.2.2.1 _ hl) (fun _ h => h) hd (kk H locs ls hH hS hL)
theorem zcastS (C : zC g X own cc nL fr lc mc ms) {idx ci a : Nat} {q : vw_C} {fs : List Value} (hM : M a = some (zob ci fs)) (hc : vwCl[ci]? = some q) (hl : Cond.classLink own idx q.1 ∈ GW) (hd : decode cc pc = .ok (.checkcast idx, 3)) (kk : zG g X M k n (pc + 3) L (.ref a :: st)) : zG g X M k n pc L (.ref a :: st) :=
  fun H locs ls hH hS hL => va_castS C.1 C.2.1 C.2.2.2.1 (C.2.2.2.2.1 _ hl) (C.2.2.2.2.2.1.1.1 ci q hc).2 (va_recv C.2.2.2.2.2.1.1 (hH.one hM) (q0 := 0) hc rfl) hd (kk H locs ls hH hS hL)
-- ends
theorem zend_i {Post : Int32 → zM → Prop} {PX : String → zM → Prop} {v : Int32} (C : zC g X own cc nL fr lc mc ms) (hE : zE g X (some .int) mkI mc ms Post PX) (hd : decode cc pc = .ok (.ireturn, 1)) (hk : k ≤ mc) (hn : n ≤ ms) (hp : Post v M) : zG g X M k n pc L [.int v] := by
  intro H locs ls hH hS hL
  rw [hE.2.1]
  exact vx_ret (W.widen hk hn (W.iret C.1 C.2.1 hE.1 (fun t ht _ => ⟨⟨v, M, rfl, hp, by rw [ht]; exact hH⟩, hS.F ht⟩) hS.2.2 hd C.2.2.2.2.2.2.1))
theorem zend_z {Post : Int32 → zM → Prop} {PX : String → zM → Prop} {v : Int32} (C : zC g X own cc nL fr lc mc ms) (hE : zE g X (some .boolean) mkI mc ms Post PX) (hd : decode cc pc = .ok (.ireturn, 1)) (hk : k ≤ mc) (hn : n ≤ ms) (hb : v = 0 ∨ v = 1) (hp : Post v M) : zG g X M k n pc L [.int v] := by
  intro H locs ls hH hS hL
  rw [hE.2.1]
  exact vx_ret (W.widen hk hn (W.zret C.1 C.2.1 hE.1 (by rcases hb with rfl | rfl <;> decide) (fun t ht _ => ⟨⟨v, M, rfl, hp, by rw [ht]; exact hH⟩, hS.F ht⟩) hS.2.2 hd C.2.2.2.2.2.2.1))
theorem zend_l {Post : Int64 → zM → Prop} {PX : String → zM → Prop} {v : Int64} (C : zC g X own cc nL fr lc mc ms) (hE : zE g X (some .long) mkL mc ms Post PX) (hd : decode cc pc = .ok (.lreturn, 1)) (hk : k ≤ mc) (hn : n ≤ ms) (hp : Post v M) : zG g X M k n pc L [.long v] := by
  intro H locs ls hH hS hL
  rw [hE.2.1]
  exact vx_ret (W.widen hk hn (W.lret C.1 C.2.1 hE.1 (fun t ht _ => ⟨⟨v, M, rfl, hp, by rw [ht]; exact hH⟩, hS.F ht⟩) hS.2.2 hd C.2.2.2.2.2.2.1))
theorem zend_v {Post : Unit → zM → Prop} {PX : String → zM → Prop} (C : zC g X own cc nL fr lc mc ms) (hE : zE g X none mkV mc ms Post PX) (hd : decode cc pc = .ok (.return_, 1)) (hk : k ≤ mc) (hn : n ≤ ms) (hp : Post () M) : zG g X M k n pc L [] := by
  intro H locs ls hH hS hL
  rw [hE.2.1]
  exact vx_ret (W.widen hk hn (W.vret C.1 C.2.1 hE.1 (fun t ht _ => ⟨⟨(), M, rfl, hp, by rw [ht]; exact hH⟩, hS.F ht⟩) hS.2.2 hd C.2.2.2.2.2.2.1))
theorem zend_r {ty : FieldType} {Post : Nat → zM → Prop} {PX : String → zM → Prop} {v : Nat} (C : zC g X own cc nL fr lc mc ms) (hE : zE g X (some ty) mkR mc ms Post PX) (hty : (∃ n, ty = .object n) ∨ ∃ t, ty = .array t) (hd : decode cc pc = .ok (.areturn, 1)) (hk : k ≤ mc) (hn : n ≤ ms) (hp : Post v M) : zG g X M k n pc L [.ref v] := by
  intro H locs ls hH hS hL
  rw [hE.2.1]
  exact vx_ret (W.widen hk hn (W.aret C.1 C.2.1 hE.1 hty (Or.inr ⟨v, rfl⟩) (fun t ht _ => ⟨⟨v, M, rfl, hp, by rw [ht]; exact hH⟩, hS.F ht⟩) hS.2.2 hd C.2.2.2.2.2.2.1))
theorem zend_q {ty : FieldType} {Post : Option Nat → zM → Prop} {PX : String → zM → Prop} {v : Option Nat} {w : Value} (C : zC g X own cc nL fr lc mc ms) (hE : zE g X (some ty) (fun r => some (va_rf r)) mc ms Post PX) (hw : va_rf v = w) (hty : (∃ n, ty = .object n) ∨ ∃ t, ty = .array t) (hd : decode cc pc = .ok (.areturn, 1)) (hk : k ≤ mc) (hn : n ≤ ms) (hp : Post v M) : zG g X M k n pc L [w] := by
  subst hw
  intro H locs ls hH hS hL
  rw [hE.2.1]
  exact vx_ret (W.widen hk hn (W.aret C.1 C.2.1 hE.1 hty (by cases v with | none => exact Or.inl rfl | some a => exact Or.inr ⟨a, rfl⟩) (fun t ht _ => ⟨⟨v, M, rfl, hp, by rw [ht]; exact hH⟩, hS.F ht⟩) hS.2.2 hd C.2.2.2.2.2.2.1))
end ZM
