/-! the law's wrappers: static methods with a table of handlers -/
abbrev eIO : String := "java/lang/IndexOutOfBoundsException"
abbrev eIA : String := "java/lang/IllegalArgumentException"
abbrev eIS : String := "java/lang/IllegalStateException"
abbrev zE3 : List String := [eIO, eIA, eIS]
/-- none of the three exceptions can be cast to another of them -/
def zNc (s : State) : Prop := ∀ E ∈ zE3, ∀ F ∈ zE3, E ≠ F → va_Nc E F s
theorem zNc.moved {u U : State} (hv : u.vm.Alike U.vm) (h : zNc u) : zNc U := fun E hE F hF hn => (h E hE F hF hn).moved hv
def zWN (g : zGh) (M : zM) (U : State) : Prop := zWW g M U ∧ zNc U
theorem zblindN {g : zGh} {M : zM} {As : List Value} : FrameBlind (va_Pc As (zWN g M)) := fun a U f mk ⟨h1, ⟨hH, hT, hlo⟩, hn⟩ => ⟨h1, ⟨hH, zTS.same (u := U) (U := U.calling f mk a) rfl hT, hlo⟩, hn.moved (Vm.Alike.refl U.vm)⟩
def zCw (g : zGh) (y : MethodName) (cc : ByteArray) (maxL : Nat) (hh : List (Nat × Nat × Nat × Nat)) (fr lc : Nat) (As : List Value) (M : zM) (mc ms : Nat) (Post : Int32 → zM → Prop) : Prop :=
  vx_Met g.2.2.2.2 y (Cond.codeWith y cc maxL (some .int) hh :: GW) { frames := fr, cells := mc, slots := ms, locals := lc } (va_Pc As (zWN g M)) (zQ g mkI Post) (zXQ g noX) mc ms (zA g)
def zEw (g : zGh) (X : zX) (hh : List (Nat × Nat × Nat × Nat)) (mc ms : Nat) (Post : Int32 → zM → Prop) : Prop :=
  X.2.1.2.2.2.1.sig.returnType = some .int ∧ X.2.2 = vx_MQ X.2.1.2.2.1 (zQ g mkI Post) (zXQ g noX) X.2.1.2.1 X.1.2.2.2 mc ms (zA g) ∧ X.2.1.2.2.2.2.exceptionTable.toList = tableOf hh ∧ zNc X.1.2.2.2
theorem zofw {g : zGh} {y : MethodName} {cc : ByteArray} {maxL : Nat} {hh : List (Nat × Nat × Nat × Nat)} {fr lc mc ms : Nat} {As : List Value} {M : zM} {Post : Int32 → zM → Prop} (L : List (Option Value)) (hy : plainName y.cls = true) (hL : zas 0 L = lv_args 0 As) (hn : L.length = maxL) (hA : (lg_sl As).length ≤ maxL)
    (body : ∀ X : zX, zC g X y.cls cc maxL fr lc mc ms → zEw g X hh mc ms Post → zG g X M 0 0 0 L []) : zCw g y cc maxL hh fr lc As M mc ms Post := by
  refine vx_ofWH (cc := cc) (maxL := maxL) (ret := some .int) (hh := hh) hy rfl ?_
  intro p e s m args below meth c s₁ B hml hv
  obtain ⟨rfl, ⟨hH, hT, hlo⟩, hnc⟩ := hv
  have hts := atoms_spec (ws := Cond.codeWith y cc maxL (some .int) hh :: GW) B.pre
  have ht := vx_table (x := y) B (hts _ List.mem_cons_self)
  have K := body ((p, e, { frames := fr, cells := mc, slots := ms, locals := lc }, s), (m, As.toArray, below, meth, c), vx_MQ below (zQ g mkI Post) (zXQ g noX) As.toArray s mc ms (zA g))
    ⟨B.exec, B.bytes, hml, findClass_of_methodNamed B.named, fun w hw => hts w (List.mem_cons_of_mem _ hw), hT, B.notSynchronized, hlo, rfl, rfl, rfl, rfl⟩ ⟨B.returns, rfl, ht, hnc⟩
  rw [lg_entry_eq]
  refine K s.heap [] _ hH va_S.rf ?_
  rw [hn, hL]
  exact lv_entry As hA
section ZW
variable {g : zGh} {X : zX} {own : String} {cc : ByteArray} {nL fr lc mc ms : Nat} {M : zM} {k n pc : Nat} {L L1 : List (Option Value)} {st : List Value} {hh pre suf : List (Nat × Nat × Nat × Nat)} {Post : Int32 → zM → Prop} {E : String} {a N i0 : Nat} {i : Int32}
theorem zend_w {v : Int32} (C : zC g X own cc nL fr lc mc ms) (hE : zEw g X hh mc ms Post) (hd : decode cc pc = .ok (.ireturn, 1)) (hk : k ≤ mc) (hn : n ≤ ms) (hp : Post v M) : zG g X M k n pc L [.int v] := by
  intro H locs ls hH hS hL
  rw [hE.2.1]
  exact vx_ret (W.widen hk hn (W.iret C.1 C.2.1 hE.1 (fun t ht _ => ⟨⟨v, M, rfl, hp, by rw [ht]; exact hH⟩, hS.F ht⟩) hS.2.2 hd C.2.2.2.2.2.2.1))
theorem zcast3 : ∀ F ∈ zE3, Cond.castable F F ∈ lw_tbl ∧ zKW (.castable F F) = true ∧ (Cond.castable F F).onTables = true := by
  intro F hF
  simp only [zE3, List.mem_cons, List.not_mem_nil, or_false] at hF
  rcases hF with rfl | rfl | rfl
  · exact ⟨List.mem_of_getElem? (i := 386) (by decide +kernel), rfl, rfl⟩
  · exact ⟨List.mem_of_getElem? (i := 440) (by decide +kernel), rfl, rfl⟩
  · exact ⟨List.mem_of_getElem? (i := 227) (by decide +kernel), rfl, rfl⟩
/-- a throw caught here, past rows of the table that name others of the three -/
theorem zcatch (C : zC g X own cc nL fr lc mc ms) (hE : zEw g X hh mc ms Post) (pre : List (Nat × Nat × Nat × Nat)) (x : Nat × Nat × Nat × Nat) (suf : List (Nat × Nat × Nat × Nat)) (hs : hh = pre ++ x :: suf) (hpre : ∀ z ∈ pre, z.2.2.2 ≠ 0 ∧ ∃ nm ∈ zE3, E ≠ nm ∧ Cond.classLink own z.2.2.2 nm ∈ GW) (hE3 : E ∈ zE3) (hx : x.1 ≤ pc ∧ pc < x.2.1) (h0 : x.2.2.2 ≠ 0) (hl : Cond.classLink own x.2.2.2 E ∈ GW) (kk : ∀ q, zG g X M k n x.2.2.1 L [.ref q]) : zGx g X M k n pc L E := by
  intro H locs ls st q ce hH hS hLs h1 h2 h3
  obtain ⟨c1, c2, c3⟩ := zcast3 E hE3
  refine vx_catch (name := E) C.2.2.2.1 (tableOf pre) ⟨x.1, x.2.1, x.2.2.1, x.2.2.2⟩ (tableOf suf) (by rw [hE.2.2.1, hs]; simp [tableOf]) ?_ (by simp [covers, hx.1, hx.2]) h0 (C.2.2.2.2.1 _ hl) (va_Nw.use c3 (C.2.2.2.2.2.1.2.1 _ c1 c2)) h1 h2 h3 (kk q H locs ls hH hS hLs)
  intro z hz
  obtain ⟨y, hy, rfl⟩ := List.mem_map.mp hz
  obtain ⟨hz0, nm, hnm, hne, hlk⟩ := hpre y hy
  exact Or.inr ⟨hz0, nm, C.2.2.2.2.1 _ hlk, hE.2.2.2 E hE3 nm hnm hne⟩
theorem zrjast (C : zC g X own cc nL fr lc mc ms) {f : Nat → Int64} {x : Int64} (hM : M a = some (zaj g N f)) (hi : i = nI i0) (hlt : i0 < N) (hN : N < 2 ^ 31) (hd : decode cc pc = .ok (.lastore, 1)) (kk : zG g X (zup M a (zaj g N (vp_updL f i0 x))) k n (pc + 1) L st) : zG g X M k n pc L (.long x :: .int i :: .ref a :: st) := by
  subst hi
  refine zlast C hM (vp_in_nI hlt hN) hd ?_
  rw [nI_clamp (Nat.lt_trans hlt hN)]
  exact kk
end ZW
