/-! the law's wrappers: static methods with a table of handlers -/
abbrev eIO : String := "java/lang/IndexOutOfBoundsException"
abbrev eIA : String := "java/lang/IllegalArgumentException"
abbrev eIS : String := "java/lang/IllegalStateException"
abbrev zE3 : List String := [eIO, eIA, eIS]
/-- none of the three exceptions can be cast to another of them -/
def zNc (s : State) : Prop := ∀ E ∈ zE3, ∀ F ∈ zE3, E ≠ F → va_Nc E F s
theorem zNc.moved {u U : State} (hv : u.vm.Alike U.vm) (h : zNc u) : zNc U := fun E hE F hF hn => (h E hE F hF hn).moved hv
def zWN (g : zGh) (M : zM) (U : State) : Prop := zWW g M U ∧ zNc U
theorem zblindN {g : zGh} {M : zM} {As : List Value} : FrameBlind (va_Pc As (zWN g M)) := fun a U f mk ⟨h1, ⟨hH, hT, hlo⟩, hn⟩ => ⟨h1, ⟨hH, zTS.same (u := U) (U := U.calling f mk a) rfl hT, hlo⟩, hn.moved (Vm.Alike.refl U.vm)⟩
def zCv {α : Type} (g : zGh) (y : MethodName) (cc : ByteArray) (maxL : Nat) (ret : Option FieldType) (hh : List (Nat × Nat × Nat × Nat)) (fr lc : Nat) (mk : α → Option Value) (As : List Value) (M : zM) (mc ms : Nat) (Post : α → zM → Prop) : Prop :=
  vx_Met g.2.2.2.2 y (Cond.codeWith y cc maxL ret hh :: GW) { frames := fr, cells := mc, slots := ms, locals := lc } (va_Pc As (zWN g M)) (zQ g mk Post) (zXQ g noX) mc ms (zA g)
/-- .. without handlers -/
def zCn {α : Type} (g : zGh) (y : MethodName) (cc : ByteArray) (maxL : Nat) (ret : Option FieldType) (fr lc : Nat) (mk : α → Option Value) (As : List Value) (M : zM) (mc ms : Nat) (Post : α → zM → Prop) : Prop :=
  vx_Met g.2.2.2.2 y (Cond.code y cc maxL ret :: GW) { frames := fr, cells := mc, slots := ms, locals := lc } (va_Pc As (zWN g M)) (zQ g mk Post) (zXQ g noX) mc ms (zA g)
def zEv {α : Type} (g : zGh) (X : zX) (ret : Option FieldType) (hh : List (Nat × Nat × Nat × Nat)) (mk : α → Option Value) (mc ms : Nat) (Post : α → zM → Prop) : Prop :=
  X.2.1.2.2.2.1.sig.returnType = ret ∧ X.2.2 = vx_MQ X.2.1.2.2.1 (zQ g mk Post) (zXQ g noX) X.2.1.2.1 X.1.2.2.2 mc ms (zA g) ∧ X.2.1.2.2.2.2.exceptionTable.toList = tableOf hh ∧ zNc X.1.2.2.2
theorem zofv {α : Type} {g : zGh} {y : MethodName} {cc : ByteArray} {maxL : Nat} {ret : Option FieldType} {hh : List (Nat × Nat × Nat × Nat)} {fr lc mc ms : Nat} {mk : α → Option Value} {As : List Value} {M : zM} {Post : α → zM → Prop} (L : List (Option Value)) (hy : plainName y.cls = true) (hL : zas 0 L = lv_args 0 As) (hn : L.length = maxL) (hA : (lg_sl As).length ≤ maxL)
    (body : ∀ X : zX, zC g X y.cls cc maxL fr lc mc ms → zEv g X ret hh mk mc ms Post → zG g X M 0 0 0 L []) : zCv g y cc maxL ret hh fr lc mk As M mc ms Post := by
  refine vx_ofWH (cc := cc) (maxL := maxL) (ret := ret) (hh := hh) hy rfl ?_
  intro p e s m args below meth c s₁ B hml hv
  obtain ⟨rfl, ⟨hH, hT, hlo⟩, hnc⟩ := hv
  have hts := atoms_spec (ws := Cond.codeWith y cc maxL ret hh :: GW) B.pre
  have ht := vx_table (x := y) B (hts _ List.mem_cons_self)
  have K := body ((p, e, { frames := fr, cells := mc, slots := ms, locals := lc }, s), (m, As.toArray, below, meth, c), vx_MQ below (zQ g mk Post) (zXQ g noX) As.toArray s mc ms (zA g))
    ⟨B.exec, B.bytes, hml, findClass_of_methodNamed B.named, fun w hw => hts w (List.mem_cons_of_mem _ hw), hT, B.notSynchronized, hlo, rfl, rfl, rfl, rfl⟩ ⟨B.returns, rfl, ht, hnc⟩
  rw [lg_entry_eq]
  refine K s.heap [] _ hH va_S.rf ?_
  rw [hn, hL]
  exact lv_entry As hA
theorem zofn {α : Type} {g : zGh} {y : MethodName} {cc : ByteArray} {maxL : Nat} {ret : Option FieldType} {fr lc mc ms : Nat} {mk : α → Option Value} {As : List Value} {M : zM} {Post : α → zM → Prop} (L : List (Option Value)) (hy : plainName y.cls = true) (hL : zas 0 L = lv_args 0 As) (hn : L.length = maxL) (hA : (lg_sl As).length ≤ maxL)
    (body : ∀ X : zX, zC g X y.cls cc maxL fr lc mc ms → zE g X ret mk mc ms Post noX → zNc X.1.2.2.2 → zG g X M 0 0 0 L []) : zCn g y cc maxL ret fr lc mk As M mc ms Post := by
  refine vx_ofW (cc := cc) (maxL := maxL) (ret := ret) hy rfl ?_
  intro p e s m args below meth c s₁ B hml ht hv
  obtain ⟨rfl, ⟨hH, hT, hlo⟩, hnc⟩ := hv
  have hts := atoms_spec (ws := Cond.code y cc maxL ret :: GW) B.pre
  have K := body ((p, e, { frames := fr, cells := mc, slots := ms, locals := lc }, s), (m, As.toArray, below, meth, c), vx_MQ below (zQ g mk Post) (zXQ g noX) As.toArray s mc ms (zA g))
    ⟨B.exec, B.bytes, hml, findClass_of_methodNamed B.named, fun w hw => hts w (List.mem_cons_of_mem _ hw), hT, B.notSynchronized, hlo, rfl, rfl, rfl, rfl⟩ ⟨B.returns, rfl, ht⟩ hnc
  rw [lg_entry_eq]
  refine K s.heap [] _ hH va_S.rf ?_
  rw [hn, hL]
  exact lv_entry As hA
theorem zCv.post {α : Type} {g : zGh} {y : MethodName} {cc : ByteArray} {maxL : Nat} {ret : Option FieldType} {hh : List (Nat × Nat × Nat × Nat)} {fr lc mc ms : Nat} {mk : α → Option Value} {As : List Value} {M : zM} {Post Post1 : α → zM → Prop} (h : zCv g y cc maxL ret hh fr lc mk As M mc ms Post) (hp : ∀ v M1, Post v M1 → Post1 v M1) : zCv g y cc maxL ret hh fr lc mk As M mc ms Post1 := by
  intro p e ha hc hk s m args below hf happ hP hK
  obtain ⟨n, o, h1, h2, h3, h4⟩ := h p e ha hc hk s m args below hf happ hP hK
  refine ⟨n, o, h1, h2, h3, ?_⟩
  rcases h4 with ⟨⟨⟨v, M1, e1, e2, e3⟩, e4⟩, e5⟩ | ⟨q, e1, E, ce, L, ⟨M1, hx, e2⟩, e3⟩
  · exact Or.inl ⟨⟨⟨v, M1, e1, hp _ _ e2, e3⟩, e4⟩, e5⟩
  · exact hx.elim
theorem zCn.post {α : Type} {g : zGh} {y : MethodName} {cc : ByteArray} {maxL : Nat} {ret : Option FieldType} {fr lc mc ms : Nat} {mk : α → Option Value} {As : List Value} {M : zM} {Post Post1 : α → zM → Prop} (h : zCn g y cc maxL ret fr lc mk As M mc ms Post) (hp : ∀ v M1, Post v M1 → Post1 v M1) : zCn g y cc maxL ret fr lc mk As M mc ms Post1 := by
  intro p e ha hc hk s m args below hf happ hP hK
  obtain ⟨n, o, h1, h2, h3, h4⟩ := h p e ha hc hk s m args below hf happ hP hK
  refine ⟨n, o, h1, h2, h3, ?_⟩
  rcases h4 with ⟨⟨⟨v, M1, e1, e2, e3⟩, e4⟩, e5⟩ | ⟨q, e1, E, ce, L, ⟨M1, hx, e2⟩, e3⟩
  · exact Or.inl ⟨⟨⟨v, M1, e1, hp _ _ e2, e3⟩, e4⟩, e5⟩
  · exact hx.elim
theorem zCv.met {α : Type} {g : zGh} {y : MethodName} {cc : ByteArray} {maxL : Nat} {ret : Option FieldType} {hh : List (Nat × Nat × Nat × Nat)} {fr lc mc ms : Nat} {mk : α → Option Value} {As : List Value} {M : zM} {Post : α → zM → Prop} (h : zCv g y cc maxL ret hh fr lc mk As M mc ms Post) : Met g.2.2.2.2 y (Cond.codeWith y cc maxL ret hh :: GW) { frames := fr, cells := mc, slots := ms, locals := lc } (va_Pc As (zWN g M)) (zQ g mk Post) mc ms (zA g) := by
  intro p e ha hc hk s m args below hf happ hP hK
  obtain ⟨n, o, h1, h2, h3, h4⟩ := h p e ha hc hk s m args below hf happ hP hK
  refine ⟨n, o, h1, h2, h3, ?_⟩
  rcases h4 with h4 | ⟨q, -, E, ce, L, ⟨M1, hx, -⟩, -⟩
  · exact h4
  · exact hx.elim
theorem zCn.met {α : Type} {g : zGh} {y : MethodName} {cc : ByteArray} {maxL : Nat} {ret : Option FieldType} {fr lc mc ms : Nat} {mk : α → Option Value} {As : List Value} {M : zM} {Post : α → zM → Prop} (h : zCn g y cc maxL ret fr lc mk As M mc ms Post) : Met g.2.2.2.2 y (Cond.code y cc maxL ret :: GW) { frames := fr, cells := mc, slots := ms, locals := lc } (va_Pc As (zWN g M)) (zQ g mk Post) mc ms (zA g) := by
  intro p e ha hc hk s m args below hf happ hP hK
  obtain ⟨n, o, h1, h2, h3, h4⟩ := h p e ha hc hk s m args below hf happ hP hK
  refine ⟨n, o, h1, h2, h3, ?_⟩
  rcases h4 with h4 | ⟨q, -, E, ce, L, ⟨M1, hx, -⟩, -⟩
  · exact h4
  · exact hx.elim
section ZW
variable {g : zGh} {X : zX} {own : String} {cc : ByteArray} {nL fr lc mc ms : Nat} {M : zM} {k n pc : Nat} {L L1 : List (Option Value)} {st : List Value} {hh pre suf : List (Nat × Nat × Nat × Nat)} {E : String} {a N i0 : Nat} {i : Int32}
theorem zend_lv {Post : Int64 → zM → Prop} {v : Int64} (C : zC g X own cc nL fr lc mc ms) (hE : zEv g X (some .long) hh mkL mc ms Post) (hd : decode cc pc = .ok (.lreturn, 1)) (hk : k ≤ mc) (hn : n ≤ ms) (hp : Post v M) : zG g X M k n pc L [.long v] := by
  intro H locs ls hH hS hL
  rw [hE.2.1]
  exact vx_ret (W.widen hk hn (W.lret C.1 C.2.1 hE.1 (fun t ht _ => ⟨⟨v, M, rfl, hp, by rw [ht]; exact hH⟩, hS.F ht⟩) hS.2.2 hd C.2.2.2.2.2.2.1))
theorem zcast3 : ∀ F ∈ zE3, Cond.castable F F ∈ lw_tbl ∧ zKW (.castable F F) = true ∧ (Cond.castable F F).onTables = true := by
  intro F hF
  simp only [zE3, List.mem_cons, List.not_mem_nil, or_false] at hF
  rcases hF with rfl | rfl | rfl
  · exact ⟨List.mem_of_getElem? (i := 320) (by decide +kernel), rfl, rfl⟩
  · exact ⟨List.mem_of_getElem? (i := 356) (by decide +kernel), rfl, rfl⟩
  · exact ⟨List.mem_of_getElem? (i := 162) (by decide +kernel), rfl, rfl⟩
/-- a throw caught here, past rows of the table that name others of the three -/
theorem zcatch {α : Type} {mk : α → Option Value} {ret : Option FieldType} {Post : α → zM → Prop} (C : zC g X own cc nL fr lc mc ms) (hE : zEv g X ret hh mk mc ms Post) (pre : List (Nat × Nat × Nat × Nat)) (x : Nat × Nat × Nat × Nat) (suf : List (Nat × Nat × Nat × Nat)) (hs : hh = pre ++ x :: suf) (hpre : ∀ z ∈ pre, z.2.2.2 ≠ 0 ∧ ∃ nm ∈ zE3, E ≠ nm ∧ Cond.classLink own z.2.2.2 nm ∈ GW) (hE3 : E ∈ zE3) (hx : x.1 ≤ pc ∧ pc < x.2.1) (h0 : x.2.2.2 ≠ 0) (hl : Cond.classLink own x.2.2.2 E ∈ GW) (kk : ∀ q, zG g X M k n x.2.2.1 L [.ref q]) : zGx g X M k n pc L E := by
  intro H locs ls st q ce hH hS hLs h1 h2 h3
  obtain ⟨c1, c2, c3⟩ := zcast3 E hE3
  refine vx_catch (name := E) C.2.2.2.1 (tableOf pre) ⟨x.1, x.2.1, x.2.2.1, x.2.2.2⟩ (tableOf suf) (by rw [hE.2.2.1, hs]; simp [tableOf]) ?_ (by simp [covers, hx.1, hx.2]) h0 (C.2.2.2.2.1 _ hl) (va_Nw.use c3 (C.2.2.2.2.2.1.2.1 _ c1 c2)) h1 h2 h3 (kk q H locs ls hH hS hLs)
  intro z hz
  obtain ⟨y, hy, rfl⟩ := List.mem_map.mp hz
  obtain ⟨hz0, nm, hnm, hne, hlk⟩ := hpre y hy
  exact Or.inr ⟨hz0, nm, C.2.2.2.2.1 _ hlk, hE.2.2.2 E hE3 nm hnm hne⟩
end ZW
theorem kva_ge {g : zGh} {K : zK} {ad : zg → Nat} {X : zg → Option va_E} {t : zg} (h : 14 ≤ t.1) : kva g K ad X t = X t := by
  obtain ⟨a, b⟩ := t
  match a, h with
  | a + 14, _ => rfl
theorem kva_lt {g : zGh} {K : zK} {ad : zg → Nat} {X Y : zg → Option va_E} {t : zg} (h : t.1 < 14) : kva g K ad X t = kva g K ad Y t := by
  obtain ⟨a, b⟩ := t
  match a, h with
  | 0, _ | 1, _ | 2, _ | 3, _ | 4, _ | 5, _ | 6, _ | 7, _ | 8, _ | 9, _ | 10, _ | 11, _ | 12, _ | 13, _ => rfl
section ZCL2
variable {g : zGh} {X : zX} {own : String} {cc : ByteArray} {nL fr lc mc ms : Nat} {M : zM} {k n pc : Nat} {L : List (Option Value)} {st rest As : List Value}
variable {y : MethodName} {cc1 : ByteArray} {maxL1 fr1 lc1 mc1 ms1 np idx : Nat} {hh : List (Nat × Nat × Nat × Nat)}
theorem zcallSW {α : Type} {mk : α → Option Value} {ret1 : Option FieldType} {Post : α → zM → Prop} (C : zC g X own cc nL fr lc mc ms) (hN : zNc X.1.2.2.2) (hM : zCv g y cc1 maxL1 ret1 hh fr1 lc1 mk As M mc1 ms1 Post) (hy : Cond.codeWith y cc1 maxL1 ret1 hh ∈ GW ∧ Cond.static y ∈ GW) (hi : Cond.initialized y.cls ∈ GW) (hd0 : y.cls ≠ "java/lang/invoke/MethodHandle" ∧ y.cls ≠ "java/lang/invoke/VarHandle") (hnp : (parseMethodDescriptor y.desc).map (fun d => d.parameters.length) = some np) (hl : Cond.methodLink own idx y ∈ GW) (hn : As.length = np) (hL : L.length = nL)
    (hfr : fr1 + 1 ≤ fr) (hlc : 8 + (maxL1 + 11) + lc1 ≤ lc) (hmc : k + mc1 ≤ mc) (hms : n + ms1 ≤ ms) (hst : st = As.reverse ++ rest) (hcat : (rest.map fun v => v.category).sum ≤ 8) (hd : decode cc pc = .ok (.invokestatic idx, 3))
    (kk : ∀ (v : α) (M1 : zM), Post v M1 → zG g X M1 (k + mc1) (n + ms1) (pc + 3) L ((mk v).toList ++ rest)) : zG g X M k n pc L st := by
  intro H locs ls hH hS hLs
  subst hst
  have hts := C.2.2.2.2.1
  have hin : ∀ w ∈ Cond.codeWith y cc1 maxL1 ret1 hh :: GW, w ∈ GW := fun w hw => (List.mem_cons.mp hw).elim (fun e => by rw [e]; exact hy.1) id
  refine zafter (vx_runSW (As := As) (rest := rest) (Ts := GW) (n := np) ⟨C.1, C.2.1, C.2.2.1, C.2.2.2.1, C.2.2.2.2.1⟩ hM.met ⟨⟨rfl, rfl, by rw [C.2.2.2.2.2.2.2.2.1]; exact hfr, by rw [C.2.2.2.2.2.2.2.2.2.1]; exact hlc, fun w hw a' U hW => word_at hW (zGWg (hin w hw)) (hts w (hin w hw)), List.mem_cons_self⟩, hts _ hy.1, hts _ hi, hd0, fun sig h => by
    have h2 := hnp
    rw [h] at h2
    exact (Option.some.inj h2).symm, hts _ hl, hts _ hy.2⟩ ⟨zblindN, fun U hU hW => ?_⟩ rfl hn (hLs.1.trans hL) rfl (lv_room hcat) hd ⟨by rw [C.2.2.2.2.2.2.2.2.2.2.1]; exact hmc, by rw [C.2.2.2.2.2.2.2.2.2.2.2]; exact hms⟩) hS (fun v M1 H1 locs1 hp hH1 hS1 => kk v M1 hp H1 locs1 ls hH1 hS1 hLs)
  obtain ⟨h1, h2⟩ := zpc (As := As) C hH hS U hU hW
  exact ⟨h1, h2, hN.moved hW.alike⟩
/-- a static method without handlers whose contract wants the casts' words -/
theorem zcallSN2 {α : Type} {mk : α → Option Value} {ret1 : Option FieldType} {Post : α → zM → Prop} (C : zC g X own cc nL fr lc mc ms) (hN : zNc X.1.2.2.2) (hM : zCn g y cc1 maxL1 ret1 fr1 lc1 mk As M mc1 ms1 Post) (hy : zY y cc1 maxL1 ret1 np) (hys : zYS y) (hl : Cond.methodLink own idx y ∈ GW) (hn : As.length = np) (hL : L.length = nL)
    (hfr : fr1 + 1 ≤ fr) (hlc : 8 + (maxL1 + 11) + lc1 ≤ lc) (hmc : k + mc1 ≤ mc) (hms : n + ms1 ≤ ms) (hst : st = As.reverse ++ rest) (hcat : (rest.map fun v => v.category).sum ≤ 8) (hd : decode cc pc = .ok (.invokestatic idx, 3))
    (kk : ∀ (v : α) (M1 : zM), Post v M1 → zG g X M1 (k + mc1) (n + ms1) (pc + 3) L ((mk v).toList ++ rest)) : zG g X M k n pc L st := by
  intro H locs ls hH hS hLs
  subst hst
  refine zafter (va_runS (As := As) (rest := rest) (Ts := GW) ⟨C.1, C.2.1, C.2.2.1, C.2.2.2.1, C.2.2.2.2.1⟩ hM.met ⟨zcb C hy hl hfr hlc, C.2.2.2.2.1 _ hys⟩ ⟨zblindN, fun U hU hW => ?_⟩ rfl hn (hLs.1.trans hL) rfl (lv_room hcat) hd ⟨by rw [C.2.2.2.2.2.2.2.2.2.2.1]; exact hmc, by rw [C.2.2.2.2.2.2.2.2.2.2.2]; exact hms⟩) hS (fun v M1 H1 locs1 hp hH1 hS1 => kk v M1 hp H1 locs1 ls hH1 hS1 hLs)
  obtain ⟨h1, h2⟩ := zpc (As := As) C hH hS U hU hW
  exact ⟨h1, h2, hN.moved hW.alike⟩
/-- a word of the script -/
theorem zsldG (C : zC g X own cc nL fr lc mc ms) {b Ls i0 : Nat} {xs : Nat → Int32} {i : Int32} (hX : va_X b Ls xs X.1.2.2.2 X.1.2.2.2.heap) (hbl : b < X.1.2.2.2.heap.size) (hbA : ¬ zA g b) (hi : i = nI i0) (hlt : i0 < Ls) (hLs : Ls < 2 ^ 31) (hd : decode cc pc = .ok (.iaload, 1)) (kk : zG g X M k n (pc + 1) L (.int (xs i0) :: st)) : zG g X M k n pc L (.int i :: .ref b :: st) := by
  intro H locs ls hH hS hL
  subst hi
  refine va_sld C.1 C.2.1 hX hbl hbA hS (vp_in_nI hlt hLs) hd ?_
  rw [nI_clamp (Nat.lt_trans hlt hLs)]
  exact kk H locs ls hH hS hL
theorem zslenG (C : zC g X own cc nL fr lc mc ms) {b Ls : Nat} {xs : Nat → Int32} (hX : va_X b Ls xs X.1.2.2.2 X.1.2.2.2.heap) (hbl : b < X.1.2.2.2.heap.size) (hbA : ¬ zA g b) (hd : decode cc pc = .ok (.arraylength, 1)) (kk : zG g X M k n (pc + 1) L (.int (nI Ls) :: st)) : zG g X M k n pc L (.ref b :: st) := by
  intro H locs ls hH hS hL
  exact va_slen C.1 C.2.1 hX hbl hbA hS hd (kk H locs ls hH hS hL)
end ZCL2
abbrev cF (K : zK) : Nat := capF (kch K) (K.1 13)
/-- one call on both sides: T ties the two states after n calls -/
def lcal (T : Nat → zK → zS → Prop) (n : Nat) (K : zK) (x : Nat) (cds : List Nat) (K1 : zK) (S1 : zS) (eqv : Prop) : Prop :=
  (x = 0 → S1.1 0 = 0 ∧ eqv ∧ T (n + 1) K1 S1 ∧ cF K ≤ cF K1) ∧ (∀ j c, cds[j]? = some c → x = c → S1.1 0 = j + 1 ∧ T (n + 1) K S1)
/-- what must hold of the two states for the calls' contracts -/
def zOK (K : zK) (S : zS) : Prop :=
  (iK K ∧ iCk K ∧ (∀ j, ktl K j = none) ∧ kTB K 1000 ∧ (∀ s p, x_testify K s p = 0 → (kws K s.toNatClampNeg).1 < 40) ∧ cF K ≤ 163840) ∧
  (iB S ∧ iPs S ∧ (S.1 13 < 40 → S.2.2.1 20 (S.1 13) = 0) ∧ (∀ m, m < S.1 25 → iM S m) ∧ (∀ s, s < S.1 33 → iSu S s) ∧ (∀ p, p < S.1 13 → iT S p) ∧ iTB S 1022 ∧ ∀ k, k < S.1 13 → iPar S k)

theorem nIj {j : Nat} (h : j < 3) : nI (j + 1) ≠ 0 := by rcases (by omega : j = 0 ∨ j = 1 ∨ j = 2) with rfl | rfl | rfl <;> decide
theorem xc0 {j c : Nat} (h : ([2, 3] : List Nat)[j]? = some c) : ¬ (0 : Nat) = c := by
  rcases j with _ | _ | j <;> simp at h <;> omega
theorem clrK1 {K : zK} : ∀ n, (clrK K n).1 = K.1
  | 0 => rfl
  | n + 1 => clrK1 n
theorem ledK1 {K : zK} {f : Int32} {s : Nat} : ∀ n, (ledK K f s n).1 = K.1
  | 0 => rfl
  | n + 1 => by
    unfold ledK
    split
    · exact ledK1 n
    · exact ledK1 n
theorem dueK1 {K : zK} {i : Nat} : (dueK K i).1 = K.1 := by
  unfold dueK
  split
  · unfold ldcK
    rw [ledK1]
    exact clrK1 (K := du2 K i) _
  · rfl
theorem tfdK1 {K : zK} : ∀ n, (tfdK K n).1 = K.1
  | 0 => rfl
  | n + 1 => by rw [tfdK, dueK1, tfdK1 n]
theorem psK13 (K : zK) : ∀ d, (psK K d).1 13 = K.1 13
  | 0 => rfl
  | d + 1 => by
    rw [psK, dyK, tfdK1]
    exact psK13 K d
