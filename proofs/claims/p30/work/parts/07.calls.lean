/-- a method's facts for its callers: its code's word, its class, how many arguments -/
def zY (y : MethodName) (cc : ByteArray) (maxL : Nat) (ret : Option FieldType) (np : Nat) : Prop :=
  Cond.code y cc maxL ret ∈ GW ∧ Cond.initialized y.cls ∈ GW ∧ (y.cls ≠ "java/lang/invoke/MethodHandle" ∧ y.cls ≠ "java/lang/invoke/VarHandle") ∧ (parseMethodDescriptor y.desc).map (fun d => d.parameters.length) = some np
def zYV (y : MethodName) : Prop := Cond.instanceMethod y ∈ GW ∧ Cond.selects y.cls y y ∈ GW
def zYS (y : MethodName) : Prop := Cond.static y ∈ GW
def zYI (y : MethodName) : Prop := Cond.instanceMethod y ∈ GW ∧ y.name = "<init>"
theorem zblind {g : zGh} {M : zM} {As : List Value} : FrameBlind (va_Pc As (zWW g M)) := fun a U f mk ⟨h1, hH, hT, hlo⟩ => ⟨h1, hH, zTS.same (u := U) (U := U.calling f mk a) rfl hT, hlo⟩
theorem zmet {α : Type} {g : zGh} {y : MethodName} {cc : ByteArray} {maxL fr lc mc ms : Nat} {ret : Option FieldType} {mk : α → Option Value} {As : List Value} {M : zM} {Post : α → zM → Prop} (h : zCt g y cc maxL ret fr lc mk As M mc ms Post noX) : Met g.2.2.2.2 y (Cond.code y cc maxL ret :: GW) { frames := fr, cells := mc, slots := ms, locals := lc } (va_Pc As (zWW g M)) (zQ g mk Post) mc ms (zA g) := by
  intro p e ha hc hk s m args below hf happ hP hK
  obtain ⟨n, o, h1, h2, h3, h4⟩ := h p e ha hc hk s m args below hf happ hP hK
  refine ⟨n, o, h1, h2, h3, ?_⟩
  rcases h4 with h4 | ⟨q, -, E, ce, L, ⟨M1, hx, -⟩, -⟩
  · exact h4
  · exact hx.elim
section ZCL
variable {g : zGh} {X : zX} {own : String} {cc : ByteArray} {nL fr lc mc ms : Nat} {M : zM} {k n pc : Nat} {L : List (Option Value)} {st rest As : List Value}
variable {y : MethodName} {cc1 : ByteArray} {maxL1 fr1 lc1 mc1 ms1 np idx b : Nat} {ret1 : Option FieldType} {PX : String → zM → Prop}
theorem zcb (C : zC g X own cc nL fr lc mc ms) (hy : zY y cc1 maxL1 ret1 np) (hl : Cond.methodLink own idx y ∈ GW) (hfr : fr1 + 1 ≤ fr) (hlc : 8 + (maxL1 + 11) + lc1 ≤ lc) : CallB X.1.2.2.1 X.1.2.2.2 X.2.1.2.1 own idx y cc1 maxL1 ret1 (Cond.code y cc1 maxL1 ret1 :: GW) { frames := fr1, cells := mc1, slots := ms1, locals := lc1 } mc1 ms1 np := by
  have hts := C.2.2.2.2.1
  have hin : ∀ w ∈ Cond.code y cc1 maxL1 ret1 :: GW, w ∈ GW := fun w hw => (List.mem_cons.mp hw).elim (fun e => by rw [e]; exact hy.1) id
  refine ⟨rfl, rfl, ?_, ?_, fun w hw a' U hW => word_at hW (zGWg (hin w hw)) (hts w (hin w hw)), List.mem_cons_self, hts _ hy.1, hts _ hy.2.1, hy.2.2.1, fun sig h => ?_, hts _ hl⟩
  · rw [C.2.2.2.2.2.2.2.2.1]; exact hfr
  · rw [C.2.2.2.2.2.2.2.2.2.1]; exact hlc
  · have h2 := hy.2.2.2
    rw [h] at h2
    exact (Option.some.inj h2).symm
theorem zpc (C : zC g X own cc nL fr lc mc ms) {H : Heap} {locs : List Loc} (hH : zH vwCl g M H) (hS : va_S (zA g) X.1.2.2.2.heap H locs) : ∀ U : State, U.heap = H → X.1.2.2.2.WarmedH U.vm → va_Pc As (zWW g M) As.toArray U := by
  intro U hU hW
  refine ⟨rfl, by rw [hU]; exact hH, ?_, by rw [hU]; exact Nat.le_trans C.2.2.2.2.2.2.2.1 hS.1⟩
  rw [hU]
  exact zTS.warm hW (zTS.kept (zS.keep hS) C.2.2.2.2.2.1)
theorem zafter {α : Type} {p : Program} {l : Launch} {e : Env} {R : Room} {s : State} {m : MethodId} {args : Array Value} {below : List Frame} {meth : Method} {c : Code} {H : Heap} {locs : List Loc} {cells slots : Nat} {Q : State → Prop} {ls : Array Slot} {st0 : List Value} {mk : α → Option Value} {Post : α → zM → Prop} {a : Array Value}
    (hr : va_Run p l e R s m args below meth c H locs cells slots mc1 ms1 (F0 m pc ls st0) rest (zQ g mk Post a) (zA g)) (hS : va_S (zA g) s.heap H locs)
    (kk : ∀ (v : α) (M1 : zM) (H1 : Heap) (locs1 : List Loc), Post v M1 → zH vwCl g M1 H1 → va_S (zA g) s.heap H1 locs1 → W p l e R s m args below meth c H1 locs1 (cells + mc1) (slots + ms1) Q (F0 m (pc + 3) ls ((mk v).toList ++ rest))) : W p l e R s m args below meth c H locs cells slots Q (F0 m pc ls st0) := by
  intro T hT X
  obtain ⟨v, st₀, t, T', L, h0, X', hL, e1, e2, ⟨⟨r, M1, hv, hp, hb⟩, hF⟩, st⟩ := hr T hT X
  cases hv
  obtain ⟨k1, k2, k3⟩ := vx_keep h0 e1 hS (fun q _ h => h) (fun q h => h) hL hF
  obtain ⟨t2, a1, b1⟩ := kk r M1 T'.heap (locs ++ L) hp (by rw [e1]; exact hb) k3 T' rfl X'
  exact ⟨t2, st t2 a1, b1⟩
theorem zafterX {α : Type} {p : Program} {l : Launch} {e : Env} {R : Room} {s : State} {m : MethodId} {args : Array Value} {below : List Frame} {meth : Method} {c : Code} {H : Heap} {locs : List Loc} {cells slots : Nat} {Q : State → Prop} {ls : Array Slot} {st0 : List Value} {mk : α → Option Value} {Post : α → zM → Prop} {a : Array Value}
    (hr : vx_Run p l e R s m args below meth c H locs cells slots mc1 ms1 (F0 m pc ls st0) rest (zQ g mk Post a) (zXQ g PX) (zA g)) (hS : va_S (zA g) s.heap H locs)
    (kx : ∀ (E : String) (M1 : zM) (H1 : Heap) (locs1 : List Loc) (q : Nat) (ce : Cell), PX E M1 → zH vwCl g M1 H1 → va_S (zA g) s.heap H1 locs1 → H1[q]? = some ce → ce.vm = .none → s.vm.findClass E = some ce.cls → vx_W p l e R s m args below meth c H1 locs1 (cells + mc1) (slots + ms1) Q (F0 m pc ls rest) q)
    (kk : ∀ (v : α) (M1 : zM) (H1 : Heap) (locs1 : List Loc), Post v M1 → zH vwCl g M1 H1 → va_S (zA g) s.heap H1 locs1 → W p l e R s m args below meth c H1 locs1 (cells + mc1) (slots + ms1) Q (F0 m (pc + 3) ls ((mk v).toList ++ rest))) : W p l e R s m args below meth c H locs cells slots Q (F0 m pc ls st0) := by
  intro T hT X
  rcases hr T hT X with ⟨v, st₀, t, T', L, h0, X', hL, e1, e2, ⟨⟨r, M1, hv, hp, hb⟩, hF⟩, st⟩ | ⟨q, st₀, t, T', L, E, ce, h0, X', hL, e1, e2, ⟨M1, hp, hb, hF⟩, hce, hcv, hcl, st⟩
  · cases hv
    obtain ⟨k1, k2, k3⟩ := vx_keep h0 e1 hS (fun q _ h => h) (fun q h => h) hL hF
    obtain ⟨t2, a1, b1⟩ := kk r M1 T'.heap (locs ++ L) hp (by rw [e1]; exact hb) k3 T' rfl X'
    exact ⟨t2, st t2 a1, b1⟩
  · obtain ⟨k1, k2, k3⟩ := vx_keep h0 e1 hS (fun q _ h => h) (fun q h => h) hL hF
    obtain ⟨t2, a1, b1⟩ := kx E M1 T'.heap (locs ++ L) q ce hp (by rw [e1]; exact hb) k3 (by rw [e1]; exact hce) hcv hcl T' rfl X'
    exact ⟨t2, st.trans a1, b1⟩
theorem zrecv (C : zC g X own cc nL fr lc mc ms) {H : Heap} (hH : zH vwCl g M H) {ci : Nat} {q : vw_C} {fs : List Value} (hM : M b = some (zob ci fs)) (hc : vwCl[ci]? = some q) : ∃ cell : Cell, H[b]? = some cell ∧ cell.vm.isStatics = false ∧ X.1.2.2.2.vm.findClass q.1 = some cell.cls := va_recv C.2.2.2.2.2.1.1 (hH.one hM) (q0 := 0) hc rfl
/-- an instance method that returns -/
theorem zcallV {α : Type} {mk : α → Option Value} {Post : α → zM → Prop} (C : zC g X own cc nL fr lc mc ms) (hM : zCt g y cc1 maxL1 ret1 fr1 lc1 mk (.ref b :: As) M mc1 ms1 Post noX) (hy : zY y cc1 maxL1 ret1 np) (hyv : zYV y) (hl : Cond.methodLink own idx y ∈ GW) {ci : Nat} {q : vw_C} {fs : List Value} (hb : M b = some (zob ci fs)) (hc : vwCl[ci]? = some q) (hq : q.1 = y.cls) (hn : As.length = np) (hL : L.length = nL)
    (hfr : fr1 + 1 ≤ fr) (hlc : 8 + (maxL1 + 11) + lc1 ≤ lc) (hmc : k + mc1 ≤ mc) (hms : n + ms1 ≤ ms) (hst : st = As.reverse ++ .ref b :: rest) (hcat : (rest.map fun v => v.category).sum ≤ 8) (hd : decode cc pc = .ok (.invokevirtual idx, 3))
    (kk : ∀ (v : α) (M1 : zM), Post v M1 → zG g X M1 (k + mc1) (n + ms1) (pc + 3) L ((mk v).toList ++ rest)) : zG g X M k n pc L st := by
  intro H locs ls hH hS hLs
  subst hst
  refine zafter (va_runV (As := As) (rest := rest) (Ts := GW) ⟨C.1, C.2.1, C.2.2.1, C.2.2.2.1, C.2.2.2.2.1⟩ (zmet hM) ⟨zcb C hy hl hfr hlc, C.2.2.2.2.1 _ hyv.1, C.2.2.2.2.1 _ hyv.2⟩ ⟨zblind, by rw [← hq]; exact zrecv C hH hb hc, zpc C hH hS⟩ rfl hn (hLs.1.trans hL) rfl (lv_room hcat) hd ⟨by rw [C.2.2.2.2.2.2.2.2.2.2.1]; exact hmc, by rw [C.2.2.2.2.2.2.2.2.2.2.2]; exact hms⟩) hS (fun v M1 H1 locs1 hp hH1 hS1 => kk v M1 hp H1 locs1 ls hH1 hS1 hLs)
theorem zcallVX {α : Type} {mk : α → Option Value} {Post : α → zM → Prop} (C : zC g X own cc nL fr lc mc ms) (hM : zCt g y cc1 maxL1 ret1 fr1 lc1 mk (.ref b :: As) M mc1 ms1 Post PX) (hy : zY y cc1 maxL1 ret1 np) (hyv : zYV y) (hl : Cond.methodLink own idx y ∈ GW) {ci : Nat} {q : vw_C} {fs : List Value} (hb : M b = some (zob ci fs)) (hc : vwCl[ci]? = some q) (hq : q.1 = y.cls) (hn : As.length = np) (hL : L.length = nL)
    (hfr : fr1 + 1 ≤ fr) (hlc : 8 + (maxL1 + 11) + lc1 ≤ lc) (hmc : k + mc1 ≤ mc) (hms : n + ms1 ≤ ms) (hst : st = As.reverse ++ .ref b :: rest) (hcat : (rest.map fun v => v.category).sum ≤ 8) (hd : decode cc pc = .ok (.invokevirtual idx, 3))
    (kx : ∀ (E : String) (M1 : zM), PX E M1 → zGx g X M1 (k + mc1) (n + ms1) pc L E)
    (kk : ∀ (v : α) (M1 : zM), Post v M1 → zG g X M1 (k + mc1) (n + ms1) (pc + 3) L ((mk v).toList ++ rest)) : zG g X M k n pc L st := by
  intro H locs ls hH hS hLs
  subst hst
  refine zafterX (vx_runV (As := As) (rest := rest) (Ts := GW) ⟨C.1, C.2.1, C.2.2.1, C.2.2.2.1, C.2.2.2.2.1⟩ hM ⟨zcb C hy hl hfr hlc, C.2.2.2.2.1 _ hyv.1, C.2.2.2.2.1 _ hyv.2⟩ ⟨zblind, by rw [← hq]; exact zrecv C hH hb hc, zpc C hH hS⟩ rfl hn (hLs.1.trans hL) rfl (lv_room hcat) hd ⟨by rw [C.2.2.2.2.2.2.2.2.2.2.1]; exact hmc, by rw [C.2.2.2.2.2.2.2.2.2.2.2]; exact hms⟩) hS (fun E M1 H1 locs1 q ce hp hH1 hS1 h1 h2 h3 => kx E M1 hp H1 locs1 ls rest q ce hH1 hS1 hLs h1 h2 h3) (fun v M1 H1 locs1 hp hH1 hS1 => kk v M1 hp H1 locs1 ls hH1 hS1 hLs)
theorem zcallS {α : Type} {mk : α → Option Value} {Post : α → zM → Prop} (C : zC g X own cc nL fr lc mc ms) (hM : zCt g y cc1 maxL1 ret1 fr1 lc1 mk As M mc1 ms1 Post noX) (hy : zY y cc1 maxL1 ret1 np) (hys : zYS y) (hl : Cond.methodLink own idx y ∈ GW) (hn : As.length = np) (hL : L.length = nL)
    (hfr : fr1 + 1 ≤ fr) (hlc : 8 + (maxL1 + 11) + lc1 ≤ lc) (hmc : k + mc1 ≤ mc) (hms : n + ms1 ≤ ms) (hst : st = As.reverse ++ rest) (hcat : (rest.map fun v => v.category).sum ≤ 8) (hd : decode cc pc = .ok (.invokestatic idx, 3))
    (kk : ∀ (v : α) (M1 : zM), Post v M1 → zG g X M1 (k + mc1) (n + ms1) (pc + 3) L ((mk v).toList ++ rest)) : zG g X M k n pc L st := by
  intro H locs ls hH hS hLs
  subst hst
  refine zafter (va_runS (As := As) (rest := rest) (Ts := GW) ⟨C.1, C.2.1, C.2.2.1, C.2.2.2.1, C.2.2.2.2.1⟩ (zmet hM) ⟨zcb C hy hl hfr hlc, C.2.2.2.2.1 _ hys⟩ ⟨zblind, zpc C hH hS⟩ rfl hn (hLs.1.trans hL) rfl (lv_room hcat) hd ⟨by rw [C.2.2.2.2.2.2.2.2.2.2.1]; exact hmc, by rw [C.2.2.2.2.2.2.2.2.2.2.2]; exact hms⟩) hS (fun v M1 H1 locs1 hp hH1 hS1 => kk v M1 hp H1 locs1 ls hH1 hS1 hLs)
theorem zcallSX {α : Type} {mk : α → Option Value} {Post : α → zM → Prop} (C : zC g X own cc nL fr lc mc ms) (hM : zCt g y cc1 maxL1 ret1 fr1 lc1 mk As M mc1 ms1 Post PX) (hy : zY y cc1 maxL1 ret1 np) (hys : zYS y) (hl : Cond.methodLink own idx y ∈ GW) (hn : As.length = np) (hL : L.length = nL)
    (hfr : fr1 + 1 ≤ fr) (hlc : 8 + (maxL1 + 11) + lc1 ≤ lc) (hmc : k + mc1 ≤ mc) (hms : n + ms1 ≤ ms) (hst : st = As.reverse ++ rest) (hcat : (rest.map fun v => v.category).sum ≤ 8) (hd : decode cc pc = .ok (.invokestatic idx, 3))
    (kx : ∀ (E : String) (M1 : zM), PX E M1 → zGx g X M1 (k + mc1) (n + ms1) pc L E)
    (kk : ∀ (v : α) (M1 : zM), Post v M1 → zG g X M1 (k + mc1) (n + ms1) (pc + 3) L ((mk v).toList ++ rest)) : zG g X M k n pc L st := by
  intro H locs ls hH hS hLs
  subst hst
  refine zafterX (vx_runS (As := As) (rest := rest) (Ts := GW) ⟨C.1, C.2.1, C.2.2.1, C.2.2.2.1, C.2.2.2.2.1⟩ hM ⟨zcb C hy hl hfr hlc, C.2.2.2.2.1 _ hys⟩ ⟨zblind, zpc C hH hS⟩ rfl hn (hLs.1.trans hL) rfl (lv_room hcat) hd ⟨by rw [C.2.2.2.2.2.2.2.2.2.2.1]; exact hmc, by rw [C.2.2.2.2.2.2.2.2.2.2.2]; exact hms⟩) hS (fun E M1 H1 locs1 q ce hp hH1 hS1 h1 h2 h3 => kx E M1 hp H1 locs1 ls rest q ce hH1 hS1 hLs h1 h2 h3) (fun v M1 H1 locs1 hp hH1 hS1 => kk v M1 hp H1 locs1 ls hH1 hS1 hLs)
/-- a constructor -/
theorem zcallI {Post : Unit → zM → Prop} (C : zC g X own cc nL fr lc mc ms) (hM : zCt g y cc1 maxL1 none fr1 lc1 mkV (.ref b :: As) M mc1 ms1 Post noX) (hy : zY y cc1 maxL1 none np) (hyi : zYI y) (hl : Cond.methodLink own idx y ∈ GW) (hn : As.length = np) (hL : L.length = nL)
    (hfr : fr1 + 1 ≤ fr) (hlc : 8 + (maxL1 + 11) + lc1 ≤ lc) (hmc : k + mc1 ≤ mc) (hms : n + ms1 ≤ ms) (hst : st = As.reverse ++ .ref b :: rest) (hcat : (rest.map fun v => v.category).sum ≤ 8) (hd : decode cc pc = .ok (.invokespecial idx, 3))
    (kk : ∀ (M1 : zM), Post () M1 → zG g X M1 (k + mc1) (n + ms1) (pc + 3) L rest) : zG g X M k n pc L st := by
  intro H locs ls hH hS hLs
  subst hst
  refine zafter (va_runI (As := As) (rest := rest) (Ts := GW) ⟨C.1, C.2.1, C.2.2.1, C.2.2.2.1, C.2.2.2.2.1⟩ (zmet hM) ⟨zcb C hy hl hfr hlc, hyi.2, C.2.2.2.2.1 _ hyi.1⟩ ⟨zblind, zpc C hH hS⟩ rfl hn (hLs.1.trans hL) rfl (lv_room hcat) hd ⟨by rw [C.2.2.2.2.2.2.2.2.2.2.1]; exact hmc, by rw [C.2.2.2.2.2.2.2.2.2.2.2]; exact hms⟩) hS (fun v M1 H1 locs1 hp hH1 hS1 => kk M1 hp H1 locs1 ls hH1 hS1 hLs)
theorem zcn (C : zC g X own cc nL fr lc mc ms) {host : String} (hy : zY y cc1 maxL1 ret1 np) (hl : Cond.methodLinkNest own idx y host ∈ lw_tbl) (hfr : fr1 + 1 ≤ fr) (hlc : 8 + (maxL1 + 11) + lc1 ≤ lc) : va_CN X.1.2.2.1 X.1.2.2.2 X.2.1.2.1 own idx y host cc1 maxL1 ret1 (Cond.code y cc1 maxL1 ret1 :: GW) { frames := fr1, cells := mc1, slots := ms1, locals := lc1 } mc1 ms1 np := by
  have hts := C.2.2.2.2.1
  have hin : ∀ w ∈ Cond.code y cc1 maxL1 ret1 :: GW, w ∈ GW := fun w hw => (List.mem_cons.mp hw).elim (fun e => by rw [e]; exact hy.1) id
  refine ⟨⟨rfl, rfl, ?_, ?_, fun w hw a' U hW => word_at hW (zGWg (hin w hw)) (hts w (hin w hw)), List.mem_cons_self⟩, hts _ hy.1, hts _ hy.2.1, hy.2.2.1, fun sig h => ?_, va_Nw.use rfl (C.2.2.2.2.2.1.2.1 _ hl rfl)⟩
  · rw [C.2.2.2.2.2.2.2.2.1]; exact hfr
  · rw [C.2.2.2.2.2.2.2.2.2.1]; exact hlc
  · have h2 := hy.2.2.2
    rw [h] at h2
    exact (Option.some.inj h2).symm
theorem zcallIN {Post : Unit → zM → Prop} {host : String} (C : zC g X own cc nL fr lc mc ms) (hM : zCt g y cc1 maxL1 none fr1 lc1 mkV (.ref b :: As) M mc1 ms1 Post noX) (hy : zY y cc1 maxL1 none np) (hyi : zYI y) (hl : Cond.methodLinkNest own idx y host ∈ lw_tbl) (hn : As.length = np) (hL : L.length = nL)
    (hfr : fr1 + 1 ≤ fr) (hlc : 8 + (maxL1 + 11) + lc1 ≤ lc) (hmc : k + mc1 ≤ mc) (hms : n + ms1 ≤ ms) (hst : st = As.reverse ++ .ref b :: rest) (hcat : (rest.map fun v => v.category).sum ≤ 8) (hd : decode cc pc = .ok (.invokespecial idx, 3))
    (kk : ∀ (M1 : zM), Post () M1 → zG g X M1 (k + mc1) (n + ms1) (pc + 3) L rest) : zG g X M k n pc L st := by
  intro H locs ls hH hS hLs
  subst hst
  refine zafter (va_runIN (As := As) (rest := rest) (Ts := GW) ⟨C.1, C.2.1, C.2.2.1, C.2.2.2.1, C.2.2.2.2.1⟩ (zmet hM) ⟨zcn C hy hl hfr hlc, hyi.2, C.2.2.2.2.1 _ hyi.1⟩ ⟨zblind, zpc C hH hS⟩ rfl hn (hLs.1.trans hL) rfl (lv_room hcat) hd ⟨by rw [C.2.2.2.2.2.2.2.2.2.2.1]; exact hmc, by rw [C.2.2.2.2.2.2.2.2.2.2.2]; exact hms⟩) hS (fun v M1 H1 locs1 hp hH1 hS1 => kk M1 hp H1 locs1 ls hH1 hS1 hLs)
theorem zcallSN {α : Type} {mk : α → Option Value} {Post : α → zM → Prop} {host : String} (C : zC g X own cc nL fr lc mc ms) (hM : zCt g y cc1 maxL1 ret1 fr1 lc1 mk As M mc1 ms1 Post noX) (hy : zY y cc1 maxL1 ret1 np) (hys : zYS y) (hl : Cond.methodLinkNest own idx y host ∈ lw_tbl) (hn : As.length = np) (hL : L.length = nL)
    (hfr : fr1 + 1 ≤ fr) (hlc : 8 + (maxL1 + 11) + lc1 ≤ lc) (hmc : k + mc1 ≤ mc) (hms : n + ms1 ≤ ms) (hst : st = As.reverse ++ rest) (hcat : (rest.map fun v => v.category).sum ≤ 8) (hd : decode cc pc = .ok (.invokestatic idx, 3))
    (kk : ∀ (v : α) (M1 : zM), Post v M1 → zG g X M1 (k + mc1) (n + ms1) (pc + 3) L ((mk v).toList ++ rest)) : zG g X M k n pc L st := by
  intro H locs ls hH hS hLs
  subst hst
  refine zafter (va_runSN (As := As) (rest := rest) (Ts := GW) ⟨C.1, C.2.1, C.2.2.1, C.2.2.2.1, C.2.2.2.2.1⟩ (zmet hM) ⟨zcn C hy hl hfr hlc, C.2.2.2.2.1 _ hys, trivial⟩ ⟨zblind, zpc C hH hS⟩ rfl hn (hLs.1.trans hL) rfl (lv_room hcat) hd ⟨by rw [C.2.2.2.2.2.2.2.2.2.2.1]; exact hmc, by rw [C.2.2.2.2.2.2.2.2.2.2.2]; exact hms⟩) hS (fun v M1 H1 locs1 hp hH1 hS1 => kk v M1 hp H1 locs1 ls hH1 hS1 hLs)
/-- what a callee threw goes on to the caller -/
theorem zout {α : Type} {mk : α → Option Value} {ret : Option FieldType} {Post : α → zM → Prop} {PX0 : String → zM → Prop} {E : String} (C : zC g X own cc nL fr lc mc ms) (hE : zE g X ret mk mc ms Post PX0) (hk : k ≤ mc) (hn : n ≤ ms) (hx : PX0 E M) : zGx g X M k n pc L E := by
  intro H locs ls st q ce hH hS hLs h1 h2 h3
  rw [hE.2.1]
  exact vx_out (fun x hx => (hE.2.2 x hx).elim) C.2.2.2.2.2.2.1 h1 h2 h3 (fun t ht _ => ⟨M, hx, by rw [ht]; exact hH, hS.F ht⟩) hS.2.2 hk hn
/-- Object.<init> -/
theorem zobj {a : Nat} (C : zC g X own cc nL fr lc mc ms) (hl : Cond.methodLink own idx objectInit ∈ GW) (hi : Cond.instanceMethod objectInit ∈ GW) (hc : Cond.code objectInit ⟨#[0xb1]⟩ 1 none ∈ GW) (hL : L.length = nL) (hfr : 1 ≤ fr) (hlc : 2 * 0 + (st.map fun v => v.category).sum + 12 ≤ lc) (hd : decode cc pc = .ok (.invokespecial idx, 3)) (kk : zG g X M k n (pc + 3) L st) : zG g X M k n pc L (.ref a :: st) := by
  intro H locs ls hH hS hLs
  exact W.objInit C.1 C.2.1 C.2.2.2.1 (C.2.2.2.2.1 _ hl) (C.2.2.2.2.1 _ hi) (C.2.2.2.2.1 _ hc) rfl ((hLs.1.trans hL).trans C.2.2.1.symm) rfl hd (by rw [C.2.2.2.2.2.2.2.2.1]; exact hfr) (by rw [C.2.2.2.2.2.2.2.2.2.1]; exact hlc) (kk H locs ls hH hS hLs)
abbrev zXn : List String := ["java/lang/RuntimeException", "java/lang/Exception"]
/-- the words of a throw with a text -/
def zThr (own : String) (ik is ic : Nat) (cls text : String) : Prop :=
  Bundle.fit cls = true ∧ Cond.classLink own ik cls ∈ GW ∧ Cond.initialized cls ∈ GW ∧ (own, is, text) ∈ zTX ∧ (∀ w ∈ vx_atS own ic cls zXn, w ∈ GW ∨ (w ∈ lw_tbl ∧ zKW w = true ∧ w.onTables = true)) ∧ ∀ w ∈ Cond.classLink own ik cls :: Cond.initialized cls :: vx_atS own ic cls zXn, vx_ot w = true
theorem zXn_fit : ∀ x ∈ zXn, Bundle.fit x = true := by decide +kernel
theorem zthr_at {ik is ic : Nat} {cls text : String} (C : zC g X own cc nL fr lc mc ms) (hw : zThr own ik is ic cls text) : ∀ w ∈ vx_atS own ic cls zXn, w.before X.2.1.2.1 X.1.2.2.2 = true := by
  intro w h
  rcases hw.2.2.2.2.1 w h with h | ⟨h1, h2, h3⟩
  · exact C.2.2.2.2.1 _ h
  · exact va_Nw.use h3 (C.2.2.2.2.2.1.2.1 _ h1 h2)
theorem zthr_x {H : Heap} {locs : List Loc} (hH : zH vwCl g M H) (hS : va_S (zA g) X.1.2.2.2.heap H locs) {cls : String} (hp : PX cls M) : ∀ t : State, X.1.2.2.2.vm.Alike t.vm → H.size ≤ t.heap.size → (∀ q : Nat, q < H.size → t.heap[q]? = H[q]?) → zXQ g PX cls X.1.2.2.2 t := fun t _ hz hq =>
  ⟨M, hp, hH.kept hq, Nat.le_trans hS.1 hz, fun q h1 h2 => (hq q (Nat.lt_of_lt_of_le h1 hS.1)).trans (hS.2.1 q h1 h2)⟩
theorem zthrow {α : Type} {mk : α → Option Value} {ret : Option FieldType} {Post : α → zM → Prop} {ik is ic : Nat} {cls text : String} (C : zC g X own cc nL fr lc mc ms) (hE : zE g X ret mk mc ms Post PX) (hw : zThr own ik is ic cls text) (hL : L.length = nL) (hfr : 6 ≤ fr) (hlc : (st.map fun v => v.category).sum + 82 ≤ lc) (hk : k + 1 ≤ mc) (hn : n + 6 ≤ ms)
    (d0 : decode cc pc = .ok (.new ik, 3)) (d3 : decode cc (pc + 3) = .ok (.dup, 1)) (d4 : decode cc (pc + 4) = .ok (.ldc is, 2)) (d6 : decode cc (pc + 6) = .ok (.invokespecial ic, 3)) (d9 : decode cc (pc + 9) = .ok (.athrow, 1)) (hp : PX cls M) : zG g X M k n pc L st := by
  intro H locs ls hH hS hLs
  rw [hE.2.1]
  have hT := C.2.2.2.2.2.1
  obtain ⟨sa, hs⟩ := hT.2.2.2.2.2.2 _ hw.2.2.2.1
  exact vx_throwS C.1 C.2.1 hT.2.2.2.1 C.2.2.2.1 hw.1 zXn_fit (C.2.2.2.2.1 _ hw.2.1) (C.2.2.2.2.1 _ hw.2.2.1) hs (zthr_at C hw) hw.2.2.2.2.2 hT.2.2.1.1.1 hT.2.2.1.1.2 hS ((hLs.1.trans hL).trans C.2.2.1.symm) d0 d3 d4 d6 d9 (fun x hx => (hE.2.2 x hx).elim)
    (by rw [C.2.2.2.2.2.2.2.2.1]; exact Nat.lt_of_lt_of_le (by decide) hfr) (by rw [C.2.2.2.2.2.2.2.2.2.1]; exact hlc) (by rw [C.2.2.2.2.2.2.2.2.2.2.1]; exact hk) (by rw [C.2.2.2.2.2.2.2.2.2.2.2]; exact hn) C.2.2.2.2.2.2.1 (zthr_x hH hS hp) hS.2.2 hk hn
theorem zthrowW {α : Type} {mk : α → Option Value} {ret : Option FieldType} {Post : α → zM → Prop} {ik is ic : Nat} {cls text : String} (C : zC g X own cc nL fr lc mc ms) (hE : zE g X ret mk mc ms Post PX) (hw : zThr own ik is ic cls text) (hL : L.length = nL) (hfr : 6 ≤ fr) (hlc : (st.map fun v => v.category).sum + 82 ≤ lc) (hk : k + 1 ≤ mc) (hn : n + 6 ≤ ms)
    (d0 : decode cc pc = .ok (.new ik, 3)) (d3 : decode cc (pc + 3) = .ok (.dup, 1)) (d4 : decode cc (pc + 4) = .ok (.ldc_w is, 3)) (d7 : decode cc (pc + 7) = .ok (.invokespecial ic, 3)) (d10 : decode cc (pc + 10) = .ok (.athrow, 1)) (hp : PX cls M) : zG g X M k n pc L st := by
  intro H locs ls hH hS hLs
  rw [hE.2.1]
  have hT := C.2.2.2.2.2.1
  obtain ⟨sa, hs⟩ := hT.2.2.2.2.2.2 _ hw.2.2.2.1
  exact vx_throwSW C.1 C.2.1 hT.2.2.2.1 C.2.2.2.1 hw.1 zXn_fit (C.2.2.2.2.1 _ hw.2.1) (C.2.2.2.2.1 _ hw.2.2.1) hs (zthr_at C hw) hw.2.2.2.2.2 hT.2.2.1.1.1 hT.2.2.1.1.2 hS ((hLs.1.trans hL).trans C.2.2.1.symm) d0 d3 d4 d7 d10 (fun x hx => (hE.2.2 x hx).elim)
    (by rw [C.2.2.2.2.2.2.2.2.1]; exact Nat.lt_of_lt_of_le (by decide) hfr) (by rw [C.2.2.2.2.2.2.2.2.2.1]; exact hlc) (by rw [C.2.2.2.2.2.2.2.2.2.2.1]; exact hk) (by rw [C.2.2.2.2.2.2.2.2.2.2.2]; exact hn) C.2.2.2.2.2.2.1 (zthr_x hH hS hp) hS.2.2 hk hn
end ZCL
