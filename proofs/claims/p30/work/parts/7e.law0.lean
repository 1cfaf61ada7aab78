/-! the law: what is owed of the states (a pack), the script's words -/
def gdI (j : Nat) (b : Int32) : Int := if j = 12 then b.toInt else 0
def aNoM (r : Int64) : Prop := ¬ r = -2100000000
/-- T n B Ko Kp: after n calls, both objects' states, B the goods brought -/
def pk30 (T : Nat → Int → zK → zK → Prop) : Prop :=
  T 0 0 K0 K0 ∧
  (∀ n B Ko Kp, T n B Ko Kp → zOk Ko ∧ zOk Kp ∧ (∀ i, i = 1 ∨ i = 2 ∨ i = 13 → Ko.1 i = Kp.1 i) ∧ Ko.1 1 ≤ 30000 ∧ 0 ≤ B ∧ B ≤ 600000000) ∧
  (∀ n B Ko Kp, T n B Ko Kp → n < 512 → ∀ j a b c d, j ≤ 24 → (dX Ko j a b c d = 0 → dX Kp j a b c d = 0 ∧ dA Ko j a b c d = dA Kp j a b c d ∧ T (n + 1) (B + gdI j b) (dK Ko j a b c d) (dK Kp j a b c d) ∧ cF Ko ≤ cF (dK Ko j a b c d) ∧ cF Kp ≤ cF (dK Kp j a b c d) ∧
      (j = 24 → (∃ t, 1 ≤ t ∧ Ko.1 1 + t ≤ 30000 ∧ dA Ko j a b c d = (nI (Ko.1 1 + t)).toInt64 ∧ (dK Ko j a b c d).1 1 = Ko.1 1 + t)) ∧ (¬ j = 24 → (dK Ko j a b c d).1 1 = Ko.1 1) ∧ Ko.1 2 ≤ (dK Ko j a b c d).1 2 ∧ Ko.1 13 ≤ (dK Ko j a b c d).1 13 ∧
      (j = 12 → 0 ≤ (dA Ko j a b c d).toInt) ∧ (j = 1 ∨ j = 2 ∨ j = 3 ∨ j = 6 ∨ j = 7 ∨ j = 8 ∨ (10 ≤ j ∧ j ≤ 19) ∨ j = 24 → ¬ dA Ko j a b c d = -2100000000)) ∧ (¬ dX Ko j a b c d = 0 → ¬ dX Kp j a b c d = 0)) ∧
  (∀ n B Ko Kp, T n B Ko Kp → n < 512 → Ko.1 2 < 6 → x_community Ko = 0 ∧ x_community Kp = 0 ∧ T (n + 1) B (newC Ko (nI (Ko.1 1))) (newC Kp (nI (Kp.1 1))) ∧ cF Ko ≤ cF (newC Ko (nI (Ko.1 1))) ∧ cF Kp ≤ cF (newC Kp (nI (Kp.1 1)))) ∧
  (∀ n B Ko Kp, T n B Ko Kp → n < 512 → Ko.1 13 < 40 → ∀ (q : Bool) t, t < Ko.1 2 → x_person Ko (-1) (-1) (nI t) = 0 ∧ x_person Kp (-1) (-1) (nI t) = 0 ∧ T (n + 1) B (k_person Ko q (-1) (-1) (nI t)) (k_person Kp q (-1) (-1) (nI t)) ∧ cF Ko ≤ cF (k_person Ko q (-1) (-1) (nI t)) ∧ cF Kp ≤ cF (k_person Kp q (-1) (-1) (nI t))) ∧
  (∀ n B Ko Kp, T n B Ko Kp → n < 512 → ∀ t, 1 ≤ t → t ≤ 2000 → Ko.1 1 + t ≤ 30000 → x_pass Ko (nI t) = 0 ∧ x_pass Kp (nI t) = 0 ∧ T (n + 1) B (psK Ko t) (psK Kp t) ∧ cF Ko ≤ cF (psK Ko t) ∧ cF Kp ≤ cF (psK Kp t)) ∧
  (∀ n B Ko Kp, T n B Ko Kp → Ko.2.1 = Kp.2.1 ∧ allK Ko (Ko.1 13) = allK Kp (Kp.1 13) ∧ (n < 512 → ∀ j, j = 4 ∨ j = 5 ∨ j = 9 ∨ j = 20 ∨ j = 21 ∨ j = 22 ∨ j = 23 → ∀ a b c d, dR Ko j a b c d = dR Kp j a b c d)) ∧
  (∀ n B Ko Kp, T n B Ko Kp → ((allK Ko (Ko.1 13)).toInt = B ∧ 0 ≤ Ko.2.1.toInt ∧ gPer Ko ∧ gMar Ko ∧ lasS Ko (Ko.1 13) = 2 * cntL Ko (Ko.1 25) ∧ gSui Ko) ∧ ((allK Kp (Kp.1 13)).toInt = B ∧ 0 ≤ Kp.2.1.toInt ∧ gPer Kp ∧ gMar Kp ∧ lasS Kp (Kp.1 13) = 2 * cntL Kp (Kp.1 25) ∧ gSui Kp)) ∧
  (∀ n B Ko Kp, T n B Ko Kp → n + 2 ≤ 512 → 4 ≤ Ko.1 2 → 8 ≤ Ko.1 13 → ∀ v, qF Ko Kp (nI (Ko.1 1)) v ∧ ∃ K3 K4, K3 = k_recognise (k_recognise (qK Ko (nI (Ko.1 1)) v) (qC v) true) (qC v) (a_recognise (qK Ko (nI (Ko.1 1)) v) (qC v)) ∧ K4 = k_recognise (dS Kp 2 (qW v) (qN v) (a_law Ko (qW v) (qN v) (nI (Ko.1 1))) 0) (qC v) (a_recognise (qK Ko (nI (Ko.1 1)) v) (qC v)) ∧ T (n + 2) B K3 K4 ∧ cF Ko ≤ cF K3 ∧ cF Kp ≤ cF K4 ∧ K3.1 1 = Ko.1 1 ∧ Ko.1 2 ≤ K3.1 2 ∧ Ko.1 13 ≤ K3.1 13)
/-- a method that reads the script -/
def zWX (g : zGh) (b Ls : Nat) (xs : Nat → Int32) (M : zM) (U : State) : Prop := zWW g M U ∧ va_X b Ls xs U U.heap ∧ b < U.heap.size ∧ ¬ zA g b
theorem zblindX {g : zGh} {b Ls : Nat} {xs : Nat → Int32} {M : zM} {As : List Value} : FrameBlind (va_Pc As (zWX g b Ls xs M)) := fun a U f mk ⟨h1, ⟨hH, hT, hlo⟩, hX, hb, hA⟩ => ⟨h1, ⟨hH, zTS.same (u := U) (U := U.calling f mk a) rfl hT, hlo⟩, va_X.moved (u := U) (U := U.calling f mk a) (Vm.Alike.refl U.vm) hX, hb, hA⟩
def zCx {α : Type} (g : zGh) (b Ls : Nat) (xs : Nat → Int32) (y : MethodName) (cc : ByteArray) (maxL : Nat) (ret : Option FieldType) (fr lc : Nat) (mk : α → Option Value) (As : List Value) (M : zM) (mc ms : Nat) (Post : α → zM → Prop) : Prop :=
  vx_Met g.2.2.2.2 y (Cond.code y cc maxL ret :: GW) { frames := fr, cells := mc, slots := ms, locals := lc } (va_Pc As (zWX g b Ls xs M)) (zQ g mk Post) (zXQ g noX) mc ms (zA g)
theorem zofx {α : Type} {g : zGh} {b Ls : Nat} {xs : Nat → Int32} {y : MethodName} {cc : ByteArray} {maxL : Nat} {ret : Option FieldType} {fr lc mc ms : Nat} {mk : α → Option Value} {As : List Value} {M : zM} {Post : α → zM → Prop} (L : List (Option Value)) (hy : plainName y.cls = true) (hL : zas 0 L = lv_args 0 As) (hn : L.length = maxL) (hA : (lg_sl As).length ≤ maxL)
    (body : ∀ X : zX, zC g X y.cls cc maxL fr lc mc ms → zE g X ret mk mc ms Post noX → va_X b Ls xs X.1.2.2.2 X.1.2.2.2.heap → b < X.1.2.2.2.heap.size → ¬ zA g b → zG g X M 0 0 0 L []) : zCx g b Ls xs y cc maxL ret fr lc mk As M mc ms Post := by
  refine vx_ofW (cc := cc) (maxL := maxL) (ret := ret) hy rfl ?_
  intro p e s m args below meth c s₁ B hml ht hv
  obtain ⟨rfl, ⟨hH, hT, hlo⟩, hX, hb, hbA⟩ := hv
  have hts := atoms_spec (ws := Cond.code y cc maxL ret :: GW) B.pre
  have K := body ((p, e, { frames := fr, cells := mc, slots := ms, locals := lc }, s), (m, As.toArray, below, meth, c), vx_MQ below (zQ g mk Post) (zXQ g noX) As.toArray s mc ms (zA g))
    ⟨B.exec, B.bytes, hml, findClass_of_methodNamed B.named, fun w hw => hts w (List.mem_cons_of_mem _ hw), hT, B.notSynchronized, hlo, rfl, rfl, rfl, rfl⟩ ⟨B.returns, rfl, ht⟩ hX hb hbA
  rw [lg_entry_eq]
  refine K s.heap [] _ hH va_S.rf ?_
  rw [hn, hL]
  exact lv_entry As hA
theorem zCx.met {α : Type} {g : zGh} {b Ls : Nat} {xs : Nat → Int32} {y : MethodName} {cc : ByteArray} {maxL : Nat} {ret : Option FieldType} {fr lc mc ms : Nat} {mk : α → Option Value} {As : List Value} {M : zM} {Post : α → zM → Prop} (h : zCx g b Ls xs y cc maxL ret fr lc mk As M mc ms Post) : Met g.2.2.2.2 y (Cond.code y cc maxL ret :: GW) { frames := fr, cells := mc, slots := ms, locals := lc } (va_Pc As (zWX g b Ls xs M)) (zQ g mk Post) mc ms (zA g) := by
  intro p e ha hc hk s m args below hf happ hP hK
  obtain ⟨n, o, h1, h2, h3, h4⟩ := h p e ha hc hk s m args below hf happ hP hK
  refine ⟨n, o, h1, h2, h3, ?_⟩
  rcases h4 with h4 | ⟨q, -, E, ce, L, ⟨M1, hx, -⟩, -⟩
  · exact h4
  · exact hx.elim
section ZCX
variable {g : zGh} {X : zX} {own : String} {cc : ByteArray} {nL fr lc mc ms : Nat} {M : zM} {k n pc : Nat} {L : List (Option Value)} {st rest As : List Value}
variable {y : MethodName} {cc1 : ByteArray} {maxL1 fr1 lc1 mc1 ms1 np idx : Nat}
theorem zcallSX2 {α : Type} {mk : α → Option Value} {ret1 : Option FieldType} {Post : α → zM → Prop} {b Ls : Nat} {xs : Nat → Int32} (C : zC g X own cc nL fr lc mc ms) (hX : va_X b Ls xs X.1.2.2.2 X.1.2.2.2.heap) (hbl : b < X.1.2.2.2.heap.size) (hbA : ¬ zA g b) (hM : zCx g b Ls xs y cc1 maxL1 ret1 fr1 lc1 mk As M mc1 ms1 Post) (hy : zY y cc1 maxL1 ret1 np) (hys : zYS y) (hl : Cond.methodLink own idx y ∈ GW) (hn : As.length = np) (hL : L.length = nL)
    (hfr : fr1 + 1 ≤ fr) (hlc : 8 + (maxL1 + 11) + lc1 ≤ lc) (hmc : k + mc1 ≤ mc) (hms : n + ms1 ≤ ms) (hst : st = As.reverse ++ rest) (hcat : (rest.map fun v => v.category).sum ≤ 8) (hd : decode cc pc = .ok (.invokestatic idx, 3))
    (kk : ∀ (v : α) (M1 : zM), Post v M1 → zG g X M1 (k + mc1) (n + ms1) (pc + 3) L ((mk v).toList ++ rest)) : zG g X M k n pc L st := by
  intro H locs ls hH hS hLs
  subst hst
  refine zafter (va_runS (As := As) (rest := rest) (Ts := GW) ⟨C.1, C.2.1, C.2.2.1, C.2.2.2.1, C.2.2.2.2.1⟩ hM.met ⟨zcb C hy hl hfr hlc, C.2.2.2.2.1 _ hys⟩ ⟨zblindX, fun U hU hW => ?_⟩ rfl hn (hLs.1.trans hL) rfl (lv_room hcat) hd ⟨by rw [C.2.2.2.2.2.2.2.2.2.2.1]; exact hmc, by rw [C.2.2.2.2.2.2.2.2.2.2.2]; exact hms⟩) hS (fun v M1 H1 locs1 hp hH1 hS1 => kk v M1 hp H1 locs1 ls hH1 hS1 hLs)
  obtain ⟨h1, h2⟩ := zpc (As := As) C hH hS U hU hW
  refine ⟨h1, h2, ?_, ?_, hbA⟩
  · rw [hU]
    exact (hX.kept (H1 := H) (hS.2.1 b hbl hbA)).moved hW.alike
  · rw [hU]
    exact Nat.lt_of_lt_of_le hbl hS.1
end ZCX
set_option maxRecDepth 100000 in
theorem l_cell {g : zGh} {b Ls : Nat} {xs : Nat → Int32} {M : zM} (hLs : Ls < 2 ^ 31) {i : Nat} (hi : i < 2 ^ 31) : zCx g b Ls xs yL_cell cL_cell 2 (some .int) 0 0 mkI [.ref b, .int (nI i)] M 0 0 (fun v M1 => M1 = M) := by
  refine zofx [some (.ref b), some (.int (nI i))] (by decide +kernel) rfl rfl (Nat.le_of_ble_eq_true rfl) ?_
  intro X C hE hX hbl hbA
  have C : zC g X RL cL_cell 2 0 0 0 0 := C
  refine ziload_n C dL_cell_0 rfl ?_
  refine zaload_n C dL_cell_1 rfl ?_
  refine zslenG C hX hbl hbA dL_cell_2 ?_
  refine zicmp_ge (tgt := 12) C dL_cell_3 (by decide) (fun h => ?_) (fun h => ?_)
  · refine zsipush (v := 7919) C dL_cell_12 (by decide) ?_
    refine ziload_n C dL_cell_15 rfl ?_
    refine zsipush (v := 1831) C dL_cell_16 (by decide) ?_
    refine ziadd C dL_cell_19 ?_
    refine zimul C dL_cell_20 ?_
    refine ziload_n C dL_cell_21 rfl ?_
    refine zsipush (v := 4357) C dL_cell_22 (by decide) ?_
    refine ziadd C dL_cell_25 ?_
    refine zimul C dL_cell_26 ?_
    exact zend_i C hE dL_cell_27 (by omega) (by omega) rfl
  · have hlt : i < Ls := by
      rw [Int32.le_iff_toInt_le, nI_toInt hLs, nI_toInt hi] at h
      omega
    refine zaload_n C dL_cell_6 rfl ?_
    refine ziload_n C dL_cell_7 rfl ?_
    refine zsldG (i0 := i) C hX hbl hbA rfl hlt hLs dL_cell_8 ?_
    refine zgoto (tgt := 27) C dL_cell_9 (by decide) ?_
    exact zend_i C hE dL_cell_27 (by omega) (by omega) rfl
theorem low_ex (v : Int32) {n : Nat} (h0 : 0 < n) (hn : n < 2 ^ 30) : ∃ j, j < n ∧ lowI v (nI n) = nI j := by
  have h1 : v &&& 2147483647 = nI (v.toBitVec &&& 2147483647#32).toNat := by
    apply Int32.toBitVec_inj.mp
    rw [Int32.toBitVec_and]
    show _ = BitVec.ofNat 32 _
    rw [BitVec.ofNat_toNat]
    simp
  have h2 : (v.toBitVec &&& 2147483647#32).toNat ≤ 2147483647 := by
    rw [BitVec.toNat_and]
    exact Nat.and_le_right
  unfold lowI
  rw [h1]
  generalize (v.toBitVec &&& 2147483647#32).toNat = m at *
  refine ⟨m % n, Nat.mod_lt _ h0, ?_⟩
  exact pk_rem (by omega) h0 (by omega)
