abbrev gcN : MethodName := ⟨"java/lang/Object", "getClass", "()Ljava/lang/Class;"⟩
theorem gc_sel : Cond.selects "[Ljava/lang/Object;" gcN gcN ∈ GW := zGWin (List.mem_of_getElem? (i := 936) (by decide +kernel)) (by decide +kernel)
theorem gc_inst : Cond.instanceMethod gcN ∈ GW := zGWin (List.mem_of_getElem? (i := 277) (by decide +kernel)) (by decide +kernel)
theorem gc_nat : Cond.native gcN ∈ GW := zGWin (List.mem_of_getElem? (i := 291) (by decide +kernel)) (by decide +kernel)
theorem gc_decl : Cond.declares gcN ∈ lw_tbl := List.mem_of_getElem? (i := 937) (by decide +kernel)
theorem zgetC {g : zGh} {X : zX} {own : String} {cc : ByteArray} {nL fr lc mc ms : Nat} {M : zM} {k n pc : Nat} {L : List (Option Value)} {st : List Value} (C : zC g X own cc nL fr lc mc ms) {idx a N : Nat} {f : Nat → Option Nat} (hM : M a = some (zao g N f)) (hl : Cond.methodLink own idx gcN ∈ GW) (hL : L.length = nL) (hfr : 1 ≤ fr) (hlc : (st.map fun v => v.category).sum + 14 ≤ lc) (hd : decode cc pc = .ok (.invokevirtual idx, 3)) (kk : zG g X M k n (pc + 3) L (.ref (g.2.2.2.1 5) :: st)) : zG g X M k n pc L (.ref a :: st) := by
  intro H locs ls hH hS hLs
  exact va_getC C.1 C.2.1 (C.2.2.1.trans ((hLs.1.trans hL).symm)) C.2.2.2.1 (C.2.2.2.2.1 _ hl) (va_Nw.use rfl (C.2.2.2.2.2.1.2.1 _ gc_decl rfl)) (C.2.2.2.2.1 _ gc_sel) (C.2.2.2.2.1 _ gc_inst) (C.2.2.2.2.1 _ gc_nat) C.2.2.2.2.2.1.2.2.2.2.1
    ⟨_, (hH.one hM) 0 _ rfl, rfl, va_nmO (C.2.2.2.2.2.1.1.2 3 (g.2.2.1 3, .object "java/lang/Object") rfl).2 (by decide)⟩ (by rw [C.2.2.2.2.2.2.2.2.1]; exact hfr) (by rw [C.2.2.2.2.2.2.2.2.2.1]; exact hlc) hd (kk H locs ls hH hS hLs)
theorem zldcM {g : zGh} {X : zX} {own : String} {cc : ByteArray} {nL fr lc mc ms : Nat} {M : zM} {k n pc : Nat} {L : List (Option Value)} {st : List Value} (C : zC g X own cc nL fr lc mc ms) {idx : Nat} (hl : Cond.classLink own idx "[Ljava/lang/Object;" ∈ GW) (hd : decode cc pc = .ok (.ldc idx, 2)) (kk : zG g X M k n (pc + 2) L (.ref (g.2.2.2.1 5) :: st)) : zG g X M k n pc L st := by
  intro H locs ls hH hS hLs
  exact va_ldcM C.1 C.2.1 C.2.2.2.1 (C.2.2.2.2.1 _ hl) C.2.2.2.2.2.1.2.2.2.2.1 hd (kk H locs ls hH hS hLs)
theorem zoast {g : zGh} {X : zX} {own : String} {cc : ByteArray} {nL fr lc mc ms : Nat} {M : zM} {k n pc : Nat} {L : List (Option Value)} {st : List Value} (C : zC g X own cc nL fr lc mc ms) {a v N ci i0 : Nat} {r : vw_C} {vs : List Value} {f : Nat → Option Nat} {i : Int32} (hM : M a = some (zao g N f)) (hv : M v = some (zob ci vs)) (hc : vwCl[ci]? = some r) (hw : Cond.castable r.1 "java/lang/Object" ∈ lw_tbl) (hi0 : i = nI i0) (hlt : i0 < N) (hN : N < 2 ^ 31) (hd : decode cc pc = .ok (.aastore, 1)) (kk : zG g X (zup M a (zao g N (va_up f i0 (some v)))) k n (pc + 1) L st) : zG g X M k n pc L (.ref v :: .int i :: .ref a :: st) := by
  subst hi0
  intro H locs ls hH hS hL
  obtain ⟨ws, hP, hD, hi⟩ := hH
  obtain ⟨q, hq⟩ := List.getElem?_of_mem ((hi _ _).mp hM)
  obtain ⟨qv, hqv⟩ := List.getElem?_of_mem ((hi _ _).mp hv)
  refine va_astqO (tys := zT g) C.1 C.2.1 C.2.2.2.2.2.1.1 hP hD hS q 3 qv ci hq rfl (C.2.2.2.2.2.1.2.1 _ hw rfl) hqv hc (vp_in_nI hlt hN) hd (fun H1 locs1 hP1 hD1 hS1 => ?_)
  rw [nI_clamp (Nat.lt_trans hlt hN)] at hP1 hD1
  exact kk H1 locs1 ls ⟨_, hP1, hD1, zset_iff hP hD hi hq⟩ hS1 hL
theorem zoastN {g : zGh} {X : zX} {own : String} {cc : ByteArray} {nL fr lc mc ms : Nat} {M : zM} {k n pc : Nat} {L : List (Option Value)} {st : List Value} (C : zC g X own cc nL fr lc mc ms) {a N i0 : Nat} {f : Nat → Option Nat} {i : Int32} (hM : M a = some (zao g N f)) (hi0 : i = nI i0) (hlt : i0 < N) (hN : N < 2 ^ 31) (hd : decode cc pc = .ok (.aastore, 1)) (kk : zG g X (zup M a (zao g N (va_up f i0 none))) k n (pc + 1) L st) : zG g X M k n pc L (.null :: .int i :: .ref a :: st) := by
  subst hi0
  intro H locs ls hH hS hL
  obtain ⟨ws, hP, hD, hi⟩ := hH
  obtain ⟨q, hq⟩ := List.getElem?_of_mem ((hi _ _).mp hM)
  refine va_astqN (tys := zT g) C.1 C.2.1 C.2.2.2.2.2.1.1 hP hD hS q 3 hq rfl (vp_in_nI hlt hN) hd (fun H1 locs1 hP1 hD1 hS1 => ?_)
  rw [nI_clamp (Nat.lt_trans hlt hN)] at hP1 hD1
  exact kk H1 locs1 ls ⟨_, hP1, hD1, zset_iff hP hD hi hq⟩ hS1 hL
theorem zcopyq {g : zGh} {X : zX} {own : String} {cc : ByteArray} {nL fr lc mc ms : Nat} {M : zM} {k n pc : Nat} {L : List (Option Value)} {st : List Value} (C : zC g X own cc nL fr lc mc ms) {idx a0 a n0 n1 ci : Nat} {r : vw_C} {f h : Nat → Option Nat} {sp dp w : Int32} (h0 : M a0 = some (zao g n0 f)) (h1 : M a = some (zao g n1 h)) (hl : Cond.methodLink own idx arraycopyName ∈ GW) (hL : L.length = nL)
    (g1 : ¬ sp < 0) (g2 : ¬ dp < 0) (g3 : ¬ w < 0) (g4 : sp.toNatClampNeg + w.toNatClampNeg ≤ n0) (g5 : dp.toNatClampNeg + w.toNatClampNeg ≤ n1) (hc : vwCl[ci]? = some r) (hw : Cond.castable r.1 "java/lang/Object" ∈ lw_tbl) (hel : ∀ i, i < w.toNatClampNeg → ∀ y, f (sp.toNatClampNeg + i) = some y → ∃ vs, M y = some (zob ci vs))
    (hfr : 1 ≤ fr) (hlc : (st.map fun v => v.category).sum + (nativeFrameWords "java/lang/System" "arraycopy" 5 + 11) ≤ lc) (hd : decode cc pc = .ok (.invokestatic idx, 3))
    (kk : zG g X (zup M a (zao g n1 (va_cpy f h sp.toNatClampNeg dp.toNatClampNeg w.toNatClampNeg))) k n (pc + 3) L st) : zG g X M k n pc L (.int w :: .int dp :: .ref a :: .int sp :: .ref a0 :: st) := by
  intro H locs ls hH hS hLs
  have hH' := hH
  obtain ⟨ws, hP, hD, hi⟩ := hH
  obtain ⟨q0, hq0⟩ := List.getElem?_of_mem ((hi _ _).mp h0)
  obtain ⟨q1, hq1⟩ := List.getElem?_of_mem ((hi _ _).mp h1)
  refine va_copyq (C := r.1) C.1 C.2.1 (C.2.2.1.trans ((hLs.1.trans hL).symm)) C.2.2.2.1 (C.2.2.2.2.1 _ hl) (C.2.2.2.2.1 _ hsys1) (C.2.2.2.2.1 _ hsys2) (C.2.2.2.2.1 _ hsys3) (tys := zT g) C.2.2.2.2.2.1.1 hP hD hS q0 q1 3 3 hq0 hq1 rfl rfl g1 g2 g3 g4 g5 (fun i hi y hy => ?_) (fun comp c0 hcomp hc0 => ?_)
    (by rw [C.2.2.2.2.2.2.2.2.1]; exact hfr) (by rw [C.2.2.2.2.2.2.2.2.2.1]; exact hlc) hd (fun H1 locs1 hP1 hD1 hS1 => kk H1 locs1 ls ⟨_, hP1, hD1, zset_iff hP hD hi hq1⟩ hS1 hLs)
  · obtain ⟨vs, hvs⟩ := hel i hi y hy
    exact zrecv C hH' hvs hc
  · obtain ⟨c1, t1, f1, f2, f3⟩ := Cond.castable_spec (va_Nw.use (A := #[]) rfl (C.2.2.2.2.2.1.2.1 _ hw rfl))
    cases hcomp.symm.trans f2
    cases hc0.symm.trans f1
    exact f3
theorem hca_Person : Cond.castable "Milletcourt$Person" "java/lang/Object" ∈ lw_tbl := List.mem_of_getElem? (i := 929) (by decide +kernel)
theorem hca_Community : Cond.castable "Milletcourt$Community" "java/lang/Object" ∈ lw_tbl := List.mem_of_getElem? (i := 926) (by decide +kernel)
theorem hca_Marriage : Cond.castable "Milletcourt$Marriage" "java/lang/Object" ∈ lw_tbl := List.mem_of_getElem? (i := 930) (by decide +kernel)
theorem hca_Suit : Cond.castable "Milletcourt$Suit" "java/lang/Object" ∈ lw_tbl := List.mem_of_getElem? (i := 931) (by decide +kernel)
theorem hca_Witness : Cond.castable "Milletcourt$Witness" "java/lang/Object" ∈ lw_tbl := List.mem_of_getElem? (i := 932) (by decide +kernel)
