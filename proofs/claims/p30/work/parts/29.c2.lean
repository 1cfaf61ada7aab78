theorem hsys1 : Cond.native arraycopyName ∈ GW := zGWin (List.mem_of_getElem? (i := 303) (by decide +kernel)) (by decide +kernel)
theorem hsys2 : Cond.static arraycopyName ∈ GW := zGWin (List.mem_of_getElem? (i := 302) (by decide +kernel)) (by decide +kernel)
theorem hsys3 : Cond.initialized "java/lang/System" ∈ GW := zGWin (List.mem_of_getElem? (i := 41) (by decide +kernel)) (by decide +kernel)
theorem zcopyi {g : zGh} {X : zX} {own : String} {cc : ByteArray} {nL fr lc mc ms : Nat} {M : zM} {k n pc : Nat} {L : List (Option Value)} {rest : List Value} (C : zC g X own cc nL fr lc mc ms) {idx a0 a n0 n1 : Nat} {f h : Nat → Int32} {sp dp w : Int32} (h0 : M a0 = some (zai g n0 f)) (h1 : M a = some (zai g n1 h)) (hl : Cond.methodLink own idx arraycopyName ∈ GW) (hL : L.length = nL)
    (g1 : ¬ sp < 0) (g2 : ¬ dp < 0) (g3 : ¬ w < 0) (g4 : sp.toNatClampNeg + w.toNatClampNeg ≤ n0) (g5 : dp.toNatClampNeg + w.toNatClampNeg ≤ n1) (hfr : 1 ≤ fr) (hlc : (rest.map fun v => v.category).sum + (nativeFrameWords "java/lang/System" "arraycopy" 5 + 11) ≤ lc) (hd : decode cc pc = .ok (.invokestatic idx, 3))
    (kk : zG g X (zup M a (zai g n1 (va_cpy f h sp.toNatClampNeg dp.toNatClampNeg w.toNatClampNeg))) k n (pc + 3) L rest) : zG g X M k n pc L (.int w :: .int dp :: .ref a :: .int sp :: .ref a0 :: rest) := by
  intro H locs ls hH hS hLs
  obtain ⟨ws, hP, hD, hi⟩ := hH
  obtain ⟨q0, hq0⟩ := List.getElem?_of_mem ((hi _ _).mp h0)
  obtain ⟨q1, hq1⟩ := List.getElem?_of_mem ((hi _ _).mp h1)
  exact va_copyi C.1 C.2.1 (C.2.2.1.trans ((hLs.1.trans hL).symm)) C.2.2.2.1 (C.2.2.2.2.1 _ hl) (C.2.2.2.2.1 _ hsys1) (C.2.2.2.2.1 _ hsys2) (C.2.2.2.2.1 _ hsys3) (tys := zT g) C.2.2.2.2.2.1.1 hP hD hS q0 q1 0 0 hq0 hq1 rfl rfl rfl g1 g2 g3 g4 g5 (fun _ _ => rfl)
    (by rw [C.2.2.2.2.2.2.2.2.1]; exact hfr) (by rw [C.2.2.2.2.2.2.2.2.2.1]; exact hlc) hd
    (fun H1 locs1 hP1 hD1 hS1 => kk H1 locs1 ls ⟨_, hP1, hD1, zset_iff hP hD hi hq1⟩ hS1 hLs)
theorem zmath : Cond.initialized "java/lang/Math" ∈ GW := zGWin (List.mem_of_getElem? (i := 39) (by decide +kernel)) (by decide +kernel)
theorem zmmin1 : Cond.static Lib.Math.min.name ∈ GW := zGWin (List.mem_of_getElem? (i := 299) (by decide +kernel)) (by decide +kernel)
theorem zmmin2 : Cond.code Lib.Math.min.name Lib.Math.min.code 2 (some .int) ∈ GW := zGWin (List.mem_of_getElem? (i := 300) (by decide +kernel)) (by decide +kernel)
theorem zmmin {g : zGh} {X : zX} {own : String} {cc : ByteArray} {nL fr lc mc ms : Nat} {M : zM} {k n pc : Nat} {L : List (Option Value)} {st : List Value} (C : zC g X own cc nL fr lc mc ms) {idx : Nat} {x y : Int32} (hl : Cond.methodLink own idx yJ9_min_7cf53 ∈ GW) (hL : L.length = nL) (hfr : 1 ≤ fr) (hlc : (st.map fun v => v.category).sum + 13 ≤ lc) (hc : k ≤ mc) (hs : n ≤ ms) (hd : decode cc pc = .ok (.invokestatic idx, 3)) (kk : zG g X M k n (pc + 3) L (.int (if y < x then y else x) :: st)) : zG g X M k n pc L (.int y :: .int x :: st) := by
  intro H locs ls hH hS hLs
  exact va_mmin C.1 C.2.1 (C.2.2.1.trans ((hLs.1.trans hL).symm)) C.2.2.2.1 (C.2.2.2.2.1 _ hl) (C.2.2.2.2.1 _ zmmin1) (C.2.2.2.2.1 _ zmath) (C.2.2.2.2.1 _ zmmin2) (by rw [C.2.2.2.2.2.2.2.2.1]; exact hfr) (by rw [C.2.2.2.2.2.2.2.2.2.1]; exact hlc) (by rw [C.2.2.2.2.2.2.2.2.2.2.1]; exact hc) (by rw [C.2.2.2.2.2.2.2.2.2.2.2]; exact hs) hd (kk H locs ls hH hS hLs)
theorem zmmax1 : Cond.static Lib.Math.max.name ∈ GW := zGWin (List.mem_of_getElem? (i := 267) (by decide +kernel)) (by decide +kernel)
theorem zmmax2 : Cond.code Lib.Math.max.name Lib.Math.max.code 2 (some .int) ∈ GW := zGWin (List.mem_of_getElem? (i := 268) (by decide +kernel)) (by decide +kernel)
theorem zmmax {g : zGh} {X : zX} {own : String} {cc : ByteArray} {nL fr lc mc ms : Nat} {M : zM} {k n pc : Nat} {L : List (Option Value)} {st : List Value} (C : zC g X own cc nL fr lc mc ms) {idx : Nat} {x y : Int32} (hl : Cond.methodLink own idx yJ9_max_7cf53 ∈ GW) (hL : L.length = nL) (hfr : 1 ≤ fr) (hlc : (st.map fun v => v.category).sum + 13 ≤ lc) (hc : k ≤ mc) (hs : n ≤ ms) (hd : decode cc pc = .ok (.invokestatic idx, 3)) (kk : zG g X M k n (pc + 3) L (.int (if x < y then y else x) :: st)) : zG g X M k n pc L (.int y :: .int x :: st) := by
  intro H locs ls hH hS hLs
  exact va_mmax C.1 C.2.1 (C.2.2.1.trans ((hLs.1.trans hL).symm)) C.2.2.2.1 (C.2.2.2.2.1 _ hl) (C.2.2.2.2.1 _ zmmax1) (C.2.2.2.2.1 _ zmath) (C.2.2.2.2.1 _ zmmax2) (by rw [C.2.2.2.2.2.2.2.2.1]; exact hfr) (by rw [C.2.2.2.2.2.2.2.2.2.1]; exact hlc) (by rw [C.2.2.2.2.2.2.2.2.2.2.1]; exact hc) (by rw [C.2.2.2.2.2.2.2.2.2.2.2]; exact hs) hd (kk H locs ls hH hS hLs)
theorem zmminl1 : Cond.static Lib.MathLoose.min_long.x ∈ GW := zGWin (List.mem_of_getElem? (i := 680) (by decide +kernel)) (by decide +kernel)
theorem zmminl2 : Cond.code Lib.MathLoose.min_long.x Lib.MathLoose.min_long.code 4 (some .long) ∈ GW := zGWin (List.mem_of_getElem? (i := 681) (by decide +kernel)) (by decide +kernel)
theorem zmminl {g : zGh} {X : zX} {own : String} {cc : ByteArray} {nL fr lc mc ms : Nat} {M : zM} {k n pc : Nat} {L : List (Option Value)} {st : List Value} (C : zC g X own cc nL fr lc mc ms) {idx : Nat} {x y : Int64} (hl : Cond.methodLink own idx yJ9_min_f86c9 ∈ GW) (hL : L.length = nL) (hfr : 1 ≤ fr) (hlc : (st.map fun v => v.category).sum + 15 ≤ lc) (hc : k ≤ mc) (hs : n ≤ ms) (hd : decode cc pc = .ok (.invokestatic idx, 3)) (kk : zG g X M k n (pc + 3) L (.long (if y < x then y else x) :: st)) : zG g X M k n pc L (.long y :: .long x :: st) := by
  intro H locs ls hH hS hLs
  exact va_mmin_long C.1 C.2.1 (C.2.2.1.trans ((hLs.1.trans hL).symm)) C.2.2.2.1 (C.2.2.2.2.1 _ hl) (C.2.2.2.2.1 _ zmminl1) (C.2.2.2.2.1 _ zmath) (C.2.2.2.2.1 _ zmminl2) (by rw [C.2.2.2.2.2.2.2.2.1]; exact hfr) (by rw [C.2.2.2.2.2.2.2.2.2.1]; exact hlc) (by rw [C.2.2.2.2.2.2.2.2.2.2.1]; exact hc) (by rw [C.2.2.2.2.2.2.2.2.2.2.2]; exact hs) hd (kk H locs ls hH hS hLs)
theorem zup_up2 {M : zM} {a : Nat} {e f : va_E} : zup (zup M a e) a f = zup M a f := by
  funext q
  unfold zup
  split <;> rfl
theorem cpy0 {f : Nat → Int32} {N : Nat} : va_cpy f (fun _ => 0) (Int32.toNatClampNeg 0) (Int32.toNatClampNeg 0) N = fun i => if i < N then f i else 0 := by
  funext i
  unfold va_cpy
  simp
theorem nI_nn {n : Nat} (h : n < 2 ^ 31) : ¬ nI n < 0 := by
  rw [Int32.lt_iff_toInt_lt, nI_toInt h]
  simp
set_option maxRecDepth 100000 in
set_option maxHeartbeats 1000000 in
theorem c_copyi {g : zGh} {M : zM} {a N m : Nat} {f : Nat → Int32} (hM : M a = some (zai g N f)) (hNm : N < m) (hm : m ≤ 131072) : zCt g yJ7_copyOf_59c91 cJ7_copyOf_59c91 3 (some (.array .int)) 1 40 mkR [.ref a, .int (nI m)] M 1 m (fun v M1 => M v = none ∧ M1 = zup M v (zai g m (fun i => if i < N then f i else 0))) noX := by
  refine zof [some (.ref a), some (.int (nI m)), none] (by decide +kernel) rfl rfl (Nat.le_of_ble_eq_true rfl) ?_
  intro X C hE hnm
  have C : zC g X RJ7 cJ7_copyOf_59c91 3 1 40 1 m := C
  have ha : ∀ q, M q = none → a ≠ q := fun q hq e => by rw [← e, hM] at hq; cases hq
  refine ziload_n C dJ7_copyOf_59c91_0 rfl ?_
  refine zaload_n C dJ7_copyOf_59c91_1 rfl ?_
  refine zalen (v := nI N) C hM rfl dJ7_copyOf_59c91_2 ?_
  refine zicmp_ne (tgt := 14) C dJ7_copyOf_59c91_3 (by decide) (fun h3 => ?_) (fun h3 => by first | exact absurd (fun e => by have := (nI_eq (a := m) (b := N) (by omega) (by omega)).mp e; omega) h3 | exact absurd h3 (fun e => by have := (nI_eq (a := m) (b := N) (by omega) (by omega)).mp e; omega))
  refine ziload_n C dJ7_copyOf_59c91_14 rfl ?_
  refine znewi C ha_int (nI_nn (by omega)) (nI_clamp (by omega)) (by omega) (by omega) (by omega) dJ7_copyOf_59c91_15 (fun q hq => ?_)
  refine zastore_n (L1 := [_, _, _]) C dJ7_copyOf_59c91_17 rfl (Nat.le_of_ble_eq_true rfl) ?_
  refine zaload_n C dJ7_copyOf_59c91_18 rfl ?_
  refine zconst (v := 0) C dJ7_copyOf_59c91_19 (by decide) ?_
  refine zaload_n C dJ7_copyOf_59c91_20 rfl ?_
  refine zconst (v := 0) C dJ7_copyOf_59c91_21 (by decide) ?_
  have hq1 : zup M q (zai g m fun _ => 0) a = some (zai g N f) := by rw [zup_ne (ha q hq)]; exact hM
  refine zaload_n C dJ7_copyOf_59c91_22 rfl ?_
  refine zalen (v := nI N) C hq1 rfl dJ7_copyOf_59c91_23 ?_
  refine ziload_n C dJ7_copyOf_59c91_24 rfl ?_
  refine zmmin C hl_J7_304 rfl (by decide) (Nat.le_of_ble_eq_true rfl) (by omega) (by omega) dJ7_copyOf_59c91_25 ?_
  have emn : (if nI m < nI N then nI m else nI N) = nI N := if_neg (fun h => zlt_nle h ((nI_leI (by omega) (by omega)).mpr (by omega)))
  rw [emn]
  refine zcopyi C hq1 zup_same hl_J7_150 rfl (by decide) (by decide) (nI_nn (by omega)) (by rw [nI_clamp (show N < 2 ^ 31 by omega)]; show 0 + N ≤ N; omega) (by rw [nI_clamp (show N < 2 ^ 31 by omega)]; show 0 + N ≤ m; omega) (by decide) (by decide) dJ7_copyOf_59c91_28 ?_
  rw [nI_clamp (show N < 2 ^ 31 by omega), zup_up2, cpy0]
  refine zaload_n C dJ7_copyOf_59c91_31 rfl ?_
  exact zend_r C hE (by first | exact Or.inl ⟨_, rfl⟩ | exact Or.inr ⟨_, rfl⟩) dJ7_copyOf_59c91_32 (by omega) (by omega) ⟨hq, rfl⟩
