def extO (N : Nat) (f : Nat → Option Nat) : Nat → Option Nat := fun i => if i < N then f i else none
theorem cpyo0 {f : Nat → Option Nat} {N : Nat} : va_cpy f (fun _ => none) (Int32.toNatClampNeg 0) (Int32.toNatClampNeg 0) N = extO N f := by
  funext i
  unfold va_cpy extO
  simp
/-- what the first n of a row refer to are objects of one class -/
def zEl (M : zM) (ci n : Nat) (f : Nat → Option Nat) : Prop := ∀ i, i < n → ∃ y vs, f i = some y ∧ M y = some (zob ci vs)
theorem maxI {b c : Nat} (h : b ≤ c) (hc : c < 2 ^ 31) : (if nI b < nI c then nI c else nI b) = nI c := by
  split
  · rfl
  · rename_i hn
    rw [nI_ltI (by omega) hc] at hn
    rw [show b = c by omega]
set_option maxRecDepth 100000 in
set_option maxHeartbeats 1000000 in
theorem c_copyo3 {g : zGh} {M : zM} {a N m : Nat} {f : Nat → Option Nat} {ci : Nat} {r : vw_C} (hM : M a = some (zao g N f)) (hNm : N ≤ m) (hm : m ≤ 131072) (hc : vwCl[ci]? = some r) (hw : Cond.castable r.1 "java/lang/Object" ∈ lw_tbl) (hel : zEl M ci N f) : zCt g yJ7_copyOf_6403c cJ7_copyOf_6403c 4 (some (.array (.object "java/lang/Object"))) 1 40 mkR [.ref a, .int (nI m), .ref (g.2.2.2.1 5)] M 1 m (fun v M1 => M v = none ∧ M1 = zup M v (zao g m (extO N f))) noX := by
  refine zof [some (.ref a), some (.int (nI m)), some (.ref (g.2.2.2.1 5)), none] (by decide +kernel) rfl rfl (Nat.le_of_ble_eq_true rfl) ?_
  intro X C hE hnm
  have C : zC g X RJ7 cJ7_copyOf_6403c 4 1 40 1 m := C
  have ha : ∀ q, M q = none → a ≠ q := fun q hq e => by rw [← e, hM] at hq; cases hq
  refine zaload_n C dJ7_copyOf_6403c_0 rfl ?_
  refine zldcM C hc_J7_110 dJ7_copyOf_6403c_1 ?_
  refine zacmp_ne (tgt := 13) C dJ7_copyOf_6403c_3 (by decide) (show va_rf (some (g.2.2.2.1 5)) = _ from rfl) (show va_rf (some (g.2.2.2.1 5)) = _ from rfl) (fun h3 => by first | exact absurd h3 rfl | exact absurd rfl h3) (fun h3 => ?_)
  refine ziload_n C dJ7_copyOf_6403c_6 rfl ?_
  refine znewO C hc_J7_2 (nI_nn (by omega)) (nI_clamp (by omega)) (by omega) (by omega) (by omega) dJ7_copyOf_6403c_7 (fun q hq => ?_)
  have hq1 : zup M q (zao g m fun _ => none) a = some (zao g N f) := by rw [zup_ne (ha q hq)]; exact hM
  refine zgoto (tgt := 24) C dJ7_copyOf_6403c_10 (by decide) ?_
  refine zastore_n (L1 := [_, _, _, _]) C dJ7_copyOf_6403c_24 rfl (Nat.le_of_ble_eq_true rfl) ?_
  refine zaload_n C dJ7_copyOf_6403c_25 rfl ?_
  refine zconst (v := 0) C dJ7_copyOf_6403c_26 (by decide) ?_
  refine zaload_n C dJ7_copyOf_6403c_27 rfl ?_
  refine zconst (v := 0) C dJ7_copyOf_6403c_28 (by decide) ?_
  refine zaload_n C dJ7_copyOf_6403c_29 rfl ?_
  refine zaleno (v := nI N) C hq1 rfl dJ7_copyOf_6403c_30 ?_
  refine ziload_n C dJ7_copyOf_6403c_31 rfl ?_
  refine zmmin C hl_J7_304 rfl (by decide) (Nat.le_of_ble_eq_true rfl) (by omega) (by omega) dJ7_copyOf_6403c_32 ?_
  have emn : (if nI m < nI N then nI m else nI N) = nI N := if_neg (fun h => zlt_nle h ((nI_leI (by omega) (by omega)).mpr (by omega)))
  rw [emn]
  refine zcopyq C hq1 zup_same hl_J7_150 rfl (by decide) (by decide) (nI_nn (by omega)) (by rw [nI_clamp (show N < 2 ^ 31 by omega)]; show 0 + N ≤ N; omega) (by rw [nI_clamp (show N < 2 ^ 31 by omega)]; show 0 + N ≤ m; omega) hc hw (fun i hi y hy => ?_) (by decide) (by decide) dJ7_copyOf_6403c_35 ?_
  · rw [nI_clamp (show N < 2 ^ 31 by omega)] at hi
    obtain ⟨y1, vs, h1, h2⟩ := hel i hi
    have hyy : f i = some y := by rw [← hy]; congr 1; show i = 0 + i; omega
    cases h1.symm.trans hyy
    exact ⟨vs, by rw [zup_ne (znone h2 hq)]; exact h2⟩
  rw [nI_clamp (show N < 2 ^ 31 by omega), zup_up2, cpyo0]
  refine zaload_n C dJ7_copyOf_6403c_38 rfl ?_
  exact zend_r C hE (by first | exact Or.inl ⟨_, rfl⟩ | exact Or.inr ⟨_, rfl⟩) dJ7_copyOf_6403c_39 (by omega) (by omega) ⟨hq, rfl⟩
set_option maxRecDepth 100000 in
set_option maxHeartbeats 1000000 in
theorem c_copyo {g : zGh} {M : zM} {a N m : Nat} {f : Nat → Option Nat} {ci : Nat} {r : vw_C} (hM : M a = some (zao g N f)) (hNm : N ≤ m) (hm : m ≤ 131072) (hc : vwCl[ci]? = some r) (hw : Cond.castable r.1 "java/lang/Object" ∈ lw_tbl) (hel : zEl M ci N f) : zCt g yJ7_copyOf_1904c cJ7_copyOf_1904c 2 (some (.array (.object "java/lang/Object"))) 2 63 mkR [.ref a, .int (nI m)] M 1 m (fun v M1 => M v = none ∧ M1 = zup M v (zao g m (extO N f))) noX := by
  refine zof [some (.ref a), some (.int (nI m))] (by decide +kernel) rfl rfl (Nat.le_of_ble_eq_true rfl) ?_
  intro X C hE hnm
  have C : zC g X RJ7 cJ7_copyOf_1904c 2 2 63 1 m := C
  refine zaload_n C dJ7_copyOf_1904c_0 rfl ?_
  refine ziload_n C dJ7_copyOf_1904c_1 rfl ?_
  refine zaload_n C dJ7_copyOf_1904c_2 rfl ?_
  refine zgetC C hM hl_J7_86 rfl (by decide) (Nat.le_of_ble_eq_true rfl) dJ7_copyOf_1904c_3 ?_
  refine zcallS C (c_copyo3 hM hNm hm hc hw hel) hy_J7_copyOf_6403c hst_J7_copyOf_6403c hl_J7_300 rfl rfl (by decide) (by decide) (by omega) (by omega) rfl (by exact Nat.le_of_ble_eq_true rfl) dJ7_copyOf_1904c_6 (fun v6 M1 hp6 => ?_)
  obtain ⟨hq, rfl⟩ := hp6
  exact zend_r C hE (by first | exact Or.inl ⟨_, rfl⟩ | exact Or.inr ⟨_, rfl⟩) dJ7_copyOf_1904c_9 (by omega) (by omega) ⟨hq, rfl⟩
set_option maxRecDepth 100000 in
set_option maxHeartbeats 1000000 in
theorem j_newLength {g : zGh} {M : zM} (a b c : Nat) (ha : 0 < a) (hb : b ≤ c) (ha2 : a ≤ 65536) (hc2 : c ≤ 65536) : zCt g yJ8_newLength_cabcc cJ8_newLength_cabcc 4 (some .int) 1 22 mkI [.int (nI a), .int (nI b), .int (nI c)] M 0 0 (fun v M1 => v = nI (a + c) ∧ M1 = M) noX := by
  refine zof [some (.int (nI a)), some (.int (nI b)), some (.int (nI c)), none] (by decide +kernel) rfl rfl (Nat.le_of_ble_eq_true rfl) ?_
  intro X C hE hnm
  have C : zC g X RJ8 cJ8_newLength_cabcc 4 1 22 0 0 := C
  refine ziload_n C dJ8_newLength_cabcc_0 rfl ?_
  refine ziload_n C dJ8_newLength_cabcc_1 rfl ?_
  refine ziload_n C dJ8_newLength_cabcc_2 rfl ?_
  refine zmmax C hl_J8_194 rfl (by decide) (Nat.le_of_ble_eq_true rfl) (by omega) (by omega) dJ8_newLength_cabcc_3 ?_
  rw [show (if nI b < nI c then nI c else nI b) = nI c from maxI hb (by omega)]
  refine ziadd C dJ8_newLength_cabcc_6 ?_
  rw [nI_add]
  refine zistore_n (L1 := [_, _, _, _]) C dJ8_newLength_cabcc_7 rfl (Nat.le_of_ble_eq_true rfl) ?_
  refine zconst (v := 0) C dJ8_newLength_cabcc_8 (by decide) ?_
  refine ziload_n C dJ8_newLength_cabcc_9 rfl ?_
  refine zicmp_ge (tgt := 21) C dJ8_newLength_cabcc_10 (by decide) (fun h10 => by first | exact absurd h10 (nI_nle (n := a + c) (by omega) (by omega)) | exact absurd (nI_nle (n := a + c) (by omega) (by omega)) h10) (fun h10 => ?_)
  refine ziload_n C dJ8_newLength_cabcc_13 rfl ?_
  refine zldc C hk_J8_200 dJ8_newLength_cabcc_14 ?_
  refine zicmp_gt (tgt := 21) C dJ8_newLength_cabcc_16 (by decide) (fun h16 => by first | exact absurd h16 (nI_nlt (a := 2147483639) (b := a + c) (by omega) (by omega)) | exact absurd (nI_nlt (a := 2147483639) (b := a + c) (by omega) (by omega)) h16) (fun h16 => ?_)
  refine ziload_n C dJ8_newLength_cabcc_19 rfl ?_
  exact zend_i C hE dJ8_newLength_cabcc_20 (by omega) (by omega) ⟨rfl, rfl⟩
