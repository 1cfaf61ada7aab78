/-- a row with the place j taken out, the last of k + 1 left empty -/
def rmv (f : Nat → Option Nat) (j k : Nat) : Nat → Option Nat := fun i => if i = k then none else if j ≤ i ∧ i < k then f (i + 1) else f i
theorem rmv_cpy {f : Nat → Option Nat} {j k : Nat} (h : j < k) : va_up (va_cpy f f (j + 1) j (k - j)) k none = rmv f j k := by
  funext i
  unfold va_up va_cpy rmv
  by_cases e : i = k
  · simp [e]
  · simp only [if_neg e]
    by_cases h1 : j ≤ i ∧ i < k
    · rw [if_pos h1, if_pos (by omega)]
      congr 1
      omega
    · rw [if_neg h1, if_neg (by omega)]
theorem rmv_last {f : Nat → Option Nat} {k : Nat} : va_up f k none = rmv f k k := by
  funext i
  unfold va_up rmv
  by_cases e : i = k
  · simp [e]
  · rw [if_neg e, if_neg e, if_neg (by omega)]
set_option maxRecDepth 100000 in
set_option maxHeartbeats 1000000 in
theorem l_fastRemove {g : zGh} {M : zM} {a ea cap k : Nat} {f : Nat → Option Nat} {mc : Int32} (j : Nat) {ci : Nat} {r : vw_C} (h : zLst g M a ea cap (k + 1) f mc) (hj : j ≤ k) (hc : vwCl[ci]? = some r) (hw : Cond.castable r.1 "java/lang/Object" ∈ lw_tbl) (hci : ci ≠ 0) (hel : zEl M ci (k + 1) f) : zCt g yJx4a65c_fastRemove_b59b0 cJx4a65c_fastRemove_b59b0 4 none 1 40 mkV [.ref a, .ref ea, .int (nI j)] M 0 0 (fun v M1 => zLst g M1 a ea cap k (rmv f j k) (mc + 1) ∧ ∀ q e, M q = some e → q ≠ a → q ≠ ea → M1 q = some e) noX := by
  refine zof [some (.ref a), some (.ref ea), some (.int (nI j)), none] (by decide +kernel) rfl rfl (Nat.le_of_ble_eq_true rfl) ?_
  intro X C hE hnm
  have C : zC g X RJx4a65c cJx4a65c_fastRemove_b59b0 4 1 40 0 0 := C
  obtain ⟨hA, hE1, h2, h3, h4⟩ := id h
  have hae := zob_ao hA hE1
  refine zaload_n C dJx4a65c_fastRemove_b59b0_0 rfl ?_
  refine zdup C dJx4a65c_fastRemove_b59b0_1 rfl ?_
  refine zget C hf_Jx4a65c_63 hA (by rfl) dJx4a65c_fastRemove_b59b0_2 ?_
  refine zconst (v := 1) C dJx4a65c_fastRemove_b59b0_5 (by decide) ?_
  refine ziadd C dJx4a65c_fastRemove_b59b0_6 ?_
  refine zput (fs1 := [_, _, _]) C hf_Jx4a65c_63 hp_Jx4a65c rfl hA rfl rfl (by exact Nat.le_of_ble_eq_true rfl) (by rfl) dJx4a65c_fastRemove_b59b0_7 ?_
  refine zaload_n C dJx4a65c_fastRemove_b59b0_10 rfl ?_
  refine zget C hf_Jx4a65c_48 zup_same (by rfl) dJx4a65c_fastRemove_b59b0_11 ?_
  refine zconst (v := 1) C dJx4a65c_fastRemove_b59b0_14 (by decide) ?_
  refine zisub C dJx4a65c_fastRemove_b59b0_15 ?_
  rw [nI_pred k]
  refine zdup C dJx4a65c_fastRemove_b59b0_16 rfl ?_
  refine zistore_n (L1 := [_, _, _, _]) C dJx4a65c_fastRemove_b59b0_17 rfl (Nat.le_of_ble_eq_true rfl) ?_
  refine ziload_n C dJx4a65c_fastRemove_b59b0_18 rfl ?_
  refine zicmp_le (tgt := 34) C dJx4a65c_fastRemove_b59b0_19 (by decide) (fun h19 => ?_) (fun h19 => ?_)
  · have ejk : j = k := by have := (nI_leI (a := k) (b := j) (by omega) (by omega)).mp h19; omega
    subst ejk
    refine zaload_n C dJx4a65c_fastRemove_b59b0_34 rfl ?_
    refine zaload_n C dJx4a65c_fastRemove_b59b0_35 rfl ?_
    refine ziload_n C dJx4a65c_fastRemove_b59b0_36 rfl ?_
    refine zdup_x1 C dJx4a65c_fastRemove_b59b0_37 rfl rfl ?_
    refine zput (fs1 := [_, _, _]) C hf_Jx4a65c_48 hp_Jx4a65c rfl zup_same rfl rfl (by exact Nat.le_of_ble_eq_true rfl) (by rfl) dJx4a65c_fastRemove_b59b0_38 ?_
    refine znull C dJx4a65c_fastRemove_b59b0_41 ?_
    refine zoastN (i0 := j) (N := cap) C (by rw [zup_ne hae.symm, zup_ne hae.symm]; exact hE1) rfl (by omega) (by omega) dJx4a65c_fastRemove_b59b0_42 ?_
    rw [rmv_last]
    exact zend_v C hE dJx4a65c_fastRemove_b59b0_43 (by omega) (by omega) ⟨⟨by rw [zup_ne hae]; exact zup_same, zup_same, by omega, h3, h4⟩, fun q e hq ha he => by rw [zup_ne he, zup_ne ha, zup_ne ha]; exact hq⟩
  · have hjk : j < k := by apply Classical.byContradiction; intro hn; exact h19 ((nI_leI (by omega) (by omega)).mpr (by omega))
    refine zaload_n C dJx4a65c_fastRemove_b59b0_22 rfl ?_
    refine ziload_n C dJx4a65c_fastRemove_b59b0_23 rfl ?_
    refine zconst (v := 1) C dJx4a65c_fastRemove_b59b0_24 (by decide) ?_
    refine ziadd C dJx4a65c_fastRemove_b59b0_25 ?_
    refine zaload_n C dJx4a65c_fastRemove_b59b0_26 rfl ?_
    refine ziload_n C dJx4a65c_fastRemove_b59b0_27 rfl ?_
    refine ziload_n C dJx4a65c_fastRemove_b59b0_28 rfl ?_
    refine ziload_n C dJx4a65c_fastRemove_b59b0_29 rfl ?_
    refine zisub C dJx4a65c_fastRemove_b59b0_30 ?_
    have hE2 : zup M a (zob 0 [.int (mc + 1), .ref ea, .int (nI (k + 1))]) ea = some (zao g cap f) := by rw [zup_ne hae.symm]; exact hE1
    rw [nI_1 j, show nI k - nI j = nI (k - j) from pk_sub (by omega)]
    refine zcopyq C hE2 hE2 hl_Jx4a65c_112 rfl (nI_nn (by omega)) (nI_nn (by omega)) (nI_nn (by omega)) (by rw [nI_clamp (by omega), nI_clamp (by omega)]; omega) (by rw [nI_clamp (by omega), nI_clamp (by omega)]; omega) hc hw (fun i hi y hy => ?_) (by decide) (by decide) dJx4a65c_fastRemove_b59b0_31 ?_
    · rw [nI_clamp (by omega)] at hi hy
      obtain ⟨y1, vs, g1, g2⟩ := hel.up (e := zob 0 [.int (mc + 1), .ref ea, .int (nI (k + 1))]) hA hci (j + 1 + i) (by omega)
      cases g1.symm.trans hy
      exact ⟨vs, g2⟩
    rw [nI_clamp (show j + 1 < 2 ^ 31 by omega), nI_clamp (show j < 2 ^ 31 by omega), nI_clamp (show k - j < 2 ^ 31 by omega)]
    refine zaload_n C dJx4a65c_fastRemove_b59b0_34 rfl ?_
    refine zaload_n C dJx4a65c_fastRemove_b59b0_35 rfl ?_
    refine ziload_n C dJx4a65c_fastRemove_b59b0_36 rfl ?_
    refine zdup_x1 C dJx4a65c_fastRemove_b59b0_37 rfl rfl ?_
    refine zput (fs1 := [_, _, _]) C hf_Jx4a65c_48 hp_Jx4a65c rfl (by rw [zup_ne hae]; exact zup_same) rfl rfl (by exact Nat.le_of_ble_eq_true rfl) (by rfl) dJx4a65c_fastRemove_b59b0_38 ?_
    refine znull C dJx4a65c_fastRemove_b59b0_41 ?_
    refine zoastN (i0 := k) (N := cap) C (by rw [zup_ne hae.symm]; exact zup_same) rfl (by omega) (by omega) dJx4a65c_fastRemove_b59b0_42 ?_
    rw [rmv_cpy hjk]
    exact zend_v C hE dJx4a65c_fastRemove_b59b0_43 (by omega) (by omega) ⟨⟨by rw [zup_ne hae]; exact zup_same, zup_same, by omega, h3, h4⟩, fun q e hq ha he => by rw [zup_ne he, zup_ne ha, zup_ne he, zup_ne ha]; exact hq⟩
set_option maxRecDepth 100000 in
set_option maxHeartbeats 1000000 in
theorem l_remove {g : zGh} {M : zM} {a ea cap k : Nat} {f : Nat → Option Nat} {mc : Int32} (j : Nat) {ci : Nat} {r : vw_C} (h : zLst g M a ea cap (k + 1) f mc) (hj : j ≤ k) (hc : vwCl[ci]? = some r) (hw : Cond.castable r.1 "java/lang/Object" ∈ lw_tbl) (hci : ci ≠ 0) (hel : zEl M ci (k + 1) f) : zCt g yJx4a65c_remove_915e3 cJx4a65c_remove_915e3 4 (some (.object "java/lang/Object")) 2 63 mkR [.ref a, .int (nI j)] M 0 0 (fun v M1 => zLst g M1 a ea cap k (rmv f j k) (mc + 1) ∧ ∀ q e, M q = some e → q ≠ a → q ≠ ea → M1 q = some e) noX := by
  refine zof [some (.ref a), some (.int (nI j)), none, none] (by decide +kernel) rfl rfl (Nat.le_of_ble_eq_true rfl) ?_
  intro X C hE hnm
  have C : zC g X RJx4a65c cJx4a65c_remove_915e3 4 2 63 0 0 := C
  obtain ⟨hA, hE1, h2, h3, h4⟩ := id h
  obtain ⟨y, vs, hy, hyo⟩ := hel j (by omega)
  refine ziload_n C dJx4a65c_remove_915e3_0 rfl ?_
  refine zaload_n C dJx4a65c_remove_915e3_1 rfl ?_
  refine zget C hf_Jx4a65c_48 hA (by rfl) dJx4a65c_remove_915e3_2 ?_
  refine zcallS C (j_check j (k + 1) (by omega) (by omega)) hy_J15_checkIndex_7cf53 hst_J15_checkIndex_7cf53 hl_Jx4a65c_118 rfl rfl (by decide) (by decide) (by omega) (by omega) rfl (by exact Nat.le_of_ble_eq_true rfl) dJx4a65c_remove_915e3_5 (fun v5 M hp5 => ?_)
  obtain ⟨rfl, rfl⟩ := hp5
  refine zpop C dJx4a65c_remove_915e3_8 rfl ?_
  refine zaload_n C dJx4a65c_remove_915e3_9 rfl ?_
  refine zget C hf_Jx4a65c_9 hA (by rfl) dJx4a65c_remove_915e3_10 ?_
  refine zastore_n (L1 := [_, _, _, _]) C dJx4a65c_remove_915e3_13 rfl (Nat.le_of_ble_eq_true rfl) ?_
  refine zaload_n C dJx4a65c_remove_915e3_14 rfl ?_
  refine ziload_n C dJx4a65c_remove_915e3_15 rfl ?_
  refine zroald (i0 := j) C hE1 rfl (by omega) (by omega) dJx4a65c_remove_915e3_16 ?_
  rw [hy]
  refine zastore_n (L1 := [_, _, _, _]) C dJx4a65c_remove_915e3_17 rfl (Nat.le_of_ble_eq_true rfl) ?_
  refine zaload_n C dJx4a65c_remove_915e3_18 rfl ?_
  refine zaload_n C dJx4a65c_remove_915e3_19 rfl ?_
  refine ziload_n C dJx4a65c_remove_915e3_20 rfl ?_
  refine zcallV C (l_fastRemove j h hj hc hw hci hel) hy_Jx4a65c_fastRemove_b59b0 hv_Jx4a65c_fastRemove_b59b0 hl_Jx4a65c_144 hA rfl rfl rfl rfl (by decide) (by decide) (by omega) (by omega) rfl (by exact Nat.le_of_ble_eq_true rfl) dJx4a65c_remove_915e3_21 (fun v21 M1 hp21 => ?_)
  refine zaload_n C dJx4a65c_remove_915e3_24 rfl ?_
  exact zend_r C hE (by first | exact Or.inl ⟨_, rfl⟩ | exact Or.inr ⟨_, rfl⟩) dJx4a65c_remove_915e3_25 (by omega) (by omega) hp21
