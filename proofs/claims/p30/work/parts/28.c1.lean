-- a row at a place that is a number
section ZRR
variable {g : zGh} {X : zX} {own : String} {cc : ByteArray} {nL fr lc mc ms : Nat} {M : zM} {k n pc : Nat} {L : List (Option Value)} {st : List Value} {a N i0 : Nat} {i : Int32}
theorem zriald (C : zC g X own cc nL fr lc mc ms) {f : Nat → Int32} (hM : M a = some (zai g N f)) (hi : i = nI i0) (hlt : i0 < N) (hN : N < 2 ^ 31) (hd : decode cc pc = .ok (.iaload, 1)) (kk : zG g X M k n (pc + 1) L (.int (f i0) :: st)) : zG g X M k n pc L (.int i :: .ref a :: st) := by
  subst hi
  refine ziald C hM (vp_in_nI hlt hN) hd ?_
  rw [nI_clamp (Nat.lt_trans hlt hN)]
  exact kk
theorem zroald (C : zC g X own cc nL fr lc mc ms) {f : Nat → Option Nat} (hM : M a = some (zao g N f)) (hi : i = nI i0) (hlt : i0 < N) (hN : N < 2 ^ 31) (hd : decode cc pc = .ok (.aaload, 1)) (kk : zG g X M k n (pc + 1) L (va_rf (f i0) :: st)) : zG g X M k n pc L (.int i :: .ref a :: st) := by
  subst hi
  refine zoald C hM (vp_in_nI hlt hN) hd ?_
  rw [nI_clamp (Nat.lt_trans hlt hN)]
  exact kk
theorem zrcald (C : zC g X own cc nL fr lc mc ms) {f : Nat → Option Nat} (hM : M a = some (zac g N f)) (hi : i = nI i0) (hlt : i0 < N) (hN : N < 2 ^ 31) (hd : decode cc pc = .ok (.aaload, 1)) (kk : zG g X M k n (pc + 1) L (va_rf (f i0) :: st)) : zG g X M k n pc L (.int i :: .ref a :: st) := by
  subst hi
  refine zcald C hM (vp_in_nI hlt hN) hd ?_
  rw [nI_clamp (Nat.lt_trans hlt hN)]
  exact kk
theorem zriast (C : zC g X own cc nL fr lc mc ms) {f : Nat → Int32} {x : Int32} (hM : M a = some (zai g N f)) (hi : i = nI i0) (hlt : i0 < N) (hN : N < 2 ^ 31) (hd : decode cc pc = .ok (.iastore, 1)) (kk : zG g X (zup M a (zai g N (upd f i0 x))) k n (pc + 1) L st) : zG g X M k n pc L (.int x :: .int i :: .ref a :: st) := by
  subst hi
  refine ziast C hM (vp_in_nI hlt hN) hd ?_
  rw [nI_clamp (Nat.lt_trans hlt hN)]
  exact kk
theorem zrcast (C : zC g X own cc nL fr lc mc ms) {f : Nat → Option Nat} {v : Nat} {vs : List Value} (hM : M a = some (zac g N f)) (hv : M v = some (zob 1 vs)) (hi : i = nI i0) (hlt : i0 < N) (hN : N < 2 ^ 31) (hd : decode cc pc = .ok (.aastore, 1)) (kk : zG g X (zup M a (zac g N (va_up f i0 (some v)))) k n (pc + 1) L st) : zG g X M k n pc L (.ref v :: .int i :: .ref a :: st) := by
  subst hi
  refine zcast C hM hv (vp_in_nI hlt hN) hd ?_
  rw [nI_clamp (Nat.lt_trans hlt hN)]
  exact kk
end ZRR
/-- a chronicle in a memory: its object, its two rows of ints, the place of its newest -/
def zChr (g : zGh) (M : zM) (a da na cap k : Nat) (fd fn : Nat → Int32) : Prop :=
  M a = some (zob 1 [.ref da, .ref na, .int (nI (k + 1))]) ∧ M da = some (zai g cap fd) ∧ M na = some (zai g cap fn) ∧ k + 1 ≤ cap ∧ cap ≤ 65536 ∧ da ≠ na
def chOn (fd fn : Nat → Int32) (d : Int32) : Nat → Int32
  | 0 => fn 0
  | k + 1 => if fd (k + 1) ≤ d then fn (k + 1) else chOn fd fn d k
theorem nI_dec (n : Nat) : nI (n + 1) + Int32.ofInt (-1) = nI n := by
  rw [← nI_pred n, Int32.sub_eq_add_neg]
  rfl
theorem zgt_le {x y : Int32} (h : ¬ x < y) : y ≤ x := by
  rw [Int32.le_iff_toInt_le]
  rw [Int32.lt_iff_toInt_lt] at h
  omega
theorem zlt_nle {x y : Int32} (h : x < y) : ¬ y ≤ x := by
  rw [Int32.le_iff_toInt_le]
  rw [Int32.lt_iff_toInt_lt] at h
  omega
theorem ck0 {k : Nat} (hk : k < 2 ^ 30) (h : nI (k + 1) ≤ 1) : k = 0 := by
  rw [show (1 : Int32) = nI 1 from rfl, nI_leI (by omega) (by decide)] at h
  omega
theorem ck1 {k : Nat} (h : ¬ nI (k + 1) ≤ 1) : 1 ≤ k := by
  apply Classical.byContradiction
  intro hn
  obtain rfl : k = 0 := by omega
  exact h (by decide)
theorem nI_sub2 (j : Nat) : nI (j + 1 + 1) - nI 2 = nI j := pk_sub (by omega)
set_option maxRecDepth 100000 in
set_option maxHeartbeats 1000000 in
theorem c_newest {g : zGh} {M : zM} {a da na cap k : Nat} {fd fn : Nat → Int32}  (h : zChr g M a da na cap k fd fn) : zCt g yX0_newest cX0_newest 1 (some .int) 0 0 mkI [.ref a] M 0 0 (fun v M1 => v = fn k ∧ M1 = M) noX := by
  refine zof [some (.ref a)] (by decide +kernel) rfl rfl (Nat.le_of_ble_eq_true rfl) ?_
  intro X C hE hnm
  have C : zC g X RX0 cX0_newest 1 0 0 0 0 := C
  obtain ⟨hA, hD, hN, h2, h3, h4⟩ := h
  refine zaload_n C dX0_newest_0 rfl ?_
  refine zget C hf_X0_13 hA (by rfl) dX0_newest_1 ?_
  refine zaload_n C dX0_newest_4 rfl ?_
  refine zget C hf_X0_16 hA (by rfl) dX0_newest_5 ?_
  refine zconst (v := 1) C dX0_newest_8 (by decide) ?_
  refine zisub C dX0_newest_9 ?_
  refine zriald (i0 := k) C hN (nI_pred k) (by omega) (by omega) dX0_newest_10 ?_
  exact zend_i C hE dX0_newest_11 (by omega) (by omega) ⟨rfl, rfl⟩
set_option maxRecDepth 100000 in
set_option maxHeartbeats 1000000 in
theorem c_newestDay {g : zGh} {M : zM} {a da na cap k : Nat} {fd fn : Nat → Int32}  (h : zChr g M a da na cap k fd fn) : zCt g yX0_newestDay cX0_newestDay 1 (some .int) 0 0 mkI [.ref a] M 0 0 (fun v M1 => v = fd k ∧ M1 = M) noX := by
  refine zof [some (.ref a)] (by decide +kernel) rfl rfl (Nat.le_of_ble_eq_true rfl) ?_
  intro X C hE hnm
  have C : zC g X RX0 cX0_newestDay 1 0 0 0 0 := C
  obtain ⟨hA, hD, hN, h2, h3, h4⟩ := h
  refine zaload_n C dX0_newestDay_0 rfl ?_
  refine zget C hf_X0_7 hA (by rfl) dX0_newestDay_1 ?_
  refine zaload_n C dX0_newestDay_4 rfl ?_
  refine zget C hf_X0_16 hA (by rfl) dX0_newestDay_5 ?_
  refine zconst (v := 1) C dX0_newestDay_8 (by decide) ?_
  refine zisub C dX0_newestDay_9 ?_
  refine zriald (i0 := k) C hD (nI_pred k) (by omega) (by omega) dX0_newestDay_10 ?_
  exact zend_i C hE dX0_newestDay_11 (by omega) (by omega) ⟨rfl, rfl⟩
set_option maxRecDepth 100000 in
set_option maxHeartbeats 1000000 in
theorem c_goesBackBy {g : zGh} {M : zM} {a da na cap k : Nat} {fd fn : Nat → Int32} (x : Int32) (h : zChr g M a da na cap k fd fn) : zCt g yX0_goesBackBy cX0_goesBackBy 2 (some .boolean) 0 0 mkI [.ref a, .int x] M 0 0 (fun v M1 => v = b2i (decide (1 ≤ k) && decide (fn (k - 1) = x)) ∧ M1 = M) noX := by
  refine zof [some (.ref a), some (.int x)] (by decide +kernel) rfl rfl (Nat.le_of_ble_eq_true rfl) ?_
  intro X C hE hnm
  have C : zC g X RX0 cX0_goesBackBy 2 0 0 0 0 := C
  obtain ⟨hA, hD, hN, h2, h3, h4⟩ := h
  refine zaload_n C dX0_goesBackBy_0 rfl ?_
  refine zget C hf_X0_16 hA (by rfl) dX0_goesBackBy_1 ?_
  refine zconst (v := 1) C dX0_goesBackBy_4 (by decide) ?_
  refine zicmp_le (tgt := 27) C dX0_goesBackBy_5 (by decide) (fun h5 => ?_) (fun h5 => ?_)
  · have e : k = 0 := ck0 (by omega) h5
    refine zconst (v := 0) C dX0_goesBackBy_27 (by decide) ?_
    exact zend_z C hE dX0_goesBackBy_28 (by omega) (by omega) (by first | exact Or.inl rfl | exact Or.inr rfl | exact b2i_b _) ⟨by simp [b2i, e], rfl⟩
  · obtain ⟨j, rfl⟩ : ∃ j, k = j + 1 := ⟨k - 1, by have := ck1 h5; omega⟩
    refine zaload_n C dX0_goesBackBy_8 rfl ?_
    refine zget C hf_X0_13 hA (by rfl) dX0_goesBackBy_9 ?_
    refine zaload_n C dX0_goesBackBy_12 rfl ?_
    refine zget C hf_X0_16 hA (by rfl) dX0_goesBackBy_13 ?_
    refine zconst (v := 2) C dX0_goesBackBy_16 (by decide) ?_
    refine zisub C dX0_goesBackBy_17 ?_
    refine zriald (i0 := j) C hN (by rw [show (2 : Int32) = nI 2 from rfl]; exact nI_sub2 j) (by omega) (by omega) dX0_goesBackBy_18 ?_
    refine ziload_n C dX0_goesBackBy_19 rfl ?_
    refine zicmp_ne (tgt := 27) C dX0_goesBackBy_20 (by decide) (fun h20 => ?_) (fun h20 => ?_)
    · refine zconst (v := 0) C dX0_goesBackBy_27 (by decide) ?_
      exact zend_z C hE dX0_goesBackBy_28 (by omega) (by omega) (by first | exact Or.inl rfl | exact Or.inr rfl | exact b2i_b _) ⟨by simp [b2i, h20], rfl⟩
    · refine zconst (v := 1) C dX0_goesBackBy_23 (by decide) ?_
      refine zgoto (tgt := 28) C dX0_goesBackBy_24 (by decide) ?_
      exact zend_z C hE dX0_goesBackBy_28 (by omega) (by omega) (by first | exact Or.inl rfl | exact Or.inr rfl | exact b2i_b _) ⟨by simp [b2i, h20], rfl⟩
set_option maxRecDepth 100000 in
set_option maxHeartbeats 1000000 in
theorem c_dropNewest {g : zGh} {M : zM} {a da na cap k : Nat} {fd fn : Nat → Int32}  (h : zChr g M a da na cap k fd fn) : zCt g yX0_dropNewest cX0_dropNewest 1 none 0 0 mkV [.ref a] M 0 0 (fun v M1 => M1 = if 1 ≤ k then zup M a (zob 1 [.ref da, .ref na, .int (nI k)]) else M) noX := by
  refine zof [some (.ref a)] (by decide +kernel) rfl rfl (Nat.le_of_ble_eq_true rfl) ?_
  intro X C hE hnm
  have C : zC g X RX0 cX0_dropNewest 1 0 0 0 0 := C
  obtain ⟨hA, hD, hN, h2, h3, h4⟩ := h
  refine zaload_n C dX0_dropNewest_0 rfl ?_
  refine zget C hf_X0_16 hA (by rfl) dX0_dropNewest_1 ?_
  refine zconst (v := 1) C dX0_dropNewest_4 (by decide) ?_
  refine zicmp_le (tgt := 18) C dX0_dropNewest_5 (by decide) (fun h5 => ?_) (fun h5 => ?_)
  · have e : k = 0 := ck0 (by omega) h5
    exact zend_v C hE dX0_dropNewest_18 (by omega) (by omega) (by first | rw [if_pos e] | (rw [e]; rfl))
  · have e : 1 ≤ k := ck1 h5
    refine zaload_n C dX0_dropNewest_8 rfl ?_
    refine zdup C dX0_dropNewest_9 rfl ?_
    refine zget C hf_X0_16 hA (by rfl) dX0_dropNewest_10 ?_
    refine zconst (v := 1) C dX0_dropNewest_13 (by decide) ?_
    refine zisub C dX0_dropNewest_14 ?_
    rw [nI_pred]
    refine zput (fs1 := [_, _, _]) C hf_X0_16 hp_X0 rfl hA rfl rfl (by exact Nat.le_of_ble_eq_true rfl) (by rfl) dX0_dropNewest_15 ?_
    exact zend_v C hE dX0_dropNewest_18 (by omega) (by omega) (by first | rw [if_pos e] | (rw [e]; rfl))
set_option maxRecDepth 100000 in
set_option maxHeartbeats 1000000 in
theorem c_numberOn {g : zGh} {M : zM} {a da na cap k : Nat} {fd fn : Nat → Int32} (d : Int32) (h : zChr g M a da na cap k fd fn) : zCt g yX0_numberOn cX0_numberOn 3 (some .int) 0 0 mkI [.ref a, .int d] M 0 0 (fun v M1 => v = chOn fd fn d k ∧ M1 = M) noX := by
  refine zof [some (.ref a), some (.int d), none] (by decide +kernel) rfl rfl (Nat.le_of_ble_eq_true rfl) ?_
  intro X C hE hnm
  have C : zC g X RX0 cX0_numberOn 3 0 0 0 0 := C
  obtain ⟨hA, hD, hN, h2, h3, h4⟩ := h
  have loop : ∀ i, i ≤ k → chOn fd fn d i = chOn fd fn d k → zG g X M 0 0 7 [some (.ref a), some (.int d), some (.int (nI i))] [] := by
    intro i
    induction i with
    | zero =>
      intro hi e
      refine ziload_n C dX0_numberOn_7 rfl ?_
      refine zif_le_t (tgt := 34) C dX0_numberOn_8 (by decide) (by decide) ?_
      refine zaload_n C dX0_numberOn_34 rfl ?_
      refine zget C hf_X0_13 hA (by rfl) dX0_numberOn_35 ?_
      refine zconst (v := 0) C dX0_numberOn_38 (by decide) ?_
      refine zriald (i0 := 0) C hN rfl (by omega) (by omega) dX0_numberOn_39 ?_
      exact zend_i C hE dX0_numberOn_40 (by omega) (by omega) ⟨e, rfl⟩
    | succ i ih =>
      intro hi e
      refine ziload_n C dX0_numberOn_7 rfl ?_
      refine zif_le_f (tgt := 34) C dX0_numberOn_8 (by decide) (ule0 (by omega) (by omega)) ?_
      refine zaload_n C dX0_numberOn_11 rfl ?_
      refine zget C hf_X0_7 hA (by rfl) dX0_numberOn_12 ?_
      refine ziload_n C dX0_numberOn_15 rfl ?_
      refine zriald (i0 := i + 1) C hD rfl (by omega) (by omega) dX0_numberOn_16 ?_
      refine ziload_n C dX0_numberOn_17 rfl ?_
      refine zicmp_gt (tgt := 28) C dX0_numberOn_18 (by decide) (fun h18 => ?_) (fun h18 => ?_)
      · refine ziinc (L1 := [_, _, _]) (v := nI i) C dX0_numberOn_28 rfl (nI_dec i) rfl ?_
        refine zgoto (tgt := 7) C dX0_numberOn_31 (by decide) ?_
        exact ih (by omega) (by rw [← e, chOn, if_neg (zlt_nle h18)])
      · refine zaload_n C dX0_numberOn_21 rfl ?_
        refine zget C hf_X0_13 hA (by rfl) dX0_numberOn_22 ?_
        refine ziload_n C dX0_numberOn_25 rfl ?_
        refine zriald (i0 := i + 1) C hN rfl (by omega) (by omega) dX0_numberOn_26 ?_
        exact zend_i C hE dX0_numberOn_27 (by omega) (by omega) ⟨by rw [← e, chOn, if_pos (zgt_le h18)], rfl⟩
  refine zaload_n C dX0_numberOn_0 rfl ?_
  refine zget C hf_X0_16 hA (by rfl) dX0_numberOn_1 ?_
  refine zconst (v := 1) C dX0_numberOn_4 (by decide) ?_
  refine zisub C dX0_numberOn_5 ?_
  rw [nI_pred]
  refine zistore_n (L1 := [_, _, _]) C dX0_numberOn_6 rfl (Nat.le_of_ble_eq_true rfl) ?_
  exact loop k (Nat.le_refl _) rfl
