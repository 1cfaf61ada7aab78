def ext (N : Nat) (f : Nat → Int32) : Nat → Int32 := fun i => if i < N then f i else 0
theorem zob_ai {g : zGh} {M : zM} {a d ci N : Nat} {fs : List Value} {f : Nat → Int32} (h1 : M a = some (zob ci fs)) (h2 : M d = some (zai g N f)) : a ≠ d := fun e => by
  rw [e, h2] at h1
  simp [zai, zob] at h1
theorem znone {M : zM} {a q : Nat} {e : va_E} (h1 : M a = some e) (h2 : M q = none) : a ≠ q := fun he => by
  rw [he, h2] at h1
  cases h1
/-- what a chronicle's growing leaves -/
theorem zChr_grow {g : zGh} {M : zM} {a da na k q1 q2 : Nat} {fd fn : Nat → Int32} (h : zChr g M a da na (k + 1) k fd fn) (hk : k + 1 ≤ 4096) (hq1 : M q1 = none)
    (hq2 : zup (zup M q1 (zai g (2 * (k + 1)) (ext (k + 1) fd))) a (zob 1 [.ref q1, .ref na, .int (nI (k + 1))]) q2 = none) :
    zChr g (zup (zup (zup (zup M q1 (zai g (2 * (k + 1)) (ext (k + 1) fd))) a (zob 1 [.ref q1, .ref na, .int (nI (k + 1))])) q2 (zai g (2 * (k + 1)) (ext (k + 1) fn))) a (zob 1 [.ref q1, .ref q2, .int (nI (k + 1))])) a q1 q2 (2 * (k + 1)) k (ext (k + 1) fd) (ext (k + 1) fn) ∧ M q2 = none ∧
    ∀ q e, M q = some e → q ≠ a → zup (zup (zup (zup M q1 (zai g (2 * (k + 1)) (ext (k + 1) fd))) a (zob 1 [.ref q1, .ref na, .int (nI (k + 1))])) q2 (zai g (2 * (k + 1)) (ext (k + 1) fn))) a (zob 1 [.ref q1, .ref q2, .int (nI (k + 1))]) q = some e := by
  obtain ⟨hA, hD, hN, h2, h3, h4⟩ := h
  have e1 : a ≠ q1 := znone hA hq1
  have e2 : a ≠ q2 := fun e => by rw [← e, zup_same] at hq2; cases hq2
  have e3 : q1 ≠ q2 := fun e => by rw [← e, zup_ne e1.symm, zup_same] at hq2; cases hq2
  have e4 : M q2 = none := by rw [zup_ne e2.symm, zup_ne e3.symm] at hq2; exact hq2
  refine ⟨⟨zup_same, ?_, ?_, by omega, by omega, e3⟩, e4, fun q e hq hqa => ?_⟩
  · rw [zup_ne e1.symm, zup_ne e3, zup_ne e1.symm, zup_same]
  · rw [zup_ne e2.symm, zup_same]
  · rw [zup_ne hqa, zup_ne (znone hq e4), zup_ne hqa, zup_ne (znone hq hq1)]
    exact hq
set_option maxRecDepth 100000 in
set_option maxHeartbeats 1000000 in
theorem c_makeRoom0 {g : zGh} {M : zM} {a da na cap k : Nat} {fd fn : Nat → Int32} (h : zChr g M a da na cap k fd fn) (hc : k + 1 < cap) : zCt g yX0_makeRoom cX0_makeRoom 1 none 2 62 mkV [.ref a] M 0 0 (fun v M1 => M1 = M) noX := by
  refine zof [some (.ref a)] (by decide +kernel) rfl rfl (Nat.le_of_ble_eq_true rfl) ?_
  intro X C hE hnm
  have C : zC g X RX0 cX0_makeRoom 1 2 62 0 0 := C
  obtain ⟨hA, hD, hN, h2, h3, h4⟩ := id h
  refine zaload_n C dX0_makeRoom_0 rfl ?_
  refine zget C hf_X0_16 hA (by rfl) dX0_makeRoom_1 ?_
  refine zaload_n C dX0_makeRoom_4 rfl ?_
  refine zget C hf_X0_7 hA (by rfl) dX0_makeRoom_5 ?_
  refine zalen (v := nI cap) C hD rfl dX0_makeRoom_8 ?_
  refine zicmp_ne (tgt := 46) C dX0_makeRoom_9 (by decide) (fun h9 => ?_) (fun h9 => by first | exact absurd (fun e => by have := (nI_eq (a := k + 1) (b := cap) (by omega) (by omega)).mp e; omega) h9 | exact absurd h9 (fun e => by have := (nI_eq (a := k + 1) (b := cap) (by omega) (by omega)).mp e; omega))
  exact zend_v C hE dX0_makeRoom_46 (by omega) (by omega) rfl
set_option maxRecDepth 100000 in
set_option maxHeartbeats 1000000 in
theorem c_makeRoom1 {g : zGh} {M : zM} {a da na k : Nat} {fd fn : Nat → Int32} (h : zChr g M a da na (k + 1) k fd fn) (hk : k + 1 ≤ 4096) : zCt g yX0_makeRoom cX0_makeRoom 1 none 2 62 mkV [.ref a] M 2 (4 * (k + 1)) (fun v M1 => ∃ d1 n1, M d1 = none ∧ M n1 = none ∧ zChr g M1 a d1 n1 (2 * (k + 1)) k (ext (k + 1) fd) (ext (k + 1) fn) ∧ ∀ q e, M q = some e → q ≠ a → M1 q = some e) noX := by
  refine zof [some (.ref a)] (by decide +kernel) rfl rfl (Nat.le_of_ble_eq_true rfl) ?_
  intro X C hE hnm
  have C : zC g X RX0 cX0_makeRoom 1 2 62 2 (4 * (k + 1)) := C
  obtain ⟨hA, hD, hN, h2, h3, h4⟩ := id h
  refine zaload_n C dX0_makeRoom_0 rfl ?_
  refine zget C hf_X0_16 hA (by rfl) dX0_makeRoom_1 ?_
  refine zaload_n C dX0_makeRoom_4 rfl ?_
  refine zget C hf_X0_7 hA (by rfl) dX0_makeRoom_5 ?_
  refine zalen (v := nI (k + 1)) C hD rfl dX0_makeRoom_8 ?_
  refine zicmp_ne (tgt := 46) C dX0_makeRoom_9 (by decide) (fun h9 => by first | exact absurd h9 rfl | exact absurd rfl h9) (fun h9 => ?_)
  refine zaload_n C dX0_makeRoom_12 rfl ?_
  refine zaload_n C dX0_makeRoom_13 rfl ?_
  refine zget C hf_X0_7 hA (by rfl) dX0_makeRoom_14 ?_
  refine zconst (v := 2) C dX0_makeRoom_17 (by decide) ?_
  refine zaload_n C dX0_makeRoom_18 rfl ?_
  refine zget C hf_X0_16 hA (by rfl) dX0_makeRoom_19 ?_
  refine zimul C dX0_makeRoom_22 ?_
  rw [show (2 : Int32) * nI (k + 1) = nI (2 * (k + 1)) from pk_mul 2 (k + 1)]
  refine zcallS C (c_copyi (N := k + 1) (m := 2 * (k + 1)) hD (by omega) (by omega)) hy_J7_copyOf_59c91 hst_J7_copyOf_59c91 hl_X0_23 rfl rfl (by decide) (by decide) (by omega) (by omega) rfl (by exact Nat.le_of_ble_eq_true rfl) dX0_makeRoom_23 (fun v23 M1 hp23 => ?_)
  obtain ⟨hq1, hM1⟩ := hp23
  subst hM1
  have haq1 := znone hA hq1
  have hA1 : zup M v23 (zai g (2 * (k + 1)) (ext (k + 1) fd)) a = some (zob 1 [.ref da, .ref na, .int (nI (k + 1))]) := by rw [zup_ne haq1]; exact hA
  refine zput (fs1 := [_, _, _]) C hf_X0_7 hp_X0 rfl hA1 rfl rfl (by exact Nat.le_of_ble_eq_true rfl) (by rfl) dX0_makeRoom_26 ?_
  refine zaload_n C dX0_makeRoom_29 rfl ?_
  refine zaload_n C dX0_makeRoom_30 rfl ?_
  refine zget C hf_X0_13 zup_same (by rfl) dX0_makeRoom_31 ?_
  refine zconst (v := 2) C dX0_makeRoom_34 (by decide) ?_
  refine zaload_n C dX0_makeRoom_35 rfl ?_
  refine zget C hf_X0_16 zup_same (by rfl) dX0_makeRoom_36 ?_
  refine zimul C dX0_makeRoom_39 ?_
  rw [show (2 : Int32) * nI (k + 1) = nI (2 * (k + 1)) from pk_mul 2 (k + 1)]
  refine zcallS C (c_copyi (N := k + 1) (m := 2 * (k + 1)) (by rw [zup_ne (zob_ai hA hN).symm, zup_ne (znone hN hq1)]; exact hN) (by omega) (by omega)) hy_J7_copyOf_59c91 hst_J7_copyOf_59c91 hl_X0_23 rfl rfl (by decide) (by decide) (by omega) (by omega) rfl (by exact Nat.le_of_ble_eq_true rfl) dX0_makeRoom_40 (fun v40 M1 hp40 => ?_)
  obtain ⟨hq2, hM1⟩ := hp40
  subst hM1
  have hA2 : zup (zup (zup M v23 (zai g (2 * (k + 1)) (ext (k + 1) fd))) a (zob 1 [.ref v23, .ref na, .int (nI (k + 1))])) v40 (zai g (2 * (k + 1)) (ext (k + 1) fn)) a = some (zob 1 [.ref v23, .ref na, .int (nI (k + 1))]) := by rw [zup_ne (znone zup_same hq2)]; exact zup_same
  refine zput (fs1 := [_, _, _]) C hf_X0_13 hp_X0 rfl hA2 rfl rfl (by exact Nat.le_of_ble_eq_true rfl) (by rfl) dX0_makeRoom_43 ?_
  exact zend_v C hE dX0_makeRoom_46 (by omega) (by omega) (by obtain ⟨z1, z2, z3⟩ := zChr_grow h hk hq1 hq2; exact ⟨_, _, hq1, z2, z1, z3⟩)
set_option maxRecDepth 100000 in
set_option maxHeartbeats 1000000 in
theorem c_tellA {g : zGh} {M : zM} {a da na cap k : Nat} {fd fn : Nat → Int32} (d x : Int32) (h : zChr g M a da na cap k fd fn) (hs : fd k = d) : zCt g yX0_tell cX0_tell 3 none 3 82 mkV [.ref a, .int d, .int x] M 0 0 (fun v M1 => zChr g M1 a da na cap k fd (upd fn k x) ∧ ∀ q e, M q = some e → q ≠ a → q ≠ da → q ≠ na → M1 q = some e) noX := by
  refine zof [some (.ref a), some (.int d), some (.int x)] (by decide +kernel) rfl rfl (Nat.le_of_ble_eq_true rfl) ?_
  intro X C hE hnm
  have C : zC g X RX0 cX0_tell 3 3 82 0 0 := C
  obtain ⟨hA, hD, hN, h2, h3, h4⟩ := id h
  refine zaload_n C dX0_tell_0 rfl ?_
  refine zget C hf_X0_7 hA (by rfl) dX0_tell_1 ?_
  refine zaload_n C dX0_tell_4 rfl ?_
  refine zget C hf_X0_16 hA (by rfl) dX0_tell_5 ?_
  refine zconst (v := 1) C dX0_tell_8 (by decide) ?_
  refine zisub C dX0_tell_9 ?_
  refine zriald (i0 := k) C hD (nI_pred k) (by omega) (by omega) dX0_tell_10 ?_
  refine ziload_n C dX0_tell_11 rfl ?_
  refine zicmp_eq (tgt := 39) C dX0_tell_12 (by decide) (fun h12 => ?_) (fun h12 => by first | exact absurd hs h12 | exact absurd h12 hs)
  refine zaload_n C dX0_tell_39 rfl ?_
  refine zget C hf_X0_13 hA (by rfl) dX0_tell_40 ?_
  refine zaload_n C dX0_tell_43 rfl ?_
  refine zget C hf_X0_16 hA (by rfl) dX0_tell_44 ?_
  refine zconst (v := 1) C dX0_tell_47 (by decide) ?_
  refine zisub C dX0_tell_48 ?_
  refine ziload_n C dX0_tell_49 rfl ?_
  refine zriast (i0 := k) C hN (nI_pred k) (by omega) (by omega) dX0_tell_50 ?_
  exact zend_v C hE dX0_tell_51 (by omega) (by omega) ⟨⟨by rw [zup_ne (zob_ai hA hN)]; exact hA, by rw [zup_ne h4]; exact hD, zup_same, h2, h3, h4⟩, fun q e hq _ _ hn => by rw [zup_ne hn]; exact hq⟩
set_option maxRecDepth 100000 in
set_option maxHeartbeats 1000000 in
theorem c_tellB {g : zGh} {M : zM} {a da na cap k : Nat} {fd fn : Nat → Int32} (d x : Int32) (h : zChr g M a da na cap k fd fn) (hs : ¬ fd k = d) (hc : k + 1 < cap) : zCt g yX0_tell cX0_tell 3 none 3 82 mkV [.ref a, .int d, .int x] M 0 0 (fun v M1 => zChr g M1 a da na cap (k + 1) (upd fd (k + 1) d) (upd fn (k + 1) x) ∧ ∀ q e, M q = some e → q ≠ a → q ≠ da → q ≠ na → M1 q = some e) noX := by
  refine zof [some (.ref a), some (.int d), some (.int x)] (by decide +kernel) rfl rfl (Nat.le_of_ble_eq_true rfl) ?_
  intro X C hE hnm
  have C : zC g X RX0 cX0_tell 3 3 82 0 0 := C
  obtain ⟨hA, hD, hN, h2, h3, h4⟩ := id h
  have tail : ∀ M1 d1 n1 cap1 f1 h1, zChr g M1 a d1 n1 cap1 k f1 h1 → k + 1 < cap1 → (∀ M2, zChr g M2 a d1 n1 cap1 (k + 1) (upd f1 (k + 1) d) (upd h1 (k + 1) x) → (∀ q e, M1 q = some e → q ≠ a → q ≠ d1 → q ≠ n1 → M2 q = some e) → (zChr g M2 a da na cap (k + 1) (upd fd (k + 1) d) (upd fn (k + 1) x) ∧ ∀ q e, M q = some e → q ≠ a → q ≠ da → q ≠ na → M2 q = some e)) → zG g X M1 0 0 19 [some (.ref a), some (.int d), some (.int x)] [] := by
    intro M1 d1 n1 cap1 f1 h1 hch hc1 hfin
    obtain ⟨gA, gD, gN, g2, g3, g4⟩ := hch
    refine zaload_n C dX0_tell_19 rfl ?_
    refine zget C hf_X0_7 gA (by rfl) dX0_tell_20 ?_
    refine zaload_n C dX0_tell_23 rfl ?_
    refine zget C hf_X0_16 gA (by rfl) dX0_tell_24 ?_
    refine ziload_n C dX0_tell_27 rfl ?_
    refine zriast (i0 := k + 1) C gD rfl (by omega) (by omega) dX0_tell_28 ?_
    have gA2 : zup M1 d1 (zai g cap1 (upd f1 (k + 1) d)) a = some (zob 1 [.ref d1, .ref n1, .int (nI (k + 1))]) := by rw [zup_ne (zob_ai gA gD)]; exact gA
    refine zaload_n C dX0_tell_29 rfl ?_
    refine zdup C dX0_tell_30 rfl ?_
    refine zget C hf_X0_16 gA2 (by rfl) dX0_tell_31 ?_
    refine zconst (v := 1) C dX0_tell_34 (by decide) ?_
    refine ziadd C dX0_tell_35 ?_
    rw [nI_1 (k + 1)]
    refine zput (fs1 := [_, _, _]) C hf_X0_16 hp_X0 rfl gA2 rfl rfl (by exact Nat.le_of_ble_eq_true rfl) (by rfl) dX0_tell_36 ?_
    have gN3 : zup (zup M1 d1 (zai g cap1 (upd f1 (k + 1) d))) a (zob 1 [.ref d1, .ref n1, .int (nI (k + 1 + 1))]) n1 = some (zai g cap1 h1) := by rw [zup_ne (zob_ai gA gN).symm, zup_ne g4.symm]; exact gN
    refine zaload_n C dX0_tell_39 rfl ?_
    refine zget C hf_X0_13 zup_same (by rfl) dX0_tell_40 ?_
    refine zaload_n C dX0_tell_43 rfl ?_
    refine zget C hf_X0_16 zup_same (by rfl) dX0_tell_44 ?_
    refine zconst (v := 1) C dX0_tell_47 (by decide) ?_
    refine zisub C dX0_tell_48 ?_
    refine ziload_n C dX0_tell_49 rfl ?_
    refine zriast (i0 := k + 1) C gN3 (nI_pred (k + 1)) (by omega) (by omega) dX0_tell_50 ?_
    exact zend_v C hE dX0_tell_51 (by omega) (by omega) (hfin _ ⟨by rw [zup_ne (zob_ai gA gN), zup_same], by rw [zup_ne g4, zup_ne (zob_ai gA gD).symm, zup_same], zup_same, by omega, g3, g4⟩ (fun q e hq u1 u2 u3 => by rw [zup_ne u3, zup_ne u1, zup_ne u2]; exact hq))
  refine zaload_n C dX0_tell_0 rfl ?_
  refine zget C hf_X0_7 hA (by rfl) dX0_tell_1 ?_
  refine zaload_n C dX0_tell_4 rfl ?_
  refine zget C hf_X0_16 hA (by rfl) dX0_tell_5 ?_
  refine zconst (v := 1) C dX0_tell_8 (by decide) ?_
  refine zisub C dX0_tell_9 ?_
  refine zriald (i0 := k) C hD (nI_pred k) (by omega) (by omega) dX0_tell_10 ?_
  refine ziload_n C dX0_tell_11 rfl ?_
  refine zicmp_eq (tgt := 39) C dX0_tell_12 (by decide) (fun h12 => by first | exact absurd h12 hs | exact absurd hs h12) (fun h12 => ?_)
  refine zaload_n C dX0_tell_15 rfl ?_
  refine zcallV C (c_makeRoom0 h hc) hy_X0_makeRoom hv_X0_makeRoom hl_X0_20 hA rfl rfl rfl rfl (by decide) (by decide) (by omega) (by omega) rfl (by exact Nat.le_of_ble_eq_true rfl) dX0_tell_16 (fun v16 M1 hp16 => ?_)
  subst hp16
  exact tail _ _ _ _ _ _ h hc (fun M2 z1 z2 => ⟨z1, z2⟩)
set_option maxRecDepth 100000 in
set_option maxHeartbeats 1000000 in
theorem c_tellC {g : zGh} {M : zM} {a da na k : Nat} {fd fn : Nat → Int32} (d x : Int32) (h : zChr g M a da na (k + 1) k fd fn) (hs : ¬ fd k = d) (hk : k + 1 ≤ 4096) : zCt g yX0_tell cX0_tell 3 none 3 82 mkV [.ref a, .int d, .int x] M 2 (4 * (k + 1)) (fun v M1 => ∃ d1 n1, M d1 = none ∧ M n1 = none ∧ zChr g M1 a d1 n1 (2 * (k + 1)) (k + 1) (upd (ext (k + 1) fd) (k + 1) d) (upd (ext (k + 1) fn) (k + 1) x) ∧ ∀ q e, M q = some e → q ≠ a → M1 q = some e) noX := by
  refine zof [some (.ref a), some (.int d), some (.int x)] (by decide +kernel) rfl rfl (Nat.le_of_ble_eq_true rfl) ?_
  intro X C hE hnm
  have C : zC g X RX0 cX0_tell 3 3 82 2 (4 * (k + 1)) := C
  obtain ⟨hA, hD, hN, h2, h3, h4⟩ := id h
  have tail : ∀ M1 d1 n1 cap1 f1 h1, zChr g M1 a d1 n1 cap1 k f1 h1 → k + 1 < cap1 → (∀ M2, zChr g M2 a d1 n1 cap1 (k + 1) (upd f1 (k + 1) d) (upd h1 (k + 1) x) → (∀ q e, M1 q = some e → q ≠ a → q ≠ d1 → q ≠ n1 → M2 q = some e) → (∃ u1 u2, M u1 = none ∧ M u2 = none ∧ zChr g M2 a u1 u2 (2 * (k + 1)) (k + 1) (upd (ext (k + 1) fd) (k + 1) d) (upd (ext (k + 1) fn) (k + 1) x) ∧ ∀ q e, M q = some e → q ≠ a → M2 q = some e)) → zG g X M1 (0 + 2) (0 + 4 * (k + 1)) 19 [some (.ref a), some (.int d), some (.int x)] [] := by
    intro M1 d1 n1 cap1 f1 h1 hch hc1 hfin
    obtain ⟨gA, gD, gN, g2, g3, g4⟩ := hch
    refine zaload_n C dX0_tell_19 rfl ?_
    refine zget C hf_X0_7 gA (by rfl) dX0_tell_20 ?_
    refine zaload_n C dX0_tell_23 rfl ?_
    refine zget C hf_X0_16 gA (by rfl) dX0_tell_24 ?_
    refine ziload_n C dX0_tell_27 rfl ?_
    refine zriast (i0 := k + 1) C gD rfl (by omega) (by omega) dX0_tell_28 ?_
    have gA2 : zup M1 d1 (zai g cap1 (upd f1 (k + 1) d)) a = some (zob 1 [.ref d1, .ref n1, .int (nI (k + 1))]) := by rw [zup_ne (zob_ai gA gD)]; exact gA
    refine zaload_n C dX0_tell_29 rfl ?_
    refine zdup C dX0_tell_30 rfl ?_
    refine zget C hf_X0_16 gA2 (by rfl) dX0_tell_31 ?_
    refine zconst (v := 1) C dX0_tell_34 (by decide) ?_
    refine ziadd C dX0_tell_35 ?_
    rw [nI_1 (k + 1)]
    refine zput (fs1 := [_, _, _]) C hf_X0_16 hp_X0 rfl gA2 rfl rfl (by exact Nat.le_of_ble_eq_true rfl) (by rfl) dX0_tell_36 ?_
    have gN3 : zup (zup M1 d1 (zai g cap1 (upd f1 (k + 1) d))) a (zob 1 [.ref d1, .ref n1, .int (nI (k + 1 + 1))]) n1 = some (zai g cap1 h1) := by rw [zup_ne (zob_ai gA gN).symm, zup_ne g4.symm]; exact gN
    refine zaload_n C dX0_tell_39 rfl ?_
    refine zget C hf_X0_13 zup_same (by rfl) dX0_tell_40 ?_
    refine zaload_n C dX0_tell_43 rfl ?_
    refine zget C hf_X0_16 zup_same (by rfl) dX0_tell_44 ?_
    refine zconst (v := 1) C dX0_tell_47 (by decide) ?_
    refine zisub C dX0_tell_48 ?_
    refine ziload_n C dX0_tell_49 rfl ?_
    refine zriast (i0 := k + 1) C gN3 (nI_pred (k + 1)) (by omega) (by omega) dX0_tell_50 ?_
    exact zend_v C hE dX0_tell_51 (by omega) (by omega) (hfin _ ⟨by rw [zup_ne (zob_ai gA gN), zup_same], by rw [zup_ne g4, zup_ne (zob_ai gA gD).symm, zup_same], zup_same, by omega, g3, g4⟩ (fun q e hq u1 u2 u3 => by rw [zup_ne u3, zup_ne u1, zup_ne u2]; exact hq))
  refine zaload_n C dX0_tell_0 rfl ?_
  refine zget C hf_X0_7 hA (by rfl) dX0_tell_1 ?_
  refine zaload_n C dX0_tell_4 rfl ?_
  refine zget C hf_X0_16 hA (by rfl) dX0_tell_5 ?_
  refine zconst (v := 1) C dX0_tell_8 (by decide) ?_
  refine zisub C dX0_tell_9 ?_
  refine zriald (i0 := k) C hD (nI_pred k) (by omega) (by omega) dX0_tell_10 ?_
  refine ziload_n C dX0_tell_11 rfl ?_
  refine zicmp_eq (tgt := 39) C dX0_tell_12 (by decide) (fun h12 => by first | exact absurd h12 hs | exact absurd hs h12) (fun h12 => ?_)
  refine zaload_n C dX0_tell_15 rfl ?_
  refine zcallV C (c_makeRoom1 h hk) hy_X0_makeRoom hv_X0_makeRoom hl_X0_20 hA rfl rfl rfl rfl (by decide) (by decide) (by omega) (by omega) rfl (by exact Nat.le_of_ble_eq_true rfl) dX0_tell_16 (fun v16 M1 hp16 => ?_)
  obtain ⟨d1, n1, z1, z2, z3, z4⟩ := hp16
  exact tail _ _ _ _ _ _ z3 (by omega) (fun M2 z5 z6 => ⟨d1, n1, z1, z2, z5, fun q e hq ha => z6 q e (z4 q e hq ha) ha (znone hq z1) (znone hq z2)⟩)
