theorem zup_sameE {M M1 : zM} {a : Nat} {e : va_E} (h : zup M a e = M1) : M1 a = some e := h ▸ zup_same
theorem zup_neE {M M1 : zM} {a q : Nat} {e f : va_E} (h : M1 = zup M q e) (hn : a ≠ q) (hA : M a = some f) : M1 a = some f := by rw [h, zup_ne hn]; exact hA
theorem kp8_putE {M M1 : zM} {a : Nat} {fs : List Value} {e : va_E} (ha : M a = some (zob 8 fs)) (h : zup M a e = M1) : kp8 M M1 := h ▸ kp8_put ha
set_option maxRecDepth 100000 in
set_option maxHeartbeats 1000000 in
theorem k_init {g : zGh} {M : zM} {a : Nat} (hA : M a = some (zob 8 [.null, .null, .null, .null, .null, .null, .int 0, .int 0, .int 0, .long 0])) : zCt g yX7_init cX7_init 1 none 4 84 mkV [.ref a] M 40 101 (fun v M1 => ∃ ad, zP g K0 (fun _ => none) ad M1 ∧ ad (0, 0) = a) noX := by
  refine zof [some (.ref a)] (by decide +kernel) rfl rfl (Nat.le_of_ble_eq_true rfl) ?_
  intro X C hE hnm
  have C : zC g X RX7 cX7_init 1 4 84 40 101 := C
  refine zaload_n C dX7_init_0 rfl ?_
  refine zobj C hl_X7_1 hoi1 hoi2 rfl (by decide) (by decide) dX7_init_1 ?_
  refine zaload_n C dX7_init_4 rfl ?_
  refine znew C hw_X7_7 rfl (by omega) (by omega) dX7_init_5 (fun q1 hq1 => ?_)
  refine zdup C dX7_init_8 rfl ?_
  refine zcallIN C (w_init zup_same) hy_X2_init hi_X2_init hn_X7_9 rfl rfl (by decide) (by decide) (by omega) (by omega) rfl (by exact Nat.le_of_ble_eq_true rfl) dX7_init_9 (fun M9 hM9 => ?_)
  obtain ⟨r7, cq, dq, nq, M2, hF, hM9⟩ := hM9
  have haq : a ≠ q1 := znone hA hq1
  have hA2 : M2 a = some (zob 8 _) := hF.2.2.2.2.2 _ _ (by rw [zup_ne haq]; exact hA)
  have hq2 : M2 q1 = some (zob 3 [.null]) := hF.2.2.2.2.2 _ _ zup_same
  have f1 : M9 q1 = some (zob 3 [.ref r7]) := by rw [hM9]; exact zup_same
  have hk9 : ∀ x e, M2 x = some e → x ≠ q1 → M9 x = some e := by rw [hM9]; exact kp8_set hq2
  have nq1 : ∀ x, zup M q1 (zob 3 [.null]) x = none → x ≠ q1 := fun x hx e => by rw [e, zup_same] at hx; cases hx
  have f2 := hk9 _ _ hF.1 (nq1 _ hF.2.2.1)
  have f3 : ∀ w, w < 7 → zChr g M9 (cq w) (dq w) (nq w) 2 0 (upd (fun _ => 0) 0 0) (upd (fun _ => 0) 0 (zLF w)) := fun w hw => (hF.2.1 w hw).keep (fun x e hx hxx => hk9 x e hx (nq1 x (by
      obtain ⟨z1, z2, z3⟩ := hF.2.2.2.1 w hw
      rcases hxx with rfl | rfl | rfl
      · exact z1
      · exact z2
      · exact z3)))
  have f3d := hF.2.2.2.2.1
  have hA : M9 a = some (zob 8 _) := hk9 _ _ hA2 haq
  clear hF hk9 nq1 hA2 hq2
  refine zputF (fs1 := [_, _, _, _, _, _, _, _, _, _]) C hnm hf_X7_10 hp_X7 rfl rfl hA rfl rfl (by exact Nat.le_of_ble_eq_true rfl) (by rfl) dX7_init_12 ?_
  generalize hM12 : zup _ a (zob 8 _) = M12
  have hk := kp8_putE hA hM12
  replace f1 := hk.ob f1 (by decide)
  replace f2 := hk.ac f2
  replace f3 := fun w hw => hk.chr (f3 w hw)
  have hA := zup_sameE hM12
  refine zaload_n C dX7_init_15 rfl ?_
  refine znew C hw_X7_16 rfl (by omega) (by omega) dX7_init_16 (fun l0 hl00 => ?_)
  refine zdup C dX7_init_19 rfl ?_
  refine zcallI C (l_init zup_same) hy_Jx4a65c_init_da8c8 hi_Jx4a65c_init_da8c8 hl_X7_18 rfl rfl (by decide) (by decide) (by omega) (by omega) rfl (by exact Nat.le_of_ble_eq_true rfl) dX7_init_20 (fun Ml0 hMl0 => ?_)
  rw [zup_up2] at hMl0
  have hk := kp8_new (e := zob 0 [.int 0, .ref (g.2.2.2.1 4), .int 0]) hl00
  rw [← hMl0] at hk
  replace f1 := hk.ob f1 (by decide)
  replace f2 := hk.ac f2
  replace f3 := fun w hw => hk.chr (f3 w hw)
  have hA := zup_neE hMl0 (znone hA hl00) hA
  have fl0 : Ml0 l0 = some (zob 0 [.int 0, .ref (g.2.2.2.1 4), .int 0]) := by rw [hMl0]; exact zup_same
  refine zputF (fs1 := [_, _, _, _, _, _, _, _, _, _]) C hnm hf_X7_19 hp_X7 rfl rfl hA rfl rfl (by exact Nat.le_of_ble_eq_true rfl) (by rfl) dX7_init_23 ?_
  generalize hM23 : zup _ a (zob 8 _) = M23
  have hk := kp8_putE hA hM23
  replace f1 := hk.ob f1 (by decide)
  replace f2 := hk.ac f2
  replace f3 := fun w hw => hk.chr (f3 w hw)
  replace fl0 := hk.ob fl0 (by decide)
  have hA := zup_sameE hM23
  refine zaload_n C dX7_init_26 rfl ?_
  refine zgets C C.2.2.2.2.2.1.2.2.1.2.1.2.2.2.1 hs_X7_23 dX7_init_27 ?_
  refine zcallS C c_fromR hy_X7_chroniclesFrom hst_X7_chroniclesFrom hl_X7_27 rfl rfl (by decide) (by decide) (by omega) (by omega) rfl (by exact Nat.le_of_ble_eq_true rfl) dX7_init_30 (fun r4 M30 hp30 => ?_)
  obtain ⟨c4, d4, n4, hF⟩ := hp30
  have hk := kp8_fr hF.2.2.2.2.2
  have hr74 : r7 ≠ r4 := znone f2 hF.2.2.1
  have x1 : ∀ w v, w < 7 → v < 4 → cq w ≠ c4 v ∧ dq w ≠ d4 v ∧ nq w ≠ n4 v ∧ dq w ≠ n4 v ∧ nq w ≠ d4 v := fun w v hw hv => ⟨znone (f3 w hw).1 (hF.2.2.2.1 v hv).1, znone (f3 w hw).2.1 (hF.2.2.2.1 v hv).2.1, znone (f3 w hw).2.2.1 (hF.2.2.2.1 v hv).2.2, znone (f3 w hw).2.1 (hF.2.2.2.1 v hv).2.2, znone (f3 w hw).2.2.1 (hF.2.2.2.1 v hv).2.1⟩
  replace f1 := hk.ob f1 (by decide)
  replace f2 := hk.ac f2
  replace f3 := fun w hw => hk.chr (f3 w hw)
  replace fl0 := hk.ob fl0 (by decide)
  have hA : M30 a = some (zob 8 _) := hF.2.2.2.2.2 _ _ hA
  have f4 := hF.1
  have f5 := hF.2.1
  have f5d := hF.2.2.2.2.1
  clear hF
  refine zputF (fs1 := [_, _, _, _, _, _, _, _, _, _]) C hnm hf_X7_31 hp_X7 rfl rfl hA rfl rfl (by exact Nat.le_of_ble_eq_true rfl) (by rfl) dX7_init_33 ?_
  generalize hM33 : zup _ a (zob 8 _) = M33
  have hk := kp8_putE hA hM33
  replace f1 := hk.ob f1 (by decide)
  replace f2 := hk.ac f2
  replace f3 := fun w hw => hk.chr (f3 w hw)
  replace fl0 := hk.ob fl0 (by decide)
  replace f4 := hk.ac f4
  replace f5 := fun w hw => hk.chr (f5 w hw)
  have hA := zup_sameE hM33
  refine zaload_n C dX7_init_36 rfl ?_
  refine znew C hw_X7_16 rfl (by omega) (by omega) dX7_init_37 (fun l1 hl10 => ?_)
  refine zdup C dX7_init_40 rfl ?_
  refine zcallI C (l_init zup_same) hy_Jx4a65c_init_da8c8 hi_Jx4a65c_init_da8c8 hl_X7_18 rfl rfl (by decide) (by decide) (by omega) (by omega) rfl (by exact Nat.le_of_ble_eq_true rfl) dX7_init_41 (fun Ml1 hMl1 => ?_)
  rw [zup_up2] at hMl1
  have hk := kp8_new (e := zob 0 [.int 0, .ref (g.2.2.2.1 4), .int 0]) hl10
  rw [← hMl1] at hk
  have d10 : l0 ≠ l1 := znone fl0 hl10
  replace f1 := hk.ob f1 (by decide)
  replace f2 := hk.ac f2
  replace f3 := fun w hw => hk.chr (f3 w hw)
  replace fl0 := hk.ob fl0 (by decide)
  replace f4 := hk.ac f4
  replace f5 := fun w hw => hk.chr (f5 w hw)
  have hA := zup_neE hMl1 (znone hA hl10) hA
  have fl1 : Ml1 l1 = some (zob 0 [.int 0, .ref (g.2.2.2.1 4), .int 0]) := by rw [hMl1]; exact zup_same
  refine zputF (fs1 := [_, _, _, _, _, _, _, _, _, _]) C hnm hf_X7_35 hp_X7 rfl rfl hA rfl rfl (by exact Nat.le_of_ble_eq_true rfl) (by rfl) dX7_init_44 ?_
  generalize hM44 : zup _ a (zob 8 _) = M44
  have hk := kp8_putE hA hM44
  replace f1 := hk.ob f1 (by decide)
  replace f2 := hk.ac f2
  replace f3 := fun w hw => hk.chr (f3 w hw)
  replace fl0 := hk.ob fl0 (by decide)
  replace f4 := hk.ac f4
  replace f5 := fun w hw => hk.chr (f5 w hw)
  replace fl1 := hk.ob fl1 (by decide)
  have hA := zup_sameE hM44
  refine zaload_n C dX7_init_47 rfl ?_
  refine znew C hw_X7_16 rfl (by omega) (by omega) dX7_init_48 (fun l2 hl20 => ?_)
  refine zdup C dX7_init_51 rfl ?_
  refine zcallI C (l_init zup_same) hy_Jx4a65c_init_da8c8 hi_Jx4a65c_init_da8c8 hl_X7_18 rfl rfl (by decide) (by decide) (by omega) (by omega) rfl (by exact Nat.le_of_ble_eq_true rfl) dX7_init_52 (fun Ml2 hMl2 => ?_)
  rw [zup_up2] at hMl2
  have hk := kp8_new (e := zob 0 [.int 0, .ref (g.2.2.2.1 4), .int 0]) hl20
  rw [← hMl2] at hk
  have d20 : l0 ≠ l2 := znone fl0 hl20
  have d21 : l1 ≠ l2 := znone fl1 hl20
  replace f1 := hk.ob f1 (by decide)
  replace f2 := hk.ac f2
  replace f3 := fun w hw => hk.chr (f3 w hw)
  replace fl0 := hk.ob fl0 (by decide)
  replace f4 := hk.ac f4
  replace f5 := fun w hw => hk.chr (f5 w hw)
  replace fl1 := hk.ob fl1 (by decide)
  have hA := zup_neE hMl2 (znone hA hl20) hA
  have fl2 : Ml2 l2 = some (zob 0 [.int 0, .ref (g.2.2.2.1 4), .int 0]) := by rw [hMl2]; exact zup_same
  refine zputF (fs1 := [_, _, _, _, _, _, _, _, _, _]) C hnm hf_X7_38 hp_X7 rfl rfl hA rfl rfl (by exact Nat.le_of_ble_eq_true rfl) (by rfl) dX7_init_55 ?_
  generalize hM55 : zup _ a (zob 8 _) = M55
  have hk := kp8_putE hA hM55
  replace f1 := hk.ob f1 (by decide)
  replace f2 := hk.ac f2
  replace f3 := fun w hw => hk.chr (f3 w hw)
  replace fl0 := hk.ob fl0 (by decide)
  replace f4 := hk.ac f4
  replace f5 := fun w hw => hk.chr (f5 w hw)
  replace fl1 := hk.ob fl1 (by decide)
  replace fl2 := hk.ob fl2 (by decide)
  have hA := zup_sameE hM55
  refine zaload_n C dX7_init_58 rfl ?_
  refine znew C hw_X7_16 rfl (by omega) (by omega) dX7_init_59 (fun l3 hl30 => ?_)
  refine zdup C dX7_init_62 rfl ?_
  refine zcallI C (l_init zup_same) hy_Jx4a65c_init_da8c8 hi_Jx4a65c_init_da8c8 hl_X7_18 rfl rfl (by decide) (by decide) (by omega) (by omega) rfl (by exact Nat.le_of_ble_eq_true rfl) dX7_init_63 (fun Ml3 hMl3 => ?_)
  rw [zup_up2] at hMl3
  have hk := kp8_new (e := zob 0 [.int 0, .ref (g.2.2.2.1 4), .int 0]) hl30
  rw [← hMl3] at hk
  have d30 : l0 ≠ l3 := znone fl0 hl30
  have d31 : l1 ≠ l3 := znone fl1 hl30
  have d32 : l2 ≠ l3 := znone fl2 hl30
  replace f1 := hk.ob f1 (by decide)
  replace f2 := hk.ac f2
  replace f3 := fun w hw => hk.chr (f3 w hw)
  replace fl0 := hk.ob fl0 (by decide)
  replace f4 := hk.ac f4
  replace f5 := fun w hw => hk.chr (f5 w hw)
  replace fl1 := hk.ob fl1 (by decide)
  replace fl2 := hk.ob fl2 (by decide)
  have hA := zup_neE hMl3 (znone hA hl30) hA
  have fl3 : Ml3 l3 = some (zob 0 [.int 0, .ref (g.2.2.2.1 4), .int 0]) := by rw [hMl3]; exact zup_same
  refine zputF (fs1 := [_, _, _, _, _, _, _, _, _, _]) C hnm hf_X7_41 hp_X7 rfl rfl hA rfl rfl (by exact Nat.le_of_ble_eq_true rfl) (by rfl) dX7_init_66 ?_
  generalize hM66 : zup _ a (zob 8 _) = M66
  have hk := kp8_putE hA hM66
  replace f1 := hk.ob f1 (by decide)
  replace f2 := hk.ac f2
  replace f3 := fun w hw => hk.chr (f3 w hw)
  replace fl0 := hk.ob fl0 (by decide)
  replace f4 := hk.ac f4
  replace f5 := fun w hw => hk.chr (f5 w hw)
  replace fl1 := hk.ob fl1 (by decide)
  replace fl2 := hk.ob fl2 (by decide)
  replace fl3 := hk.ob fl3 (by decide)
  have hA := zup_sameE hM66
  refine zaload_n C dX7_init_69 rfl ?_
  refine zconst (v := 0) C dX7_init_70 (by decide) ?_
  refine zput (fs1 := [_, _, _, _, _, _, _, _, _, _]) C hf_X7_44 hp_X7 rfl hA rfl rfl (by exact Nat.le_of_ble_eq_true rfl) (by rfl) dX7_init_71 ?_
  generalize hM71 : zup _ a (zob 8 _) = M71
  have hk := kp8_putE hA hM71
  replace f1 := hk.ob f1 (by decide)
  replace f2 := hk.ac f2
  replace f3 := fun w hw => hk.chr (f3 w hw)
  replace fl0 := hk.ob fl0 (by decide)
  replace f4 := hk.ac f4
  replace f5 := fun w hw => hk.chr (f5 w hw)
  replace fl1 := hk.ob fl1 (by decide)
  replace fl2 := hk.ob fl2 (by decide)
  replace fl3 := hk.ob fl3 (by decide)
  have hA := zup_sameE hM71
  refine zaload_n C dX7_init_74 rfl ?_
  refine zconst (v := 0) C dX7_init_75 (by decide) ?_
  refine zput (fs1 := [_, _, _, _, _, _, _, _, _, _]) C hf_X7_48 hp_X7 rfl hA rfl rfl (by exact Nat.le_of_ble_eq_true rfl) (by rfl) dX7_init_76 ?_
  generalize hM76 : zup _ a (zob 8 _) = M76
  have hk := kp8_putE hA hM76
  replace f1 := hk.ob f1 (by decide)
  replace f2 := hk.ac f2
  replace f3 := fun w hw => hk.chr (f3 w hw)
  replace fl0 := hk.ob fl0 (by decide)
  replace f4 := hk.ac f4
  replace f5 := fun w hw => hk.chr (f5 w hw)
  replace fl1 := hk.ob fl1 (by decide)
  replace fl2 := hk.ob fl2 (by decide)
  replace fl3 := hk.ob fl3 (by decide)
  have hA := zup_sameE hM76
  refine zaload_n C dX7_init_79 rfl ?_
  refine zconst (v := 0) C dX7_init_80 (by decide) ?_
  refine zput (fs1 := [_, _, _, _, _, _, _, _, _, _]) C hf_X7_51 hp_X7 rfl hA rfl rfl (by exact Nat.le_of_ble_eq_true rfl) (by rfl) dX7_init_81 ?_
  generalize hM81 : zup _ a (zob 8 _) = M81
  have hk := kp8_putE hA hM81
  replace f1 := hk.ob f1 (by decide)
  replace f2 := hk.ac f2
  replace f3 := fun w hw => hk.chr (f3 w hw)
  replace fl0 := hk.ob fl0 (by decide)
  replace f4 := hk.ac f4
  replace f5 := fun w hw => hk.chr (f5 w hw)
  replace fl1 := hk.ob fl1 (by decide)
  replace fl2 := hk.ob fl2 (by decide)
  replace fl3 := hk.ob fl3 (by decide)
  have hA := zup_sameE hM81
  refine zaload_n C dX7_init_84 rfl ?_
  refine zlconst (v := 0) C dX7_init_85 rfl ?_
  refine zput (fs1 := [_, _, _, _, _, _, _, _, _, _]) C hf_X7_54 hp_X7 rfl hA rfl rfl (by exact Nat.le_of_ble_eq_true rfl) (by rfl) dX7_init_86 ?_
  generalize hM86 : zup _ a (zob 8 _) = M86
  have hk := kp8_putE hA hM86
  replace f1 := hk.ob f1 (by decide)
  replace f2 := hk.ac f2
  replace f3 := fun w hw => hk.chr (f3 w hw)
  replace fl0 := hk.ob fl0 (by decide)
  replace f4 := hk.ac f4
  replace f5 := fun w hw => hk.chr (f5 w hw)
  replace fl1 := hk.ob fl1 (by decide)
  replace fl2 := hk.ob fl2 (by decide)
  replace fl3 := hk.ob fl3 (by decide)
  have hA := zup_sameE hM86
  refine zend_v C hE dX7_init_89 (by omega) (by omega) (zP_K0 (q1 := q1) (r7 := r7) (r4 := r4) (cA := fun i => if i < 4 then c4 i else cq (i - 4)) (dA := fun i => if i < 4 then d4 i else dq (i - 4)) (nA := fun i => if i < 4 then n4 i else nq (i - 4)) (lA := fun j => if j = 0 then l0 else if j = 1 then l1 else if j = 2 then l2 else l3) hA f1 ?_ ?_ hr74 ?_ ?_ ?_ ?_)
  · rw [f2]; congr 2; funext w; by_cases h : w < 7
    · simp [h, show 4 + w - 4 = w by omega, show ¬ 4 + w < 4 by omega]
    · simp [h]
  · rw [f4]; congr 2; funext w; by_cases h : w < 4
    · simp [h]
    · simp [h]
  · intro i hi; by_cases h : i < 4
    · simp only [h, if_true]; exact f5 i h
    · simp only [h, if_false]; exact f3 (i - 4) (by omega)
  · intro i j hi hj hij; by_cases h : i < 4 <;> by_cases h2 : j < 4
    · simp only [h, h2, if_true]; exact f5d i j h h2 hij
    · simp only [h, h2, if_true, if_false]; obtain ⟨z1, z2, z3, z4, z5⟩ := x1 (j - 4) i (by omega) h; exact ⟨z1.symm, z2.symm, z3.symm, z5.symm⟩
    · simp only [h, h2, if_true, if_false]; obtain ⟨z1, z2, z3, z4, z5⟩ := x1 (i - 4) j (by omega) h2; exact ⟨z1, z2, z3, z4⟩
    · simp only [h, h2, if_false]; exact f3d (i - 4) (j - 4) (by omega) (by omega) (by omega)
  · intro j hj; have : j = 0 ∨ j = 1 ∨ j = 2 ∨ j = 3 := by omega
    rcases this with rfl | rfl | rfl | rfl
    · exact fl0
    · exact fl1
    · exact fl2
    · exact fl3
  · intro i j hi hj hij; have a1 : i = 0 ∨ i = 1 ∨ i = 2 ∨ i = 3 := by omega
    have a2 : j = 0 ∨ j = 1 ∨ j = 2 ∨ j = 3 := by omega
    rcases a1 with rfl | rfl | rfl | rfl <;> rcases a2 with rfl | rfl | rfl | rfl <;> first | rfl | exact absurd hij d10 | exact absurd hij.symm d10 | exact absurd hij d20 | exact absurd hij.symm d20 | exact absurd hij d21 | exact absurd hij.symm d21 | exact absurd hij d30 | exact absurd hij.symm d30 | exact absurd hij d31 | exact absurd hij.symm d31 | exact absurd hij d32 | exact absurd hij.symm d32
