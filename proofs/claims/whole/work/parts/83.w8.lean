theorem zst_tx : zTX.all (fun q => decide (Cond.stringRef q.1 q.2.1 q.2.2 ∈ lw_tbl) && decide (Cond.exactly (.string q.1 q.2.1) "java/lang/String" ∈ zFl)) = true := by decide +kernel
theorem zst_all : ∀ {N : Nat} {P : Nat → Cond}, (List.range N).all (fun j => decide (P j ∈ zFl)) = true → ∀ j, j < N → P j ∈ zFl := by
  intro N P h j hj
  have := List.all_eq_true.mp h j (List.mem_range.mpr hj)
  exact of_decide_eq_true this
set_option maxRecDepth 100000 in
theorem zstart {s : State} {b : Nat} {l : Launch} (hl : l.stackTraces = false) (hts : ∀ w ∈ lw_tbl, w.before #[Value.ref b] s = true) (hgv : (Jvm.Cond.and given_1 narrow_1).before #[Value.ref b] s = true) : ∃ g : zGh, g.1 = s.heap.size ∧ g.2.2.2.2 = l ∧ zTS g s s.heap ∧ zNc s := by
  have hs : ∀ c ∈ zFl, c.before #[Value.ref b] s = true := flat_of_before _ hgv
  obtain ⟨D, hD⟩ := zst_cls hts
  obtain ⟨ids, hids⟩ := zst_arr hts
  have hA : ∀ a : Nat, a < s.heap.size → ¬ (fun q : Nat => s.heap.size ≤ q) a := fun a h => Nat.not_le.mpr h
  have iM : (Cond.initialized "Milletcourt").before #[Value.ref b] s = true := hts _ (lwt (i := 64) (by decide +kernel))
  have iA : (Cond.initialized "java/util/ArrayList").before #[Value.ref b] s = true := hts _ (lwt (i := 69) (by decide +kernel))
  have iT : (Cond.initialized "java/lang/Throwable").before #[Value.ref b] s = true := hts _ (lwt (i := 71) (by decide +kernel))
  obtain ⟨t0, z0, y0⟩ := zst_sta (C := "Milletcourt") (nm := "LAWS_AT_FIRST") (d := "[I") (N := 7) (f := zLF) hA (by decide) (hts _ (lwt (i := 103) (by decide +kernel))) iM (hs _ (by decide +kernel)) (hs _ (by decide +kernel)) (fun j hj => hs _ (zst_all (N := 7) (P := fun j => Cond.eq (.elem (.static "Milletcourt" "LAWS_AT_FIRST" "[I") (.int (Int32.ofNat j))) (.int (zLF j))) (by decide +kernel) j hj))
  obtain ⟨t1, z1, y1⟩ := zst_sta (C := "Milletcourt") (nm := "LAWS_LOWEST") (d := "[I") (N := 7) (f := zLL) hA (by decide) (hts _ (lwt (i := 455) (by decide +kernel))) iM (hs _ (by decide +kernel)) (hs _ (by decide +kernel)) (fun j hj => hs _ (zst_all (N := 7) (P := fun j => Cond.eq (.elem (.static "Milletcourt" "LAWS_LOWEST" "[I") (.int (Int32.ofNat j))) (.int (zLL j))) (by decide +kernel) j hj))
  obtain ⟨t2, z2, y2⟩ := zst_sta (C := "Milletcourt") (nm := "LAWS_HIGHEST") (d := "[I") (N := 7) (f := zLH) hA (by decide) (hts _ (lwt (i := 457) (by decide +kernel))) iM (hs _ (by decide +kernel)) (hs _ (by decide +kernel)) (fun j hj => hs _ (zst_all (N := 7) (P := fun j => Cond.eq (.elem (.static "Milletcourt" "LAWS_HIGHEST" "[I") (.int (Int32.ofNat j))) (.int (zLH j))) (by decide +kernel) j hj))
  obtain ⟨t3, z3, y3⟩ := zst_sta (C := "Milletcourt") (nm := "RULES_AT_FIRST") (d := "[I") (N := 4) (f := zRF) hA (by decide) (hts _ (lwt (i := 157) (by decide +kernel))) iM (hs _ (by decide +kernel)) (hs _ (by decide +kernel)) (fun j hj => hs _ (zst_all (N := 4) (P := fun j => Cond.eq (.elem (.static "Milletcourt" "RULES_AT_FIRST" "[I") (.int (Int32.ofNat j))) (.int (zRF j))) (by decide +kernel) j hj))
  obtain ⟨t4, e4, y4⟩ := va_Tof (tm := .static "java/util/ArrayList" "DEFAULTCAPACITY_EMPTY_ELEMENTDATA" "[Ljava/lang/Object;") (ty := .object "java/lang/Object") (N := 0) (f := fun _ => .null) (A := fun q : Nat => s.heap.size ≤ q) (by decide) (hs (.arrayOf (.static "java/util/ArrayList" "DEFAULTCAPACITY_EMPTY_ELEMENTDATA" "[Ljava/lang/Object;") (.object "java/lang/Object")) (by decide +kernel)) (Cond.eq_int (hs (.eq (.length (.static "java/util/ArrayList" "DEFAULTCAPACITY_EMPTY_ELEMENTDATA" "[Ljava/lang/Object;")) (.int 0)) (by decide +kernel)) rfl) (fun j hj => absurd hj (Nat.not_lt_zero j)) hA
  have z4 := va_Zref (hts (.laysStatic "java/util/ArrayList" "DEFAULTCAPACITY_EMPTY_ELEMENTDATA" "[Ljava/lang/Object;") (lwt (i := 143) (by decide +kernel))) iA e4 hA
  obtain ⟨mi, hmi⟩ := va_Mi.of (hs (.isRef (.mirror "[Ljava/lang/Object;")) (by decide +kernel))
  have q1 := vx_Zqof (C := Bundle.tN) (n := "UNASSIGNED_STACK") (d := Bundle.steD) (hts (.laysStatic "java/lang/Throwable" "UNASSIGNED_STACK" "[Ljava/lang/StackTraceElement;") (lwt (i := 252) (by decide +kernel))) iT (hs (.isRef (.static "java/lang/Throwable" "UNASSIGNED_STACK" "[Ljava/lang/StackTraceElement;")) (by decide +kernel)) hA
  have q2 := vx_Zqof (C := Bundle.tN) (n := "SUPPRESSED_SENTINEL") (d := Bundle.listD) (hts (.laysStatic "java/lang/Throwable" "SUPPRESSED_SENTINEL" "Ljava/util/List;") (lwt (i := 254) (by decide +kernel))) iT (hs (.isRef (.static "java/lang/Throwable" "SUPPRESSED_SENTINEL" "Ljava/util/List;")) (by decide +kernel)) hA
  refine ⟨(s.heap.size, D, ids, fun i => [t0, t1, t2, t3, t4, mi].getD i 0, l), rfl, rfl, ⟨⟨hD, hids⟩, fun w hw hk => va_Nw.of (zKW_on hk) (hts w hw), ⟨⟨q1, q2⟩, ⟨⟨z0, y0⟩, ⟨z1, y1⟩, ⟨z2, y2⟩, z3, y3⟩, z4, y4⟩, hl, hmi, ⟨va_AO.of (A := #[Value.ref b]) (hts (.arrayOver (.object "java/lang/Object")) (lwt (i := 362) (by decide +kernel))), va_AO.of (A := #[Value.ref b]) (hts (.arrayOver (.object "Milletcourt$Chronicle")) (lwt (i := 108) (by decide +kernel)))⟩, fun q hq => ?_⟩, ?_⟩
  · have h := List.all_eq_true.mp zst_tx q hq
    simp only [Bool.and_eq_true, decide_eq_true_eq] at h
    obtain ⟨a, -, -, -, h1, -⟩ := Cond.exactly_spec (hs _ h.2)
    exact ⟨a, vk_R.of (A := #[Value.ref b]) (hts _ h.1) h1⟩
  · intro E hE F hF hne
    have h3 : (zE3.all fun E => zE3.all fun F => decide (E = F) || decide (Cond.not (.castable E F) ∈ zFl)) = true := by decide +kernel
    have h4 := List.all_eq_true.mp (List.all_eq_true.mp h3 E hE) F hF
    simp only [Bool.or_eq_true, decide_eq_true_eq] at h4
    exact va_Nc.of (hs _ (h4.resolve_left hne))
