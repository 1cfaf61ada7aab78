/-! THE CLAIM OUT OF ONE WALK OF THE LAW'S BODY. Your part is whole_start (and what it stands on); all else here is the same for every law, but numbers. -/
def R_law : String := "MilletcourtLaw"
def lw_P (b : Addr) (xs : List Int32) (args : Array Value) (s : State) : Prop := args = #[.ref b] ∧ s.IntsAt b xs ∧ xs.length ≤ 260 ∧ (Jvm.Cond.and given_1 narrow_1).before args s = true
def lw_Q (_ : Array Value) (s : State) (o : Outcome) (t : State) : Prop := o = .returned (some (.int 1)) ∧ Framed s o t [] 740299 6880728
def lw_Z (below : List Frame) (a : Array Value) (s : State) : State → Prop := fun t => ∃ o, t.status = .running ∧ Ended t below o ∧ lw_Q a s o t
/-- the law's own end, with 1 on the stack, nothing written that was there before, its room as the claim has it -/
theorem lw_ret {p : Program} {l : Launch} {e : Env} {s : State} {m : MethodId} {below : List Frame} {meth : Method} {c : Code} {b : Nat} (hx : p.tables.exec = Jvm.exec) (hb : c.code = code) (hr : meth.sig.returnType = ret) (hlocks : meth.locks = false) {pc : Nat} {H : Heap} {ls : Array Slot} (hdg : decode code pc = .ok (.ireturn, 1)) : W p l e room_1 s m #[Value.ref b] below meth c H [] 740299 6880728 (lw_Z below #[Value.ref b] s) (F0 m pc ls [.int 1]) := by
  intro T hT X
  obtain ⟨fs, hret, hrun, hended, hW, hframe⟩ := X.leave (v := some (.int 1)) (hlocks := hlocks) (fun h => by rw [hr] at h; cases h)
  have hmeth' : T.vm.method? m = some meth := X.method'
  refine ⟨T.setFrames fs, ?_, .returned (some (.int 1)), hrun, hended, rfl, ⟨_, rfl⟩, hW, hframe⟩
  jvm_step X.here [X.here.top, hx, hb, hdg, hmeth', hr, ret, narrow_b1]
  (try refine ⟨rfl, ?_⟩); (try refine ⟨rfl, ?_⟩)
  first | (intro acts; rw [hret _ acts rfl rfl rfl]) | rw [hret _ _ rfl rfl rfl]
  exact Steps.refl _
/-- what holds at the law's entry: the machine, the code, the tables' words (any of lw_tbl by 'hts w (by decide +kernel)'), the script of L ints xs at the cell b, what the Statement gives of the start (any of its parts by flat_of_before) -/
def lw_At (p : Program) (s : State) (m : MethodId) (meth : Method) (c : Code) (b L : Nat) (xs : Nat → Int32) : Prop :=
  p.tables.exec = Jvm.exec ∧ c.code = code ∧ meth.sig.returnType = ret ∧ c.maxLocals = 16 ∧ s.vm.findClass R_law = some m.cls ∧ (∀ w ∈ lw_tbl, w.before #[Value.ref b] s = true) ∧ va_X b L xs s s.heap ∧ b < s.heap.size ∧ meth.locks = false ∧ (Jvm.Cond.and given_1 narrow_1).before #[Value.ref b] s = true
/-! what the Statement gives of the start, as the methods' contracts want it -/
theorem zKW_on {w : Cond} (h : zKW w = true) : w.onTables = true := by
  cases w <;> first | rfl | exact absurd h (by simp [zKW])
theorem lwt {i : Nat} {w : Cond} (h : lw_tbl[i]? = some w) : w ∈ lw_tbl := List.mem_of_getElem? h
abbrev zFl : List Cond := flatC (Jvm.Cond.and given_1 narrow_1)
section ZST
variable {s : State} {b : Nat}
theorem zst_cls (hts : ∀ w ∈ lw_tbl, w.before #[Value.ref b] s = true) : ∃ D : va_G, ∀ (k : Nat) (q : vw_C), vwCl[k]? = some q → u_Kn s q.1 q.2.1 q.2.2 (D.1 k) (D.2 k) := by
  have h : ∀ k : Nat, ∃ x : ClassId × (Nat → Nat), ∀ q : vw_C, vwCl[k]? = some q → u_Kn s q.1 q.2.1 q.2.2 x.1 x.2 := by
    intro k
    have mk : ∀ {C : String} {T : u_T} {N n : Nat}, (∀ w ∈ u_ws C T N, w ∈ GW) → Cond.instantiable C n ∈ GW → ∃ x : ClassId × (Nat → Nat), ∀ q : vw_C, some (C, T, N) = some q → u_Kn s q.1 q.2.1 q.2.2 x.1 x.2 := by
      intro C T N n h1 h2
      obtain ⟨c, i, h⟩ := u_known hts (fun w hw => zGWt (h1 w hw)) (hts _ (zGWt h2))
      exact ⟨(c, i), fun q hq => by cases hq; exact h⟩
    match k with
    | 0 => exact mk hu_Jx4a65c hw_X7_16.2.2.2.2.1
    | 1 => exact mk hu_X0 hw_X7_87.2.2.2.2.1
    | 2 => exact mk hu_X1 hw_X7_69.2.2.2.2.1
    | 3 => exact mk hu_X2 hw_X7_7.2.2.2.2.1
    | 4 => exact mk hu_X3 hw_X7_217.2.2.2.2.1
    | 5 => exact mk hu_X4 hw_X7_128.2.2.2.2.1
    | 6 => exact mk hu_X5 hw_X7_280.2.2.2.2.1
    | 7 => exact mk hu_X6 hw_X7_316.2.2.2.2.1
    | 8 => exact mk hu_X7 hw_L_15.2.2.2.2.1
    | k + 9 => exact ⟨(0, fun _ => 0), fun q hq => by simp [vwCl] at hq⟩
  exact ⟨(fun k => (Classical.choose (h k)).1, fun k => (Classical.choose (h k)).2), fun k q hq => Classical.choose_spec (h k) q hq⟩
theorem zst_arr (hts : ∀ w ∈ lw_tbl, w.before #[Value.ref b] s = true) : ∃ ids : Nat → ClassId, ∀ (k : Nat) (q : ClassId × FieldType), ([(ids 0, .int), (ids 0, .int), (ids 0, .int), (ids 3, .object "java/lang/Object"), (ids 4, .object "Milletcourt$Chronicle")] : List (ClassId × FieldType))[k]? = some q → ArrOfT s q.1 q.2 ∧ va_RA s q.1 q.2 := by
  have hO : ∀ {C : String}, (Cond.arrayOver (.object C)).before #[Value.ref b] s = true → ∃ c, ArrOfT s c (.object C) ∧ va_RA s c (.object C) := by
    intro C h
    obtain ⟨comp, c, k, h1, h2, h3, h4, h5⟩ := Cond.arrayOver_spec h
    exact ⟨c, fun n z => ⟨fun k h => (by cases h), k, h3, comp, h4⟩, k, comp, h3, h4, h1, h5⟩
  obtain ⟨c0, k0, p0, a1, a2, a3⟩ := Cond.arrayClass_spec (hts _ (zGWt ha_int))
  obtain ⟨c3, e1, e2⟩ := hO (hts (.arrayOver (.object "java/lang/Object")) (lwt (i := 296) (by decide +kernel)))
  obtain ⟨c4, f1, f2⟩ := hO (hts (.arrayOver (.object "Milletcourt$Chronicle")) (lwt (i := 70) (by decide +kernel)))
  refine ⟨fun k => [c0, c0, c0, c3, c4].getD k 0, fun k q hq => ?_⟩
  match k, hq with
  | 0, hq => cases hq; exact ⟨fun n z => ⟨fun k h => (by cases h), k0, a2, p0, a3⟩, a1⟩
  | 1, hq => cases hq; exact ⟨fun n z => ⟨fun k h => (by cases h), k0, a2, p0, a3⟩, a1⟩
  | 2, hq => cases hq; exact ⟨fun n z => ⟨fun k h => (by cases h), k0, a2, p0, a3⟩, a1⟩
  | 3, hq => cases hq; exact ⟨e1, e2⟩
  | 4, hq => cases hq; exact ⟨f1, f2⟩
  | k + 5, hq => simp at hq
theorem zst_sta {A : Nat → Prop} (hA : ∀ a : Nat, a < s.heap.size → ¬ A a) {C nm d : String} {N : Nat} {f : Nat → Int32} (hN : N < 2 ^ 31) (hl : (Cond.laysStatic C nm d).before #[Value.ref b] s = true) (hi : (Cond.initialized C).before #[Value.ref b] s = true) (harr : (Cond.arrayOf (.static C nm d) .int).before #[Value.ref b] s = true) (hlen : (Cond.eq (.length (.static C nm d)) (.int (Int32.ofNat N))).before #[Value.ref b] s = true) (hel : ∀ j, j < N → (Cond.eq (.elem (.static C nm d) (.int (Int32.ofNat j))) (.int (f j))).before #[Value.ref b] s = true) : ∃ t : Nat, va_Z C nm d (.ref t) A s s.heap ∧ va_T .int t N (fun j => .int (f j)) A s s.heap := by
  obtain ⟨t, ht, hT⟩ := va_Tof (f := fun j => .int (f j)) hN harr (Cond.eq_int hlen rfl) (fun j hj => Cond.eq_int (hel j hj) rfl) hA
  exact ⟨t, va_Zref hl hi ht hA, hT⟩
end ZST
theorem zst_tx : zTX.all (fun q => decide (Cond.stringRef q.1 q.2.1 q.2.2 ∈ lw_tbl) && decide (Cond.exactly (.string q.1 q.2.1) "java/lang/String" ∈ zFl)) = true := by decide +kernel
theorem zst_all : ∀ {N : Nat} {P : Nat → Cond}, (List.range N).all (fun j => decide (P j ∈ zFl)) = true → ∀ j, j < N → P j ∈ zFl := by
  intro N P h j hj
  have := List.all_eq_true.mp h j (List.mem_range.mpr hj)
  exact of_decide_eq_true this
set_option maxRecDepth 100000 in
theorem zstart {s : State} {b : Nat} {l : Launch} (hl : l.stackTraces = false) (hts : ∀ w ∈ lw_tbl, w.before #[Value.ref b] s = true) (hgv : (Jvm.Cond.and given_1 narrow_1).before #[Value.ref b] s = true) : ∃ g : zGh, g.1 = s.heap.size ∧ g.2.2.2.2 = l ∧ zTS g s s.heap ∧ zNc s := by
  have hs : ∀ c ∈ zFl, c.before #[Value.ref b] s = true := flat_of_before _ hgv
  obtain ⟨D, hD⟩ := zst_cls hts
  obtain ⟨ids, hids⟩ := zst_arr hts
  have hA : ∀ a : Nat, a < s.heap.size → ¬ (fun q : Nat => s.heap.size ≤ q) a := fun a h => Nat.not_le.mpr h
  have iM : (Cond.initialized "Milletcourt").before #[Value.ref b] s = true := hts _ (lwt (i := 27) (by decide +kernel))
  have iA : (Cond.initialized "java/util/ArrayList").before #[Value.ref b] s = true := hts _ (lwt (i := 32) (by decide +kernel))
  have iT : (Cond.initialized "java/lang/Throwable").before #[Value.ref b] s = true := hts _ (lwt (i := 33) (by decide +kernel))
  obtain ⟨t0, z0, y0⟩ := zst_sta (C := "Milletcourt") (nm := "LAWS_AT_FIRST") (d := "[I") (N := 7) (f := zLF) hA (by decide) (hts _ (lwt (i := 65) (by decide +kernel))) iM (hs _ (by decide +kernel)) (hs _ (by decide +kernel)) (fun j hj => hs _ (zst_all (N := 7) (P := fun j => Cond.eq (.elem (.static "Milletcourt" "LAWS_AT_FIRST" "[I") (.int (Int32.ofNat j))) (.int (zLF j))) (by decide +kernel) j hj))
  obtain ⟨t1, z1, y1⟩ := zst_sta (C := "Milletcourt") (nm := "LAWS_LOWEST") (d := "[I") (N := 7) (f := zLL) hA (by decide) (hts _ (lwt (i := 539) (by decide +kernel))) iM (hs _ (by decide +kernel)) (hs _ (by decide +kernel)) (fun j hj => hs _ (zst_all (N := 7) (P := fun j => Cond.eq (.elem (.static "Milletcourt" "LAWS_LOWEST" "[I") (.int (Int32.ofNat j))) (.int (zLL j))) (by decide +kernel) j hj))
  obtain ⟨t2, z2, y2⟩ := zst_sta (C := "Milletcourt") (nm := "LAWS_HIGHEST") (d := "[I") (N := 7) (f := zLH) hA (by decide) (hts _ (lwt (i := 541) (by decide +kernel))) iM (hs _ (by decide +kernel)) (hs _ (by decide +kernel)) (fun j hj => hs _ (zst_all (N := 7) (P := fun j => Cond.eq (.elem (.static "Milletcourt" "LAWS_HIGHEST" "[I") (.int (Int32.ofNat j))) (.int (zLH j))) (by decide +kernel) j hj))
  obtain ⟨t3, z3, y3⟩ := zst_sta (C := "Milletcourt") (nm := "RULES_AT_FIRST") (d := "[I") (N := 4) (f := zRF) hA (by decide) (hts _ (lwt (i := 119) (by decide +kernel))) iM (hs _ (by decide +kernel)) (hs _ (by decide +kernel)) (fun j hj => hs _ (zst_all (N := 4) (P := fun j => Cond.eq (.elem (.static "Milletcourt" "RULES_AT_FIRST" "[I") (.int (Int32.ofNat j))) (.int (zRF j))) (by decide +kernel) j hj))
  obtain ⟨t4, e4, y4⟩ := va_Tof (tm := .static "java/util/ArrayList" "DEFAULTCAPACITY_EMPTY_ELEMENTDATA" "[Ljava/lang/Object;") (ty := .object "java/lang/Object") (N := 0) (f := fun _ => .null) (A := fun q : Nat => s.heap.size ≤ q) (by decide) (hs (.arrayOf (.static "java/util/ArrayList" "DEFAULTCAPACITY_EMPTY_ELEMENTDATA" "[Ljava/lang/Object;") (.object "java/lang/Object")) (by decide +kernel)) (Cond.eq_int (hs (.eq (.length (.static "java/util/ArrayList" "DEFAULTCAPACITY_EMPTY_ELEMENTDATA" "[Ljava/lang/Object;")) (.int 0)) (by decide +kernel)) rfl) (fun j hj => absurd hj (Nat.not_lt_zero j)) hA
  have z4 := va_Zref (hts (.laysStatic "java/util/ArrayList" "DEFAULTCAPACITY_EMPTY_ELEMENTDATA" "[Ljava/lang/Object;") (lwt (i := 105) (by decide +kernel))) iA e4 hA
  obtain ⟨mi, hmi⟩ := va_Mi.of (hs (.isRef (.mirror "[Ljava/lang/Object;")) (by decide +kernel))
  have q1 := vx_Zqof (C := Bundle.tN) (n := "UNASSIGNED_STACK") (d := Bundle.steD) (hts (.laysStatic "java/lang/Throwable" "UNASSIGNED_STACK" "[Ljava/lang/StackTraceElement;") (lwt (i := 187) (by decide +kernel))) iT (hs (.isRef (.static "java/lang/Throwable" "UNASSIGNED_STACK" "[Ljava/lang/StackTraceElement;")) (by decide +kernel)) hA
  have q2 := vx_Zqof (C := Bundle.tN) (n := "SUPPRESSED_SENTINEL") (d := Bundle.listD) (hts (.laysStatic "java/lang/Throwable" "SUPPRESSED_SENTINEL" "Ljava/util/List;") (lwt (i := 189) (by decide +kernel))) iT (hs (.isRef (.static "java/lang/Throwable" "SUPPRESSED_SENTINEL" "Ljava/util/List;")) (by decide +kernel)) hA
  refine ⟨(s.heap.size, D, ids, fun i => [t0, t1, t2, t3, t4, mi].getD i 0, l), rfl, rfl, ⟨⟨hD, hids⟩, fun w hw hk => va_Nw.of (zKW_on hk) (hts w hw), ⟨⟨q1, q2⟩, ⟨⟨z0, y0⟩, ⟨z1, y1⟩, ⟨z2, y2⟩, z3, y3⟩, z4, y4⟩, hl, hmi, ⟨va_AO.of (A := #[Value.ref b]) (hts (.arrayOver (.object "java/lang/Object")) (lwt (i := 296) (by decide +kernel))), va_AO.of (A := #[Value.ref b]) (hts (.arrayOver (.object "Milletcourt$Chronicle")) (lwt (i := 70) (by decide +kernel)))⟩, fun q hq => ?_⟩, ?_⟩
  · have h := List.all_eq_true.mp zst_tx q hq
    simp only [Bool.and_eq_true, decide_eq_true_eq] at h
    obtain ⟨a, -, -, -, h1, -⟩ := Cond.exactly_spec (hs _ h.2)
    exact ⟨a, vk_R.of (A := #[Value.ref b]) (hts _ h.1) h1⟩
  · intro E hE F hF hne
    have h3 : (zE3.all fun E => zE3.all fun F => decide (E = F) || decide (Cond.not (.castable E F) ∈ zFl)) = true := by decide +kernel
    have h4 := List.all_eq_true.mp (List.all_eq_true.mp h3 E hE) F hF
    simp only [Bool.or_eq_true, decide_eq_true_eq] at h4
    exact va_Nc.of (hs _ (h4.resolve_left hne))
