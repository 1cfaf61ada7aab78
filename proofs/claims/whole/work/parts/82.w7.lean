/-! what the Statement gives of the start, as the methods' contracts want it -/
theorem zKW_on {w : Cond} (h : zKW w = true) : w.onTables = true := by
  cases w <;> first | rfl | exact absurd h (by simp [zKW])
theorem lwt {i : Nat} {w : Cond} (h : lw_tbl[i]? = some w) : w ∈ lw_tbl := List.mem_of_getElem? h
abbrev zFl : List Cond := flatC (Jvm.Cond.and given_1 narrow_1)
section ZST
variable {s : State} {b : Nat}
theorem zst_cls (hts : ∀ w ∈ lw_tbl, w.before #[Value.ref b] s = true) : ∃ D : va_G, ∀ (k : Nat) (q : vw_C), vwCl[k]? = some q → u_Kn s q.1 q.2.1 q.2.2 (D.1 k) (D.2 k) := by
  have h : ∀ k : Nat, ∃ x : ClassId × (Nat → Nat), ∀ q : vw_C, vwCl[k]? = some q → u_Kn s q.1 q.2.1 q.2.2 x.1 x.2 := by
    intro k
    have mk : ∀ {C : String} {T : u_T} {N n : Nat}, (∀ w ∈ u_ws C T N, w ∈ GW) → Cond.instantiable C n ∈ GW → ∃ x : ClassId × (Nat → Nat), ∀ q : vw_C, some (C, T, N) = some q → u_Kn s q.1 q.2.1 q.2.2 x.1 x.2 := by
      intro C T N n h1 h2
      obtain ⟨c, i, h⟩ := u_known hts (fun w hw => zGWt (h1 w hw)) (hts _ (zGWt h2))
      exact ⟨(c, i), fun q hq => by cases hq; exact h⟩
    match k with
    | 0 => exact mk hu_Jx4a65c hw_X7_16.2.2.2.2.1
    | 1 => exact mk hu_X0 hw_X7_87.2.2.2.2.1
    | 2 => exact mk hu_X1 hw_X7_69.2.2.2.2.1
    | 3 => exact mk hu_X2 hw_X7_7.2.2.2.2.1
    | 4 => exact mk hu_X3 hw_X7_217.2.2.2.2.1
    | 5 => exact mk hu_X4 hw_X7_128.2.2.2.2.1
    | 6 => exact mk hu_X5 hw_X7_280.2.2.2.2.1
    | 7 => exact mk hu_X6 hw_X7_316.2.2.2.2.1
    | 8 => exact mk hu_X7 hw_L_8.2.2.2.2.1
    | 9 => exact mk hu_X8 hw_L_103.2.2.2.2.1
    | k + 10 => exact ⟨(0, fun _ => 0), fun q hq => by simp [vwCl] at hq⟩
  exact ⟨(fun k => (Classical.choose (h k)).1, fun k => (Classical.choose (h k)).2), fun k q hq => Classical.choose_spec (h k) q hq⟩
theorem zst_arr (hts : ∀ w ∈ lw_tbl, w.before #[Value.ref b] s = true) : ∃ ids : Nat → ClassId, ∀ (k : Nat) (q : ClassId × FieldType), ([(ids 0, .int), (ids 1, .boolean), (ids 2, .long), (ids 3, .object "java/lang/Object"), (ids 4, .object "Milletcourt$Chronicle")] : List (ClassId × FieldType))[k]? = some q → ArrOfT s q.1 q.2 ∧ va_RA s q.1 q.2 := by
  have hO : ∀ {C : String}, (Cond.arrayOver (.object C)).before #[Value.ref b] s = true → ∃ c, ArrOfT s c (.object C) ∧ va_RA s c (.object C) := by
    intro C h
    obtain ⟨comp, c, k, h1, h2, h3, h4, h5⟩ := Cond.arrayOver_spec h
    exact ⟨c, fun n z => ⟨fun k h => (by cases h), k, h3, comp, h4⟩, k, comp, h3, h4, h1, h5⟩
  obtain ⟨c0, k0, p0, a1, a2, a3⟩ := Cond.arrayClass_spec (hts _ (zGWt ha_int))
  obtain ⟨c1, k1, p1, b1, b2, b3⟩ := Cond.arrayClass_spec (hts _ (zGWt ha_boolean))
  obtain ⟨c2, k2, p2, d1, d2, d3⟩ := Cond.arrayClass_spec (hts _ (zGWt ha_long))
  obtain ⟨c3, e1, e2⟩ := hO (hts (.arrayOver (.object "java/lang/Object")) (lwt (i := 362) (by decide +kernel)))
  obtain ⟨c4, f1, f2⟩ := hO (hts (.arrayOver (.object "Milletcourt$Chronicle")) (lwt (i := 108) (by decide +kernel)))
  refine ⟨fun k => [c0, c1, c2, c3, c4].getD k 0, fun k q hq => ?_⟩
  match k, hq with
  | 0, hq => cases hq; exact ⟨fun n z => ⟨fun k h => (by cases h), k0, a2, p0, a3⟩, a1⟩
  | 1, hq => cases hq; exact ⟨fun n z => ⟨fun k h => (by cases h), k1, b2, p1, b3⟩, b1⟩
  | 2, hq => cases hq; exact ⟨fun n z => ⟨fun k h => (by cases h), k2, d2, p2, d3⟩, d1⟩
  | 3, hq => cases hq; exact ⟨e1, e2⟩
  | 4, hq => cases hq; exact ⟨f1, f2⟩
  | k + 5, hq => simp at hq
theorem zst_sta {A : Nat → Prop} (hA : ∀ a : Nat, a < s.heap.size → ¬ A a) {C nm d : String} {N : Nat} {f : Nat → Int32} (hN : N < 2 ^ 31) (hl : (Cond.laysStatic C nm d).before #[Value.ref b] s = true) (hi : (Cond.initialized C).before #[Value.ref b] s = true) (harr : (Cond.arrayOf (.static C nm d) .int).before #[Value.ref b] s = true) (hlen : (Cond.eq (.length (.static C nm d)) (.int (Int32.ofNat N))).before #[Value.ref b] s = true) (hel : ∀ j, j < N → (Cond.eq (.elem (.static C nm d) (.int (Int32.ofNat j))) (.int (f j))).before #[Value.ref b] s = true) : ∃ t : Nat, va_Z C nm d (.ref t) A s s.heap ∧ va_T .int t N (fun j => .int (f j)) A s s.heap := by
  obtain ⟨t, ht, hT⟩ := va_Tof (f := fun j => .int (f j)) hN harr (Cond.eq_int hlen rfl) (fun j hj => Cond.eq_int (hel j hj) rfl) hA
  exact ⟨t, va_Zref hl hi ht hA, hT⟩
end ZST
