def zS0 : zS := (fun _ => 0, 0, fun _ _ => 0, fun _ _ => 0)
def zsk (d j : Nat) : Bool := decide (d ≤ j) && decide (j < 48) && decide (2 ≤ (zkd j).1) && (List.range 48).all fun i => decide (i < d) || decide (j ≤ i) || decide ((zkd i).1 < 2)
theorem zsk_of {d j : Nat} (h : zsk d j = true) : d ≤ j ∧ j < 48 ∧ 2 ≤ (zkd j).1 ∧ ∀ i, d ≤ i → i < j → (zkd i).1 < 2 := by
  unfold zsk at h
  simp only [Bool.and_eq_true, decide_eq_true_eq, List.all_eq_true, List.mem_range, Bool.or_eq_true] at h
  obtain ⟨⟨⟨h1, h2⟩, h3⟩, h4⟩ := h
  refine ⟨h1, h2, h3, fun i hi hj => ?_⟩
  have := h4 i (by omega)
  omega
section ZMI
variable {g : zGh} {X : zX} {cc : ByteArray} {nL fr lc mc ms : Nat} {M0 M : zM} {mo : Nat} {ad : Nat → Nat} {k n pc d : Nat} {L : List (Option Value)} {st : List Value} {idx j N : Nat}
end ZMI
