/-- the places that a death may change among the rows of ints -/
def dfx (j : Nat) : Bool := [18, 22, 23, 28, 29, 47].contains j
def dF (S A : zS) : Prop := A.1 = (th S 0).1 ∧ A.2.1 = S.2.1 ∧ ∀ j, dfx j = false → A.2.2.1 j = S.2.2.1 j
theorem dF_A {S A : zS} {j : Nat} {f : Nat → Int32} (h : dF S A) (hj : dfx j = true) : dF S (zsA A j f) := by
  refine ⟨h.1, h.2.1, fun i hi => ?_⟩
  rw [zsA_n _ _ _ (by rintro rfl; rw [hj] at hi; exact absurd hi (by decide))]
  exact h.2.2 i hi
theorem dF_L {S A : zS} {j : Nat} {f : Nat → Int64} (h : dF S A) : dF S (zsL A j f) := ⟨h.1, h.2.1, h.2.2⟩
theorem dF_0 {S : zS} {p : Nat} : dF S (dieS0 S p) := dF_A (dF_A (dF_A (⟨rfl, rfl, fun _ _ => rfl⟩ : dF S (th S 0)) rfl) rfl) rfl
theorem dF_p {S A : zS} {m h w : Nat} (hA : dF S A) : dF S (paysS A m h w) := dF_A (dF_L (dF_L hA)) rfl
theorem dF_K {S A : zS} {p k : Nat} (h : dF S A) : dF S (dieK A p k) := by
  unfold dieK
  refine dF_A ?_ rfl
  unfold dieK1
  split
  · exact dF_p (dF_A h rfl)
  · exact dF_A h rfl
theorem dF_D {S A : zS} {p : Nat} (h : dF S A) : ∀ k, dF S (dieL A p k)
  | 0 => h
  | k + 1 => by
    unfold dieL
    split
    · exact dF_K (dF_D h k)
    · exact dF_D h k
theorem dF_T {S A : zS} {p : Nat} (h : dF S A) (ht : iT S p) : iT A p := by
  obtain ⟨t, h1, h2⟩ := ht
  exact ⟨t, h1, by rw [h.2.2 20 rfl]; exact h2⟩
theorem dF_4 {S : zS} {p : Nat} (h : dF S (dieS2 S p)) : dF S (dieS4 S p) := by
  unfold dieS4
  split
  · exact dF_L (dF_L h)
  · exact dF_L h
theorem dF_6 {S : zS} {p : Nat} (h : dF S (dieS5 S p)) : dF S (dieS6 S p) := by
  unfold dieS6
  split
  · exact dF_A h rfl
  · exact h
theorem lawOf_dF {S A : zS} (h : dF S A) (c w d : Int32) : lawOf A c w d = lawOf S c w d := by
  unfold lawOf
  rw [h.2.2 5 rfl, h.2.2 6 rfl, h.2.2 7 rfl, h.2.2 8 rfl, h.1]
  rfl
theorem oneL_at (low : Int32) (r : Nat → Int32) : ∀ n k, oneL low r n k = if k < n then b2i (decide (nI k = low)) else r k
  | 0, k => by simp [oneL]
  | n + 1, k => by
    unfold oneL upd
    by_cases e : k = n
    · subst e
      simp
    · rw [if_neg e, oneL_at low r n k]
      by_cases h : k < n
      · rw [if_pos h, if_pos (by omega)]
      · rw [if_neg h, if_neg (by omega)]
theorem dies_units {S : zS} {p man : Nat} (hm : 1 ≤ man) (hc : (dieS5 S p).1 13 = S.1 13) (h : ¬ lowest (dieS5 S p) = -1) : 0 < units (dieS6 S p) man := by
  obtain ⟨j, hj, h1, h2⟩ := lowL_some _ (Nat.le_refl _) h
  unfold dieS6
  split
  · refine unitsL_pos hm ((dieS5 S p).1 13) j hj ?_
    rw [zsA_s, oneL_at, if_pos (by omega), show lowest (dieS5 S p) = nI j from h2]
    simp [b2i]
  · exact unitsL_pos hm _ j hj h1
theorem ule0 {n : Nat} (hn : n < 2 ^ 31) (h : 0 < n) : ¬ nI n ≤ 0 := by
  rw [show (0 : Int32) = nI 0 from rfl, nI_leI hn (by decide)]
  omega
theorem ule0n {n : Nat} (h : ¬ 0 < n) : nI n ≤ 0 := by
  obtain rfl : n = 0 := by omega
  decide
