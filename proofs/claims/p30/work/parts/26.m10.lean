def pendL (r : Nat → Int32) : Nat → Nat
  | 0 => 0
  | k + 1 => pendL r k + (if r k = -1 then 0 else 1)
/-- what a person has taken and what all have still to turn are together no more than B -/
def iTB (S : zS) (B : Nat) : Prop := ∀ k, k < S.1 13 → ∃ t, S.2.2.1 20 k = nI (t + 1) ∧ t + pendL (S.2.2.1 23) (S.1 13) ≤ B
def dayS (A : zS) : zS := zsN A 1 (A.1 1 + 1)
def dayL (A : zS) : Nat → zS
  | 0 => A
  | k + 1 => if (dayL A k).2.2.1 23 k = nI ((dayL A k).1 1) then turnsS (dayL A k) k else dayL A k
def dayK (A : zS) : zS := dayL (dayS A) (A.1 13)
def passL (A : zS) : Nat → zS
  | 0 => A
  | k + 1 => dayK (passL A k)
def o_pass (S : zS) (k : Int32) : zS × Int32 :=
  if rng k 1 2000 = false then (th S 1, 0) else if ¬ (nI (S.1 1) + k ≤ 30000) then (th S 2, 0)
  else (passL (th S 0) k.toNatClampNeg, nI ((passL (th S 0) k.toNatClampNeg).1 1))
def pQ (S A : zS) (B d : Nat) : Prop := A.1 13 = S.1 13 ∧ A.1 1 = S.1 1 + d ∧ A.2.2.1 15 = S.2.2.1 15 ∧ A.2.2.1 16 = S.2.2.1 16 ∧ iTB A B
theorem pend_pos {r : Nat → Int32} : ∀ {n k : Nat}, k < n → ¬ r k = -1 → 0 < pendL r n
  | n + 1, k, hk, h => by
    unfold pendL
    by_cases e : k = n
    · subst e
      rw [if_neg h]
      omega
    · have := pend_pos (n := n) (by omega) h
      omega
theorem pend_out {r : Nat → Int32} {p : Nat} {v : Int32} : ∀ {n : Nat}, n ≤ p → pendL (upd r p v) n = pendL r n
  | 0, _ => rfl
  | n + 1, h => by
    unfold pendL
    rw [pend_out (by omega), show upd r p v n = r n from if_neg (by omega)]
theorem pend_upd {r : Nat → Int32} {p : Nat} : ∀ {n : Nat}, p < n → ¬ r p = -1 → pendL (upd r p (-1)) n + 1 = pendL r n
  | n + 1, h, hr => by
    unfold pendL
    by_cases e : p = n
    · subst e
      rw [pend_out (Nat.le_refl _), if_neg hr]
      simp [upd]
    · have := pend_upd (n := n) (by omega) hr
      rw [show upd r p (-1) n = r n from if_neg (by omega)]
      omega
theorem nIm1 {n : Nat} (h : n < 2 ^ 31) : ¬ nI n = -1 := fun e => by
  have h1 := congrArg Int32.toInt e
  rw [nI_toInt h, show (-1 : Int32).toInt = -1 from rfl] at h1
  omega
theorem turnL_20 (p : Nat) (its : Int32) (T : zS) (k : Nat) : ∀ i, (turnL p its T i).2.2.1 20 k = T.2.2.1 20 k ∨ (k ≠ p ∧ k < i ∧ (turnL p its T i).2.2.1 20 k = T.2.2.1 20 k + 1)
  | 0 => Or.inl rfl
  | i + 1 => by
    have g := turnK_f p its (turnL p its T i) i
    have g5 := (turnL_f p its T i).2.2.2.2
    by_cases e : k = i
    · subst e
      have h0 := g5 k (Nat.le_refl _)
      unfold turnL turnK
      split
      · rename_i hc
        refine Or.inr ⟨hc.1, by omega, ?_⟩
        rw [← h0]
        simp [takesS, zsA_g, upd]
      · exact Or.inl h0
    · have h1 : (turnL p its T (i + 1)).2.2.1 20 k = (turnL p its T i).2.2.1 20 k := g.2.2.2.2 k e
      rw [h1]
      rcases turnL_20 p its T k i with h | ⟨a, b, c⟩
      · exact Or.inl h
      · exact Or.inr ⟨a, by omega, c⟩
theorem turn1_20 {S : zS} {p t : Nat} {its : Int32} (h : S.2.2.1 20 p = nI (t + 1)) : ((turn1 S p t its).2.2.1 20 p = nI t ∧ 1 ≤ t) ∨ (turn1 S p t its).2.2.1 20 p = nI (t + 2) := by
  unfold turn1
  split
  · rename_i hu
    refine Or.inl ⟨by simp [zsA_g, upd], ?_⟩
    unfold undoB at hu
    simp only [Bool.and_eq_true, decide_eq_true_eq] at hu
    exact hu.1
  · refine Or.inr ?_
    simp only [takesS, zsA_g, upd]
    simp [h, nI_1]
    exact if_pos rfl
theorem pQ_D {S A : zS} {B d : Nat} (h : pQ S A B d) : pQ S (dayS A) B (d + 1) := ⟨h.1, by show A.1 1 + 1 = _; rw [h.2.1]; omega, h.2.2.1, h.2.2.2.1, h.2.2.2.2⟩
theorem pQ_T {S A : zS} {B d p : Nat} (h : pQ S A B d) (hp : p < S.1 13) (hB : B ≤ 1022) (hn : ¬ A.2.2.1 23 p = -1) : pQ S (turnsS A p) B d := by
  obtain ⟨a1, a2, a3, a4, a5⟩ := h
  obtain ⟨t, et, ht⟩ := a5 p (by omega)
  have hft : fT (staysS A p) p = t := fT_eq (by omega) et
  have e : turnsS A p = turnL p (A.2.2.1 22 p) (turn1 (staysS A p) p t (A.2.2.1 22 p)) (A.1 13) := by
    show turnL p (A.2.2.1 22 p) (turn1 (staysS A p) p (fT (staysS A p) p) (A.2.2.1 22 p)) (A.1 13) = _
    rw [hft]
  rw [e]
  obtain ⟨b1, b2, b3, b4, b5⟩ := turn1_f (staysS A p) p t (A.2.2.1 22 p)
  obtain ⟨c1, c2, c3, c4, c5⟩ := turnL_f p (A.2.2.1 22 p) (turn1 (staysS A p) p t (A.2.2.1 22 p)) (A.1 13)
  have e1 := c1.trans b1
  have s23 : (staysS A p).2.2.1 23 = upd (A.2.2.1 23) p (-1) := rfl
  have e13 : (turnL p (A.2.2.1 22 p) (turn1 (staysS A p) p t (A.2.2.1 22 p)) (A.1 13)).1 13 = A.1 13 := congrFun e1 13
  refine ⟨e13.trans a1, (congrFun e1 1).trans a2, ((c4 15 (by decide) (by decide) (by decide)).trans (b4 15 (by decide) (by decide))).trans a3, ((c4 16 (by decide) (by decide) (by decide)).trans (b4 16 (by decide) (by decide))).trans a4, ?_⟩
  intro k hk
  rw [e13] at hk ⊢
  rw [(c4 23 (by decide) (by decide) (by decide)).trans (b4 23 (by decide) (by decide)), s23]
  have hpu := pend_upd (n := A.1 13) (by omega) hn
  rcases turnL_20 p (A.2.2.1 22 p) (turn1 (staysS A p) p t (A.2.2.1 22 p)) k (A.1 13) with h1 | ⟨h0, _, h1⟩
  · rw [h1]
    by_cases ek : k = p
    · subst ek
      rcases turn1_20 (S := staysS A k) (its := A.2.2.1 22 k) et with ⟨h2, h3⟩ | h2
      · exact ⟨t - 1, by rw [h2, show t - 1 + 1 = t by omega], by omega⟩
      · exact ⟨t + 1, h2, by omega⟩
    · obtain ⟨u, eu, hu⟩ := a5 k hk
      exact ⟨u, (b5 k ek).trans eu, by omega⟩
  · rw [h1]
    obtain ⟨u, eu, hu⟩ := a5 k hk
    exact ⟨u + 1, by rw [b5 k h0, show (staysS A p).2.2.1 20 k = nI (u + 1) from eu, nI_1], by omega⟩
theorem pass_le {a b : Nat} (h : nI a + nI b ≤ 30000) (ha : a < 2 ^ 30) (hb : b < 2 ^ 30) : a + b ≤ 30000 := by
  rw [nI_add, show (30000 : Int32) = nI 30000 from rfl, nI_leI (by omega) (by decide)] at h
  exact h
