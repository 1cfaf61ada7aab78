/-! the law's loop -/
def b30 (i : Nat) : Nat := 2000 + 200 * i + 12288 * (i / 16) + 4200 * ((i + 1) / 5) + 1400 * ((i + 1) / 6) + 400 * ((i + 1) / 9)
def s30 (i : Nat) : Nat := 20000 + 12000 * i + 73728 * (i / 16) + 25200 * ((i + 1) / 5) + 8400 * ((i + 1) / 6) + 26000 * ((i + 1) / 9)
/-- what holds at the loop's head -/
def zI30 (T : Nat → Int → zK → zK → Prop) (g : zGh) (x y i : Nat) (td : Int32) (br : Int64) (M : zM) (k m : Nat) : Prop :=
  ∃ n Ko Kp ao ap, zW2 g Ko Kp ao ap M ∧ ao (0, 0) = x ∧ ap (0, 0) = y ∧ T n br.toInt Ko Kp ∧ td = nI (Ko.1 1) ∧ 4 ≤ Ko.1 2 ∧ 8 ≤ Ko.1 13 ∧ n ≤ 15 + 3 * i ∧ k ≤ b30 i + cF Ko + cF Kp ∧ m ≤ s30 i + 4 * cF Ko + 4 * cF Kp
theorem dcC_le {K : zK} {j : Nat} {a b c d : Int32} (h : cF K ≤ cF (dS K j a b c d)) (hj : j ≤ 24) : dcC K j a + cF K ≤ 100 + cF (dS K j a b c d) ∧ dcS K j a + 4 * cF K ≤ 6000 + 4 * cF (dS K j a b c d) := by
  unfold dcC dcS
  by_cases e : j = 4 ∨ j = 5 ∨ j = 9 ∨ (20 ≤ j ∧ j ≤ 23)
  · rw [if_pos e, if_pos e]; omega
  · rw [if_neg e, if_neg e]
    by_cases e2 : j < 24
    · rw [if_pos e2, if_pos e2]; omega
    · rw [if_neg e2, if_neg e2]
      obtain rfl : j = 24 := by omega
      by_cases ex : x_pass K a = 0
      · rw [if_pos ex, if_pos ex]
        have e3 : dS K 24 a b c d = psK K a.toNatClampNeg := if_pos ex
        rw [e3] at h ⊢
        omega
      · rw [if_neg ex, if_neg ex]; omega
theorem actT_f (v : Int32) : (actT v).1 ≤ 24 ∧ ((actT v).1 = 1 ∨ (actT v).1 = 2 ∨ (actT v).1 = 3 ∨ (actT v).1 = 6 ∨ (actT v).1 = 7 ∨ (actT v).1 = 8 ∨ (10 ≤ (actT v).1 ∧ (actT v).1 ≤ 19) ∨ (actT v).1 = 24) ∧ ((actT v).1 = 12 → (29 : Int32) < aHow v ∧ aHow v < 38) ∧ (¬ (actT v).1 = 12 → ¬ (¬ aHow v ≤ 29 ∧ ¬ (38 : Int32) ≤ aHow v)) ∧ ((actT v).1 = 24 → ¬ aHow v ≤ 59) ∧ (¬ (actT v).1 = 24 → aHow v ≤ 59) := by
  have le : ∀ q : Int32, q ≤ aHow v ↔ q.toInt ≤ (aHow v).toInt := fun q => Int32.le_iff_toInt_le
  have le2 : ∀ q : Int32, aHow v ≤ q ↔ (aHow v).toInt ≤ q.toInt := fun q => Int32.le_iff_toInt_le
  have lt : ∀ q : Int32, q < aHow v ↔ q.toInt < (aHow v).toInt := fun q => Int32.lt_iff_toInt_lt
  have lt2 : ∀ q : Int32, aHow v < q ↔ (aHow v).toInt < q.toInt := fun q => Int32.lt_iff_toInt_lt
  have c5 : (5 : Int32).toInt = 5 := rfl
  have c7 : (7 : Int32).toInt = 7 := rfl
  have c8 : (8 : Int32).toInt = 8 := rfl
  have c12 : (12 : Int32).toInt = 12 := rfl
  have c18 : (18 : Int32).toInt = 18 := rfl
  have c20 : (20 : Int32).toInt = 20 := rfl
  have c26 : (26 : Int32).toInt = 26 := rfl
  have c29 : (29 : Int32).toInt = 29 := rfl
  have c30 : (30 : Int32).toInt = 30 := rfl
  have c38 : (38 : Int32).toInt = 38 := rfl
  have c40 : (40 : Int32).toInt = 40 := rfl
  have c44 : (44 : Int32).toInt = 44 := rfl
  have c46 : (46 : Int32).toInt = 46 := rfl
  have c53 : (53 : Int32).toInt = 53 := rfl
  have c56 : (56 : Int32).toInt = 56 := rfl
  have c58 : (58 : Int32).toInt = 58 := rfl
  have c59 : (59 : Int32).toInt = 59 := rfl
  have c60 : (60 : Int32).toInt = 60 := rfl
  unfold actT
  simp only [le, le2, lt, lt2, c5, c7, c8, c12, c18, c20, c26, c29, c30, c38, c40, c44, c46, c53, c56, c58, c59, c60]
  generalize (aHow v).toInt = w
  (repeat' split) <;> refine ⟨?_, ?_, ?_, ?_, ?_, ?_⟩ <;> intros <;> first | omega | (simp at *; done) | (simp at *; omega)
theorem dS_of {K : zK} {j : Nat} {a b c d : Int32} (h : dX K j a b c d = 0) : dS K j a b c d = dK K j a b c d := if_pos h
theorem dS_no {K : zK} {j : Nat} {a b c d : Int32} (h : ¬ dX K j a b c d = 0) : dS K j a b c d = K := if_neg h
theorem dR_of {K : zK} {j : Nat} {a b c d : Int32} (h : dX K j a b c d = 0) : dR K j a b c d = dA K j a b c d := if_pos h
theorem dR_no {K : zK} {j : Nat} {a b c d : Int32} (h : ¬ dX K j a b c d = 0) : dR K j a b c d = -2100000000 := if_neg h
theorem i64_ext {p q : Int64} (h : p.toInt = q.toInt) : p = q := Int64.toInt_inj.mp h
theorem lg_gt0 {q : Int64} (h : ¬ lg_cmp q 0 ≤ 0) : 0 < q.toInt := by
  apply Classical.byContradiction
  intro hn
  apply h
  by_cases e : q = 0
  · rw [e]; decide
  · have : q < 0 := Int64.lt_iff_toInt_lt.mpr (by have : ¬ q.toInt = 0 := fun hh => e (Int64.toInt_inj.mp hh); show q.toInt < 0; omega)
    exact Int32.le_iff_toInt_le.mpr (Int.le_of_lt (Int32.lt_iff_toInt_lt.mp ((lg_cmp_lt _ _).mpr this)))
theorem lg_cmp_gt0 (q : Int64) : 0 < lg_cmp q 0 ↔ 0 < q.toInt := by
  constructor
  · intro h
    exact lg_gt0 (fun hh => absurd (Int32.le_iff_toInt_le.mp hh) (Int.not_le.mpr (Int32.lt_iff_toInt_lt.mp h)))
  · intro h
    rw [lg_pos h]
    decide
theorem lg_neg {q : Int64} (h : q < 0) : lg_cmp q 0 < 0 := (lg_cmp_lt _ _).mpr h
