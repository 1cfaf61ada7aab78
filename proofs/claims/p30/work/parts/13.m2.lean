theorem zsA_g (S : zS) (j : Nat) (f : Nat → Int32) (i : Nat) : (zsA S j f).2.2.1 i = if i = j then f else S.2.2.1 i := rfl
theorem zsA_1 (S : zS) (j : Nat) (f : Nat → Int32) : (zsA S j f).1 = S.1 := rfl
theorem zsA_c (S : zS) (j : Nat) (f : Nat → Int32) : (zsA S j f).2.1 = S.2.1 := rfl
theorem zsA_l (S : zS) (j : Nat) (f : Nat → Int32) : (zsA S j f).2.2.2 = S.2.2.2 := rfl
theorem zsN_g (S : zS) (j v : Nat) (i : Nat) : (zsN S j v).1 i = if i = j then v else S.1 i := rfl
theorem zsN_2 (S : zS) (j v : Nat) : (zsN S j v).2 = S.2 := rfl
theorem zsL_g (S : zS) (j : Nat) (f : Nat → Int64) (i : Nat) : (zsL S j f).2.2.2 i = if i = j then f else S.2.2.2 i := rfl
theorem zsL_1 (S : zS) (j : Nat) (f : Nat → Int64) : (zsL S j f).1 = S.1 := rfl
theorem zsL_c (S : zS) (j : Nat) (f : Nat → Int64) : (zsL S j f).2.1 = S.2.1 := rfl
theorem zsL_a (S : zS) (j : Nat) (f : Nat → Int64) : (zsL S j f).2.2.1 = S.2.2.1 := rfl
theorem zlt_f {x y : Int32} (h : y ≤ x) : decide (x < y) = false := decide_eq_false (by rw [Int32.lt_iff_toInt_lt]; rw [Int32.le_iff_toInt_le] at h; omega)
theorem zlt_t {x y : Int32} (h : ¬ y ≤ x) : decide (x < y) = true := decide_eq_true (by rw [Int32.lt_iff_toInt_lt]; rw [Int32.le_iff_toInt_le] at h; omega)
theorem z2 (x : Int32) : x + 2 = x + 1 + 1 := by rw [Int32.add_assoc]; rfl
theorem zdec (x : Int32) : x + (-1) = x - 1 := by rw [Int32.sub_eq_add_neg]
theorem zx_40 (s : Nat) : 40 * nI s = nI (40 * s) := by rw [show (40 : Int32) = nI 40 from rfl, pk_mul]
theorem zx_wt (s k : Nat) : 40 * nI s + nI k = nI (40 * s + k) := by rw [zx_40, nI_add]
/-- how many faiths a person has taken -/
def iT (S : zS) (p : Nat) : Prop := ∃ t, t < 1024 ∧ S.2.2.1 20 p = nI (t + 1)
theorem fT_eq {S : zS} {p t : Nat} (ht : t < 1024) (h : S.2.2.1 20 p = nI (t + 1)) : fT S p = t := by
  unfold fT
  rw [h, nI_pred, nI_clamp (by omega)]
theorem wgt_le (r20 r21 r41 : Nat → Int32) (h td : Int32) (s k : Nat) : wgt r20 r21 r41 h td s k ≤ 2 := by
  unfold wgt
  split
  · omega
  · split <;> omega
theorem forL_le (r20 r21 r41 : Nat → Int32) (h td : Int32) (s : Nat) (how : Int32) : ∀ k, forL r20 r21 r41 h td s how k ≤ 2 * k
  | 0 => Nat.le_refl _
  | k + 1 => by
    have := forL_le r20 r21 r41 h td s how k
    have := wgt_le r20 r21 r41 h td s k
    unfold forL
    split <;> omega
