/-! dies: lists and flags; giving -/
section TIE26
variable {n : Nat} {K K1 : zK} {S S1 : zS}
def sumB (P : Nat → Bool) (g : Nat → Nat) : Nat → Nat
  | 0 => 0
  | k + 1 => sumB P g k + (if P k = true then g k else 0)
def sumF (f g : Nat → Nat) : Nat → Nat
  | 0 => 0
  | i + 1 => sumF f g i + g (f i)
/-- a list holds each of those flagged once -/
def lsP (n : Nat) (f : Nat → Nat) (np : Nat) (P : Nat → Bool) : Prop := (∀ i, i < n → f i < np ∧ P (f i) = true) ∧ (∀ p, p < np → P p = true → ∃ i, i < n ∧ f i = p) ∧ ∀ i j, i < n → j < n → f i = f j → i = j
theorem sumB_cg {P Q : Nat → Bool} {g h : Nat → Nat} : ∀ m, (∀ k, k < m → P k = Q k ∧ (P k = true → g k = h k)) → sumB P g m = sumB Q h m
  | 0, _ => rfl
  | m + 1, e => by
    obtain ⟨e1, e2⟩ := e m (by omega)
    unfold sumB
    rw [sumB_cg m (fun k hk => e k (by omega)), ← e1]
    by_cases hP : P m = true
    · rw [if_pos hP, if_pos hP, e2 hP]
    · rw [if_neg hP, if_neg hP]
theorem sumB_rm {P : Nat → Bool} {g : Nat → Nat} {j : Nat} (hP : P j = true) : ∀ m, j < m → sumB P g m = sumB (fun k => P k && decide (k ≠ j)) g m + g j
  | m + 1, h => by
    unfold sumB
    by_cases e : m = j
    · subst e
      rw [if_pos hP, sumB_cg (Q := fun k => P k && decide (k ≠ m)) (h := g) m (fun k hk => ⟨by rw [decide_eq_true (by omega), Bool.and_true], fun _ => rfl⟩), if_neg (by simp)]
      omega
    · rw [sumB_rm hP m (by omega)]
      have : (P m && decide (m ≠ j)) = P m := by rw [decide_eq_true e, Bool.and_true]
      rw [this]
      omega
theorem sum_ls {f g : Nat → Nat} {np : Nat} : ∀ n (P : Nat → Bool), lsP n f np P → sumF f g n = sumB P g np
  | 0, P, h => by
    have : ∀ m, m ≤ np → sumB P g m = 0 := by
      intro m
      induction m with
      | zero => intro _; rfl
      | succ m ih =>
        intro hm
        unfold sumB
        rw [ih (by omega), if_neg]
        intro hp
        obtain ⟨i, hi, -⟩ := h.2.1 m (by omega) hp
        exact absurd hi (Nat.not_lt_zero _)
    exact (this np (Nat.le_refl _)).symm
  | n + 1, P, h => by
    obtain ⟨h1, h2, h3⟩ := h
    obtain ⟨a1, a2⟩ := h1 n (Nat.lt_succ_self _)
    rw [sumB_rm a2 np a1]
    unfold sumF
    rw [sum_ls n (fun k => P k && decide (k ≠ f n)) ⟨fun i hi => ?_, fun p hp hP => ?_, fun i j hi hj => h3 i j (by omega) (by omega)⟩]
    · obtain ⟨b1, b2⟩ := h1 i (by omega)
      refine ⟨b1, ?_⟩
      show (P (f i) && decide (f i ≠ f n)) = true
      rw [b2, Bool.true_and]
      exact decide_eq_true (fun e => by have := h3 i n (by omega) (by omega) e; omega)
    · simp only [Bool.and_eq_true, decide_eq_true_eq] at hP
      obtain ⟨i, i1, i2⟩ := h2 p hp hP.1
      refine ⟨i, ?_, i2⟩
      have : i ≠ n := fun e => hP.2 (by rw [← i2, e])
      omega
theorem lowT_le (f : Nat → Nat) : ∀ n i, i ≤ n → lowT f n ≤ f i
  | 0, i, h => by
    obtain rfl : i = 0 := by omega
    exact Nat.le_refl _
  | n + 1, i, h => by
    unfold lowT
    by_cases e : i = n + 1
    · subst e
      split <;> omega
    · have := lowT_le f n i (by omega)
      split <;> omega
theorem low_ls {n np : Nat} {f : Nat → Nat} {P : Nat → Bool} (h : lsP n f np P) (h0 : 0 < n) : (lowT f (n - 1) < np ∧ P (lowT f (n - 1)) = true) ∧ ∀ p, p < np → P p = true → lowT f (n - 1) ≤ p := by
  refine ⟨lowT_in (P := fun x => x < np ∧ P x = true) (fun i hi => h.1 i (by omega)) (n - 1) (Nat.le_refl _), fun p hp hP => ?_⟩
  obtain ⟨i, i1, i2⟩ := h.2.1 p hp hP
  rw [← i2]
  exact lowT_le f (n - 1) i (by omega)
def anyL (r : Nat → Int32) : Nat → Bool
  | 0 => false
  | k + 1 => anyL r k || decide (r k ≠ 0)
theorem anyL_t {r : Nat → Int32} : ∀ k, anyL r k = true ↔ ∃ j, j < k ∧ r j ≠ 0
  | 0 => ⟨fun h => (by cases h), fun ⟨j, h, _⟩ => absurd h (Nat.not_lt_zero _)⟩
  | k + 1 => by
    unfold anyL
    rw [Bool.or_eq_true, anyL_t k, decide_eq_true_eq]
    constructor
    · rintro (⟨j, h1, h2⟩ | h)
      · exact ⟨j, by omega, h2⟩
      · exact ⟨k, by omega, h⟩
    · rintro ⟨j, h1, h2⟩
      by_cases e : j = k
      · subst e; exact Or.inr h2
      · exact Or.inl ⟨j, by omega, h2⟩
theorem any_low {r : Nat → Int32} {n np : Nat} {f : Nat → Nat} (h : lsP n f np (fun k => decide (r k ≠ 0))) (h0 : 0 < n) {p : Nat} (hp : p < np) (hr : r p ≠ 0) : (anyL r p = true) = ¬ p = lowT f (n - 1) := by
  obtain ⟨⟨l1, l2⟩, l3⟩ := low_ls h h0
  have l2 : r (lowT f (n - 1)) ≠ 0 := of_decide_eq_true l2
  have := l3 p hp (decide_eq_true hr)
  apply propext
  rw [anyL_t]
  constructor
  · rintro ⟨j, j1, j2⟩ e
    have := l3 j (by omega) (decide_eq_true j2)
    omega
  · intro e
    exact ⟨_, by omega, l2⟩
theorem givL_pt {r14 r47 : Nat → Int32} {man each : Int64} {r19 : Nat → Int64} {left : Int64} : ∀ k, (givL r14 r47 man each r19 left k).2 = (if anyL r47 k = true then 0 else left) ∧ (∀ q, q < k → r47 q ≠ 0 → (givL r14 r47 man each r19 left k).1 q = r19 q + ((if r14 q = 0 then each else man * each) + (if anyL r47 q = true then 0 else left))) ∧ ∀ q, (r47 q = 0 ∨ k ≤ q) → (givL r14 r47 man each r19 left k).1 q = r19 q
  | 0 => ⟨rfl, fun q hq => absurd hq (Nat.not_lt_zero _), fun _ _ => rfl⟩
  | k + 1 => by
    obtain ⟨h1, h2, h3⟩ := givL_pt (r14 := r14) (r47 := r47) (man := man) (each := each) (r19 := r19) (left := left) k
    unfold givL
    by_cases e : r47 k = 0
    · rw [if_pos e]
      refine ⟨?_, fun q hq hr => ?_, fun q hq => ?_⟩
      · rw [h1]
        show _ = if (anyL r47 k || decide (r47 k ≠ 0)) = true then 0 else left
        rw [decide_eq_false (fun hh => hh e), Bool.or_false]
      · exact h2 q (by rcases Nat.lt_or_eq_of_le (Nat.le_of_lt_succ hq) with h | h; exact h; exact absurd (h ▸ e) hr) hr
      · exact h3 q (hq.imp id (fun hh => by omega))
    · rw [if_neg e]
      refine ⟨?_, fun q hq hr => ?_, fun q hq => ?_⟩
      · unfold anyL
        rw [decide_eq_true e, Bool.or_true, if_pos rfl]
      · by_cases eq : q = k
        · subst eq
          show vp_updL _ _ _ _ = _
          rw [pk_uLs, h1, h3 q (Or.inr (Nat.le_refl _))]
        · show vp_updL _ _ _ _ = _
          rw [pk_uLn eq]
          exact h2 q (by omega) hr
      · have eq : q ≠ k := by
          rintro rfl
          rcases hq with hq | hq
          · exact e hq
          · omega
        show vp_updL _ _ _ _ = _
        rw [pk_uLn eq]
        exact h3 q (hq.imp id (fun hh => by omega))
theorem ls_cg {n np : Nat} {f : Nat → Nat} {P Q : Nat → Bool} (h : lsP n f np P) (e : ∀ p, p < np → P p = Q p) : lsP n f np Q :=
  ⟨fun i hi => ⟨(h.1 i hi).1, by rw [← e _ (h.1 i hi).1]; exact (h.1 i hi).2⟩, fun p hp hQ => h.2.1 p hp (by rw [e p hp]; exact hQ), h.2.2⟩
theorem ls_add {n np np' : Nat} {f : Nat → Nat} {P P' : Nat → Bool} {x : Nat} (h : lsP n f np P) (hx : x < np') (hP' : P' x = true) (hle : np ≤ np') (h1 : ∀ p, p < np → P p = true → P' p = true ∧ p ≠ x) (h2 : ∀ p, p < np' → P' p = true → p = x ∨ (p < np ∧ P p = true)) : lsP (n + 1) (va_up f n x) np' P' := by
  obtain ⟨a1, a2, a3⟩ := h
  refine ⟨fun i hi => ?_, fun p hp hP => ?_, fun i j hi hj e => ?_⟩
  · by_cases ei : i = n
    · subst ei; rw [up_eq]; exact ⟨hx, hP'⟩
    · rw [up_ne ei]
      obtain ⟨b1, b2⟩ := a1 i (by omega)
      exact ⟨by omega, (h1 _ b1 b2).1⟩
  · rcases h2 p hp hP with e | ⟨e1, e2⟩
    · exact ⟨n, Nat.lt_succ_self n, up_eq.trans e.symm⟩
    · obtain ⟨i, i1, i2⟩ := a2 p e1 e2
      exact ⟨i, by omega, (up_ne (by omega)).trans i2⟩
  · by_cases ei : i = n
    · by_cases ej : j = n
      · omega
      · rw [ei, up_eq, up_ne ej] at e
        obtain ⟨b1, b2⟩ := a1 j (by omega)
        exact absurd e.symm (h1 _ b1 b2).2
    · by_cases ej : j = n
      · rw [ej, up_eq, up_ne ei] at e
        obtain ⟨b1, b2⟩ := a1 i (by omega)
        exact absurd e (h1 _ b1 b2).2
      · rw [up_ne ei, up_ne ej] at e
        exact a3 i j (by omega) (by omega) e
theorem rm_ls {K : zK} {fa : Int32} {np : Nat} : ∀ c (q : zTl) (P : Nat → Bool), lsP q.1 q.2.2.2 np P → c ≤ q.1 → (∀ i, c ≤ i → i < q.1 → newK K (q.2.2.2 i) = fa) → lsP (rmS K fa c q).1 (rmS K fa c q).2.2.2 np (fun p => P p && decide (newK K p = fa))
  | 0, q, P, h, _, hc => by
    obtain ⟨a1, a2, a3⟩ := h
    refine ⟨fun i hi => ⟨(a1 i hi).1, ?_⟩, fun p hp hP => ?_, a3⟩
    · show (P (q.2.2.2 i) && decide (newK K (q.2.2.2 i) = fa)) = true
      rw [(a1 i hi).2, Bool.true_and]
      exact decide_eq_true (hc i (Nat.zero_le _) hi)
    · simp only [Bool.and_eq_true] at hP
      exact a2 p hp hP.1
  | c + 1, q, P, h, hle, hc => by
    unfold rmS
    by_cases e : newK K (q.2.2.2 c) = fa
    · rw [if_pos e]
      exact rm_ls c q P h (by omega) (fun i h1 h2 => by
        by_cases ei : i = c
        · subst ei; exact e
        · exact hc i (by omega) h2)
    · rw [if_neg e]
      obtain ⟨a1, a2, a3⟩ := h
      have hr : ∀ i, i < q.1 - 1 → (remT q c).2.2.2 i = q.2.2.2 (if i < c then i else i + 1) := fun i hi => by
        show rmf q.2.2.2 c i = _
        unfold rmf
        split <;> rfl
      have hl : lsP (remT q c).1 (remT q c).2.2.2 np (fun p => P p && decide (p ≠ q.2.2.2 c)) := by
        refine ⟨fun i hi => ?_, fun p hp hP => ?_, fun i j hi hj ee => ?_⟩
        · have hi : i < q.1 - 1 := hi
          rw [hr i hi]
          obtain ⟨b1, b2⟩ := a1 (if i < c then i else i + 1) (by split <;> omega)
          refine ⟨b1, ?_⟩
          show (P _ && decide (_ ≠ _)) = true
          rw [b2, Bool.true_and]
          exact decide_eq_true (fun hh => by have := a3 _ c (by split <;> omega) (by omega) hh; split at this <;> omega)
        · simp only [Bool.and_eq_true, decide_eq_true_eq] at hP
          obtain ⟨i, i1, i2⟩ := a2 p hp hP.1
          have hic : i ≠ c := fun hh => hP.2 (by rw [← i2, hh])
          by_cases hlt : i < c
          · exact ⟨i, by show i < q.1 - 1; omega, by rw [hr i (by omega), if_pos hlt]; exact i2⟩
          · exact ⟨i - 1, by show i - 1 < q.1 - 1; omega, by rw [hr (i - 1) (by omega), if_neg (by omega), show i - 1 + 1 = i by omega]; exact i2⟩
        · have hi : i < q.1 - 1 := hi
          have hj : j < q.1 - 1 := hj
          rw [hr i hi, hr j hj] at ee
          have := a3 _ _ (by split <;> omega) (by split <;> omega) ee
          split at this <;> split at this <;> omega
      refine ls_cg (rm_ls c (remT q c) _ hl (by show c ≤ q.1 - 1; omega) (fun i h1 h2 => ?_)) (fun p hp => ?_)
      · have h2 : i < q.1 - 1 := h2
        rw [hr i h2, if_neg (by omega)]
        exact hc (i + 1) (by omega) (by omega)
      · show ((P p && decide (p ≠ q.2.2.2 c)) && decide (newK K p = fa)) = (P p && decide (newK K p = fa))
        by_cases ep : p = q.2.2.2 c
        · rw [ep, decide_eq_false e, Bool.and_false, Bool.and_false]
        · rw [decide_eq_true (show p ≠ q.2.2.2 c from ep), Bool.and_true]
theorem i64_div {a : Int64} {u : Nat} {b : Int64} (ha : 0 ≤ a.toInt) (hu : b.toInt = (u : Int)) (h0 : 0 < u) : (a / b).toInt = a.toInt / (u : Int) := by
  rw [Int64.toInt_div, hu, Int.tdiv_eq_ediv_of_nonneg ha]
  have h1 : a.toInt / (u : Int) ≤ a.toInt := Int.ediv_le_self _ ha
  have h2 : 0 ≤ a.toInt / (u : Int) := Int.ediv_nonneg ha (by omega)
  have h3 := Int64.toInt_lt a
  apply Int.bmod_eq_of_le <;> omega
theorem i64_mul {a b : Int64} {x y : Int} (ha : a.toInt = x) (hb : b.toInt = y) (h0 : 0 ≤ x * y) (h1 : x * y ≤ 2 ^ 60) : (a * b).toInt = x * y := by
  rw [Int64.toInt_mul, ha, hb]
  apply Int.bmod_eq_of_le <;> omega
theorem nI64 {u : Nat} (h : u < 2 ^ 31) : (nI u).toInt64.toInt = (u : Int) := by rw [Int32.toInt_toInt64, nI_toInt (by omega)]
theorem shT_F (K : zK) (b : Bool) (f : Nat → Nat) : ∀ n, shT K b f n = sumF f (shr K b) n
  | 0 => rfl
  | n + 1 => by
    show shT K b f n + shr K b (f n) = sumF f (shr K b) n + shr K b (f n)
    rw [shT_F K b f n]
theorem units_B (r14 r47 : Nat → Int32) (man : Nat) : ∀ m, unitsL r14 r47 man m = sumB (fun k => decide (r47 k ≠ 0)) (fun k => if r14 k = 0 then 1 else man) m
  | 0 => rfl
  | m + 1 => by
    show unitsL r14 r47 man m + (if r47 m = 0 then 0 else if r14 m = 0 then 1 else man) = sumB (fun k => decide (r47 k ≠ 0)) (fun k => if r14 k = 0 then 1 else man) m + (if decide (r47 m ≠ 0) = true then (if r14 m = 0 then 1 else man) else 0)
    rw [units_B r14 r47 man m]
    by_cases e : r47 m = 0
    · rw [if_pos e, if_neg (by rw [decide_eq_false (fun hh => hh e)]; exact fun hh => by cases hh)]
    · rw [if_neg e, if_pos (decide_eq_true e)]
theorem t_units (h : tie n K S) {m : Nat} {f : Nat → Nat} (b : Bool) (hls : lsP m f (K.1 13) (fun k => decide (S.2.2.1 47 k ≠ 0))) : shT K b f m = units S (if b = true then 2 else 1) := by
  unfold units
  rw [shT_F, sum_ls m _ hls, units_B, ← h.N.2.2.2.2.1]
  refine sumB_cg _ (fun k hk => ⟨rfl, fun _ => ?_⟩)
  have e := (h.P.1 k hk).1
  unfold shr
  rw [e]
  generalize (kpe K k).1 = mn
  cases b <;> cases mn <;> rfl
theorem givT_pt (K : zK) (b : Bool) (f : Nat → Nat) (sv : Int64) : ∀ i, (∀ a c, a < i → c < i → f a = f c → a = c) → (∀ p, (∀ j, j < i → f j ≠ p) → kpe (givT K b f sv i) p = kpe K p) ∧ ∀ j, j < i → kpe (givT K b f sv i) (f j) = peGoo (kpe K (f j)) ((kpe K (f j)).2.2.2.2.2.1 + sv * (nI (shr K b (f j))).toInt64)
  | 0, _ => ⟨fun _ _ => rfl, fun j hj => absurd hj (Nat.not_lt_zero _)⟩
  | i + 1, hi => by
    obtain ⟨h1, h2⟩ := givT_pt K b f sv i (fun a c ha hc => hi a c (by omega) (by omega))
    have hA : kpe (givT K b f sv (i + 1)) = va_up (kpe (givT K b f sv i)) (f i) (peGoo (kpe (givT K b f sv i) (f i)) ((kpe (givT K b f sv i) (f i)).2.2.2.2.2.1 + sv * (nI (shr K b (f i))).toInt64)) := rfl
    rw [hA]
    generalize kpe (givT K b f sv i) = G at *
    refine ⟨fun p hp => ?_, fun j hj => ?_⟩
    · rw [up_ne (fun e => hp i (by omega) e.symm)]
      exact h1 p (fun j hj => hp j (by omega))
    · by_cases e : j = i
      · subst e
        rw [up_eq, h1 (f j) (fun a ha e2 => by have := hi a j (by omega) (by omega) e2; omega)]
      · rw [up_ne (fun e2 => e (hi j i hj (by omega) e2))]
        exact h2 j (by omega)
theorem dv_pt {q : zTl} {gds : Int64} {b : Bool} {np : Nat} {P : Nat → Bool} (h : lsP q.1 q.2.2.2 np P) (h0 : 0 < q.1) {p : Nat} (hp : p < np) : kpe (dvK K q gds b) p = if P p = true then peGoo (kpe K p) (((kpe K p).2.2.2.2.2.1 + svT K q gds b * (nI (shr K b p)).toInt64) + (if p = lowT q.2.2.2 (q.1 - 1) then gds - svT K q gds b * (nI (shT K b q.2.2.2 q.1)).toInt64 else 0)) else kpe K p := by
  unfold dvK
  rw [if_neg (by omega)]
  obtain ⟨g1, g2⟩ := givT_pt K b q.2.2.2 (svT K q gds b) q.1 h.2.2
  have hA : ∀ (G : zK) (l : Nat) (v : Int64), kpe (gooA G l v) = va_up (kpe G) l (peGoo (kpe G l) ((kpe G l).2.2.2.2.2.1 + v)) := fun _ _ _ => rfl
  rw [hA]
  have hl := (low_ls h h0).1.2
  generalize gds - svT K q gds b * (nI (shT K b q.2.2.2 q.1)).toInt64 = v
  generalize lowT q.2.2.2 (q.1 - 1) = l at *
  by_cases hP : P p = true
  · rw [if_pos hP]
    obtain ⟨i, i1, i2⟩ := h.2.1 p hp hP
    have gp := g2 i i1
    rw [i2] at gp
    by_cases e : p = l
    · subst e
      rw [if_pos rfl, up_eq, gp]
      rfl
    · rw [up_ne e, if_neg e, gp, Int64.add_zero]
  · rw [if_neg hP, up_ne (fun e => hP (by rw [e]; exact hl)), g1 p (fun j hj e => hP (by rw [← e]; exact (h.1 j hj).2))]
theorem dvK_eq (K : zK) (q : zTl) (gds : Int64) (b : Bool) : dvK K q gds b = (K.1, K.2.1, K.2.2.1, kpe (dvK K q gds b), K.2.2.2.2) := by
  have h := dvK_fr K q gds b
  revert h
  generalize dvK K q gds b = D
  intro h
  obtain ⟨N, c, g, f, R⟩ := D
  obtain ⟨h1, h2, h3, h4, -⟩ := h
  have h1 : N = K.1 := h1
  have h2 : c = K.2.1 := h2
  have h3 : g = K.2.2.1 := h3
  have h4 : R = K.2.2.2.2 := h4
  rw [h1, h2, h3, h4]
def gdT (K : zK) (t : Int) : Prop := (∀ p, p < K.1 13 → 0 ≤ (kpe K p).2.2.2.2.2.1.toInt) ∧ sumG (kpe K) (K.1 13) = t
theorem goo_gd {t : Int} {p : Nat} {v : Int64} (h : gdT K t) (hp : p < K.1 13) (hv : 0 ≤ v.toInt) (hb : t + v.toInt ≤ 2 ^ 60) : gdT (gooA K p v) (t + v.toInt) := by
  obtain ⟨h1, h2⟩ := h
  have g0 := h1 p hp
  have gs := sumG_one h1 hp
  have hs : ((kpe K p).2.2.2.2.2.1 + v).toInt = (kpe K p).2.2.2.2.2.1.toInt + v.toInt := by
    rw [Int64.toInt_add]
    apply Int.bmod_eq_of_le <;> omega
  have hA : kpe (gooA K p v) = va_up (kpe K) p (peGoo (kpe K p) ((kpe K p).2.2.2.2.2.1 + v)) := rfl
  have hN : (gooA K p v).1 = K.1 := rfl
  have hx : (peGoo (kpe K p) ((kpe K p).2.2.2.2.2.1 + v)).2.2.2.2.2.1.toInt = (kpe K p).2.2.2.2.2.1.toInt + v.toInt := hs
  unfold gdT
  rw [hA, hN]
  refine ⟨fun q hq => ?_, ?_⟩
  · by_cases e : q = p
    · subst e; rw [up_eq, hx]; omega
    · rw [up_ne e]; exact h1 q hq
  · have := sumG_up (f := kpe K) (j := p) (x := peGoo (kpe K p) ((kpe K p).2.2.2.2.2.1 + v)) (K.1 13) hp
    rw [hx] at this
    omega
theorem giv_gd {t Q : Int} {b : Bool} {f : Nat → Nat} {sv : Int64} (h : gdT K t) (h0 : 0 ≤ t) (ht : t ≤ 1000000000) (hsv : sv.toInt = Q) (hQ : 0 ≤ Q) (hQ2 : Q ≤ 1000000000) : ∀ i, i ≤ 80 → (∀ j, j < i → f j < K.1 13) → gdT (givT K b f sv i) (t + Q * (shT K b f i : Int))
  | 0, _, _ => by
    show gdT K (t + Q * 0)
    rw [Int.mul_zero, Int.add_zero]
    exact h
  | i + 1, hi, hf => by
    have ih := giv_gd (b := b) h h0 ht hsv hQ hQ2 i (by omega) (fun j hj => hf j (by omega))
    obtain ⟨s1, s2⟩ := shr_le K b (f i)
    obtain ⟨u1, u2⟩ := shT_le K b f i
    have m1 : Q * (shr K b (f i) : Int) ≤ Q * 2 := Int.mul_le_mul_of_nonneg_left (by omega) hQ
    have m2 : 0 ≤ Q * (shr K b (f i) : Int) := Int.mul_nonneg hQ (by omega)
    have m3 : Q * (shT K b f i : Int) ≤ Q * 160 := Int.mul_le_mul_of_nonneg_left (by omega) hQ
    have e : (sv * (nI (shr K b (f i))).toInt64).toInt = Q * (shr K b (f i) : Int) := i64_mul hsv (nI64 (by omega)) m2 (by omega)
    have := goo_gd (K := givT K b f sv i) (p := f i) (v := sv * (nI (shr K b (f i))).toInt64) ih (by rw [(givT_fr K b f sv i).1]; exact hf i (by omega)) (by omega) (by omega)
    rw [e] at this
    have e2 : t + Q * ((shT K b f (i + 1) : Nat) : Int) = t + Q * (shT K b f i : Int) + Q * (shr K b (f i) : Int) := by
      show t + Q * ((shT K b f i + shr K b (f i) : Nat) : Int) = _
      rw [Int.natCast_add, Int.mul_add]
      omega
    rw [e2]
    exact this
theorem dv_gd {t : Int} {q : zTl} {gds : Int64} {b : Bool} {np : Nat} {P : Nat → Bool} (h : gdT K t) (h0 : 0 ≤ t) (ht : t ≤ 1000000000) (hg0 : 0 ≤ gds.toInt) (hg : gds.toInt ≤ 1000000000) (hls : lsP q.1 q.2.2.2 np P) (hnp : np = K.1 13) (hq : 0 < q.1) (hq8 : q.1 ≤ 80) : gdT (dvK K q gds b) (t + gds.toInt) := by
  subst hnp
  obtain ⟨u1, u2⟩ := shT_le K b q.2.2.2 q.1
  have hu := nI64 (u := shT K b q.2.2.2 q.1) (by omega)
  have hsv : (svT K q gds b).toInt = gds.toInt / (shT K b q.2.2.2 q.1 : Int) := i64_div hg0 hu (by omega)
  have hQ0 : 0 ≤ gds.toInt / (shT K b q.2.2.2 q.1 : Int) := Int.ediv_nonneg hg0 (by omega)
  have hQ1 : gds.toInt / (shT K b q.2.2.2 q.1 : Int) ≤ gds.toInt := Int.ediv_le_self _ hg0
  have hQ2 : gds.toInt / (shT K b q.2.2.2 q.1 : Int) * (shT K b q.2.2.2 q.1 : Int) ≤ gds.toInt := Int.ediv_mul_le _ (by omega)
  have hQ3 : 0 ≤ gds.toInt / (shT K b q.2.2.2 q.1 : Int) * (shT K b q.2.2.2 q.1 : Int) := Int.mul_nonneg hQ0 (by omega)
  have ha := giv_gd (b := b) (f := q.2.2.2) h h0 ht hsv hQ0 (by omega) q.1 hq8 (fun j hj => (hls.1 j hj).1)
  have hm : (svT K q gds b * (nI (shT K b q.2.2.2 q.1)).toInt64).toInt = gds.toInt / (shT K b q.2.2.2 q.1 : Int) * (shT K b q.2.2.2 q.1 : Int) := i64_mul hsv hu hQ3 (by omega)
  have hl : (gds - svT K q gds b * (nI (shT K b q.2.2.2 q.1)).toInt64).toInt = gds.toInt - gds.toInt / (shT K b q.2.2.2 q.1 : Int) * (shT K b q.2.2.2 q.1 : Int) := by
    rw [Int64.toInt_sub, hm]
    apply Int.bmod_eq_of_le <;> omega
  unfold dvK
  rw [if_neg (by omega)]
  have := goo_gd ha (p := lowT q.2.2.2 (q.1 - 1)) (v := gds - svT K q gds b * (nI (shT K b q.2.2.2 q.1)).toInt64) (by rw [(givT_fr K b _ _ _).1]; exact (low_ls hls hq).1.1) (by omega) (by omega)
  rw [hl] at this
  have e : t + gds.toInt = t + gds.toInt / (shT K b q.2.2.2 q.1 : Int) * (shT K b q.2.2.2 q.1 : Int) + (gds.toInt - gds.toInt / (shT K b q.2.2.2 q.1 : Int) * (shT K b q.2.2.2 q.1 : Int)) := by omega
  rw [e]
  exact this
theorem tie.gd (h : tie n K S) : gdT K (sumG (kpe K) (K.1 13)) := ⟨h.1.2.1, rfl⟩
theorem sumG_0 {f : Nat → zPe} : ∀ m, (∀ p, p < m → 0 ≤ (f p).2.2.2.2.2.1.toInt) → 0 ≤ sumG f m
  | 0, _ => Int.le_refl _
  | m + 1, h => by
    have h1 := sumG_0 m (fun p hp => h p (by omega))
    have h2 := h m (by omega)
    show 0 ≤ sumG f m + (f m).2.2.2.2.2.1.toInt
    omega
end TIE26
