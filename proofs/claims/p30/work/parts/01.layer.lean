def zRAL : String := "java/util/ArrayList"
def zTAL : u_T := fun k => match k with
  | 0 => ("java/util/AbstractList", "modCount", "I", false)
  | 1 => ("java/util/ArrayList", "elementData", "[Ljava/lang/Object;", false)
  | _ => ("java/util/ArrayList", "size", "I", false)
/-- the words that any method may use: those of the tables that stay when classes are warmed -/
def GW : List Cond := lw_tbl.filter goodWord
theorem zGWin {w : Cond} (h : w ∈ lw_tbl) (hg : goodWord w = true) : w ∈ GW := List.mem_filter.mpr ⟨h, hg⟩
theorem zGWt {w : Cond} (h : w ∈ GW) : w ∈ lw_tbl := (List.mem_filter.mp h).1
theorem zGWg {w : Cond} (h : w ∈ GW) : (w.onTables && w.keeps) = true ∨ ∃ ty, w = .arrayClass ty := good_of_word (List.mem_filter.mp h).2
/-- ghosts: where the new cells begin, the classes, the array classes, some addresses, the launch -/
abbrev zGh : Type := Nat × va_G × (Nat → ClassId) × (Nat → Nat) × Launch
abbrev zM : Type := Nat → Option va_E
def zup (M : zM) (a : Nat) (e : va_E) : zM := fun q => if q = a then some e else M q
theorem zup_same {M : zM} {a : Nat} {e : va_E} : zup M a e a = some e := by simp [zup]
theorem zup_ne {M : zM} {a q : Nat} {e : va_E} (h : q ≠ a) : zup M a e q = M q := by simp [zup, h]
def zH (cl : List vw_C) (g : zGh) (M : zM) (H : Heap) : Prop := ∃ ws : va_W, va_P g.2.1 cl ws H ∧ va_D (fun q => g.1 ≤ q) ws ∧ ∀ (a : Nat) (e : va_E), M a = some e ↔ (a, e) ∈ ws
theorem zset_iff {cl : List vw_C} {D : va_G} {H : Heap} {A : Nat → Prop} {M : zM} {ws : va_W} {a k : Nat} {e0 e : va_E} (hP : va_P D cl ws H) (hD : va_D A ws) (hM : ∀ (a : Nat) (e : va_E), M a = some e ↔ (a, e) ∈ ws) (hk : ws[k]? = some (a, e0)) : ∀ (x : Nat) (e' : va_E), zup M a e x = some e' ↔ (x, e') ∈ ws.set k (a, e) := by
  have hl : k < ws.length := (List.getElem?_eq_some_iff.mp hk).1
  intro x e'
  constructor
  · intro h
    by_cases hx : x = a
    · subst hx
      rw [zup_same] at h
      cases h
      exact List.mem_of_getElem? (i := k) (List.getElem?_set_self hl)
    · rw [zup_ne hx] at h
      obtain ⟨j, hj⟩ := List.getElem?_of_mem ((hM x e').mp h)
      have hjk : k ≠ j := by
        rintro rfl
        rw [hk] at hj
        cases hj
        exact hx rfl
      exact List.mem_of_getElem? (i := j) (by rw [List.getElem?_set_ne hjk]; exact hj)
  · intro h
    obtain ⟨j, hj⟩ := List.getElem?_of_mem h
    by_cases hjk : k = j
    · subst hjk
      rw [List.getElem?_set_self hl] at hj
      cases hj
      exact zup_same
    · rw [List.getElem?_set_ne hjk] at hj
      have hx : x ≠ a := by
        rintro rfl
        exact hjk (hD.1 k j _ _ hk hj rfl)
      rw [zup_ne hx]
      exact (hM x e').mpr (List.mem_of_getElem? hj)
theorem zpush_fresh {A : Nat → Prop} {M : zM} {ws : va_W} {q : Nat} {e : va_E} (hD : va_D A (ws ++ [(q, e)])) (hM : ∀ (a : Nat) (e : va_E), M a = some e ↔ (a, e) ∈ ws) : M q = none := by
  cases h : M q with
  | none => rfl
  | some e1 =>
    obtain ⟨j, hj⟩ := List.getElem?_of_mem ((hM q e1).mp h)
    have hl : j < ws.length := (List.getElem?_eq_some_iff.mp hj).1
    have h1 : (ws ++ [(q, e)])[j]? = some (q, e1) := by rw [List.getElem?_append_left hl]; exact hj
    have h2 : (ws ++ [(q, e)])[ws.length]? = some (q, e) := by simp
    have := hD.1 j ws.length _ _ h1 h2 rfl
    omega
theorem zpush_iff {A : Nat → Prop} {M : zM} {ws : va_W} {q : Nat} {e : va_E} (hD : va_D A (ws ++ [(q, e)])) (hM : ∀ (a : Nat) (e : va_E), M a = some e ↔ (a, e) ∈ ws) : ∀ (x : Nat) (e' : va_E), zup M q e x = some e' ↔ (x, e') ∈ ws ++ [(q, e)] := by
  have hf := zpush_fresh hD hM
  intro x e'
  rw [List.mem_append, List.mem_singleton, ← hM]
  by_cases hx : x = q
  · subst hx
    rw [zup_same, hf]
    constructor
    · intro h; cases h; exact Or.inr rfl
    · rintro (h | h)
      · cases h
      · cases h; rfl
  · rw [zup_ne hx]
    constructor
    · intro h; exact Or.inl h
    · rintro (h | h)
      · exact h
      · cases h; exact absurd rfl hx
theorem zH.at {cl : List vw_C} {g : zGh} {M : zM} {H : Heap} (h : zH cl g M H) {a : Nat} {e : va_E} (hM : M a = some e) : va_at g.2.1 cl (a, e) H := by
  obtain ⟨ws, hP, -, hi⟩ := h
  obtain ⟨k, hk⟩ := List.getElem?_of_mem ((hi a e).mp hM)
  exact hP k _ hk
theorem zH.lt {cl : List vw_C} {g : zGh} {M : zM} {H : Heap} (h : zH cl g M H) {a : Nat} {e : va_E} (hM : M a = some e) : a < H.size := (h.at hM).lt
theorem zH.kept {cl : List vw_C} {g : zGh} {M : zM} {H H1 : Heap} (h : zH cl g M H) (hq : ∀ q : Nat, q < H.size → H1[q]? = H[q]?) : zH cl g M H1 := by
  obtain ⟨ws, hP, hD, hi⟩ := h
  exact ⟨ws, hP.kept (fun k q hk => hq q.1 (hP k q hk).lt), hD, hi⟩
-- locals by their places
def zas : Nat → List (Option Value) → List (Nat × Value)
  | _, [] => []
  | i, none :: t => zas (i + 1) t
  | i, some v :: t => (i, v) :: zas (i + 1) t
theorem zas_get : ∀ (L : List (Option Value)) (b i : Nat) (v : Value), L[i]? = some (some v) → (b + i, v) ∈ zas b L
  | [], b, i, v, h => by simp at h
  | none :: t, b, 0, v, h => by simp at h
  | some w :: t, b, 0, v, h => by
    simp at h
    subst h
    exact List.mem_cons_self
  | none :: t, b, i + 1, v, h => by
    have := zas_get t (b + 1) i v (by simpa using h)
    rw [show b + (i + 1) = b + 1 + i by omega]
    exact this
  | some w :: t, b, i + 1, v, h => by
    have := zas_get t (b + 1) i v (by simpa using h)
    rw [show b + (i + 1) = b + 1 + i by omega]
    exact List.mem_cons_of_mem _ this
theorem zas_ge : ∀ (L : List (Option Value)) (b : Nat) (q : Nat × Value), q ∈ zas b L → b ≤ q.1
  | [], b, q, h => by simp [zas] at h
  | none :: t, b, q, h => by
    have := zas_ge t (b + 1) q h
    omega
  | some w :: t, b, q, h => by
    rcases List.mem_cons.mp h with h | h
    · rw [h]; exact Nat.le_refl _
    · have := zas_ge t (b + 1) q h
      omega
def zk1 : Option Value → Option Value
  | some (.long _) => none
  | some (.double _) => none
  | o => o
def zk2 (v : Value) (t : List (Option Value)) : List (Option Value) := match v with
  | .long _ => none :: t.drop 1
  | .double _ => none :: t.drop 1
  | _ => t
def zst : List (Option Value) → Nat → Value → List (Option Value)
  | [], _, _ => []
  | _ :: t, 0, v => some v :: zk2 v t
  | o :: t, 1, v => zk1 o :: zst t 0 v
  | o :: t, i + 2, v => o :: zst t (i + 1) v
theorem zk2_mem {v : Value} {t : List (Option Value)} {b : Nat} {q : Nat × Value} (h : q ∈ zas (b + 1) (zk2 v t)) : q ∈ zas (b + 1) t ∧ (v.category = 2 → q.1 ≠ b + 1) := by
  have key : ∀ t : List (Option Value), q ∈ zas (b + 1) (none :: t.drop 1) → q ∈ zas (b + 1) t ∧ q.1 ≠ b + 1 := by
    intro t h
    have h1 : q ∈ zas (b + 1 + 1) (t.drop 1) := h
    have h2 := zas_ge _ _ _ h1
    cases t with
    | nil => simp [zas] at h1
    | cons o t =>
      refine ⟨?_, by omega⟩
      cases o with
      | none => exact h1
      | some w => exact List.mem_cons_of_mem _ h1
  cases v with
  | long x => exact ⟨(key t h).1, fun _ => (key t h).2⟩
  | double x => exact ⟨(key t h).1, fun _ => (key t h).2⟩
  | _ => exact ⟨h, fun h2 => by simp [Value.category] at h2⟩
theorem zst_mem : ∀ (L : List (Option Value)) (b i : Nat) (v : Value) (q : Nat × Value), q ∈ zas b (zst L i v) → q = (b + i, v) ∨ (q ∈ zas b L ∧ q.1 ≠ b + i ∧ ¬ (q.1 + 1 = b + i ∧ q.2.category = 2) ∧ (v.category = 2 → q.1 ≠ b + i + 1))
  | [], b, i, v, q, h => by simp [zst, zas] at h
  | o :: t, b, 0, v, q, h => by
    have h : q ∈ zas b (some v :: zk2 v t) := h
    rcases List.mem_cons.mp h with h | h
    · exact Or.inl h
    · have h1 := zk2_mem h
      have h2 := zas_ge _ _ _ h1.1
      refine Or.inr ⟨?_, by omega, by omega, h1.2⟩
      cases o with
      | none => exact h1.1
      | some w => exact List.mem_cons_of_mem _ h1.1
  | o :: t, b, 1, v, q, h => by
    have h : q ∈ zas b (zk1 o :: zst t 0 v) := h
    have key : q ∈ zas (b + 1) (zst t 0 v) → q = (b + 1, v) ∨ (q ∈ zas b (o :: t) ∧ q.1 ≠ b + 1 ∧ ¬ (q.1 + 1 = b + 1 ∧ q.2.category = 2) ∧ (v.category = 2 → q.1 ≠ b + 1 + 1)) := by
      intro h
      rcases zst_mem t (b + 1) 0 v q h with h | ⟨h1, h2, h3, h4⟩
      · exact Or.inl h
      · have h5 := zas_ge _ _ _ h1
        refine Or.inr ⟨?_, by omega, by omega, fun hc => by have := h4 hc; omega⟩
        cases o with
        | none => exact h1
        | some w => exact List.mem_cons_of_mem _ h1
    cases o with
    | none => exact key h
    | some w =>
      cases w with
      | long x => exact key h
      | double x => exact key h
      | _ =>
        rcases List.mem_cons.mp h with h | h
        · subst h
          exact Or.inr ⟨List.mem_cons_self, by simp, by simp [Value.category], fun _ => by show b ≠ b + 1 + 1; omega⟩
        · exact key h
  | o :: t, b, i + 2, v, q, h => by
    have h : q ∈ zas b (o :: zst t (i + 1) v) := h
    have key : q ∈ zas (b + 1) (zst t (i + 1) v) → q = (b + (i + 2), v) ∨ (q ∈ zas b (o :: t) ∧ q.1 ≠ b + (i + 2) ∧ ¬ (q.1 + 1 = b + (i + 2) ∧ q.2.category = 2) ∧ (v.category = 2 → q.1 ≠ b + (i + 2) + 1)) := by
      intro h
      rcases zst_mem t (b + 1) (i + 1) v q h with h | ⟨h1, h2, h3, h4⟩
      · exact Or.inl (by rw [h]; congr 1; omega)
      · refine Or.inr ⟨?_, by omega, fun hc => h3 ⟨by omega, hc.2⟩, fun hc => by have := h4 hc; omega⟩
        cases o with
        | none => exact h1
        | some w => exact List.mem_cons_of_mem _ h1
    cases o with
    | none => exact key h
    | some w =>
      rcases List.mem_cons.mp h with h | h
      · subst h
        exact Or.inr ⟨List.mem_cons_self, by simp, by simp, fun _ => by show b ≠ b + (i + 2) + 1; omega⟩
      · exact key h
theorem zst_len : ∀ (L : List (Option Value)) (i : Nat) (v : Value), (v.category = 2 → i + 1 < L.length) → (zst L i v).length = L.length
  | [], i, v, h => rfl
  | o :: t, 0, v, h => by
    show (zk2 v t).length + 1 = t.length + 1
    cases v with
    | long x => have := h rfl; simp [zk2] at this ⊢; omega
    | double x => have := h rfl; simp [zk2] at this ⊢; omega
    | _ => rfl
  | o :: t, 1, v, h => by
    show (zst t 0 v).length + 1 = t.length + 1
    rw [zst_len t 0 v (fun hc => by have := h hc; simp at this; omega)]
  | o :: t, i + 2, v, h => by
    show (zst t (i + 1) v).length + 1 = t.length + 1
    rw [zst_len t (i + 1) v (fun hc => by have := h hc; simp at this; omega)]
theorem lv_has.mono {ls : Array Slot} {nL : Nat} {l l' : List (Nat × Value)} (h : lv_has ls nL l) (hm : ∀ q ∈ l', q ∈ l) : lv_has ls nL l' := ⟨h.1, h.2.1, fun q hq => h.2.2 q (hm q hq)⟩
theorem zhas_get {ls : Array Slot} {nL : Nat} {L : List (Option Value)} (h : lv_has ls nL (zas 0 L)) {i : Nat} {v : Value} (hi : L[i]? = some (some v)) : ls[i]? = some (.val v) := h.2.2 (i, v) (by have := zas_get L 0 i v hi; rwa [Nat.zero_add] at this)
theorem zst1 {L L' : List (Option Value)} {i : Nat} {v : Value} (hc : v.category = 1) (hL : zst L i v = L') {ls : Array Slot} {nL : Nat} (h : lv_has ls nL ((i, v) :: (zas 0 L).filter (fun q => !(q.1 == i) && !(q.1 + 1 == i && q.2.category == 2)))) : lv_has ls nL (zas 0 L') := by
  subst hL
  refine h.mono fun q hq => ?_
  rcases zst_mem L 0 i v q hq with h | ⟨h1, h2, h3, h4⟩
  · rw [Nat.zero_add] at h; rw [h]; exact List.mem_cons_self
  · refine List.mem_cons_of_mem _ (List.mem_filter.mpr ⟨h1, ?_⟩)
    rw [Nat.zero_add] at h2 h3
    simp only [Bool.and_eq_true, Bool.not_eq_true', beq_eq_false_iff_ne, ne_eq, h2, not_false_eq_true, true_and, Bool.and_eq_false_iff]
    by_cases e : q.1 + 1 = i
    · exact Or.inr fun e2 => h3 ⟨e, e2⟩
    · exact Or.inl e
theorem zst2 {L L' : List (Option Value)} {i : Nat} {v : Value} (hc : v.category = 2) (hL : zst L i v = L') {ls : Array Slot} {nL : Nat} (h : lv_has ls nL ((i, v) :: (zas 0 L).filter (fun q => !(q.1 == i) && (!(q.1 == i + 1) && !(q.1 + 1 == i && q.2.category == 2))))) : lv_has ls nL (zas 0 L') := by
  subst hL
  refine h.mono fun q hq => ?_
  rcases zst_mem L 0 i v q hq with h | ⟨h1, h2, h3, h4⟩
  · rw [Nat.zero_add] at h; rw [h]; exact List.mem_cons_self
  · refine List.mem_cons_of_mem _ (List.mem_filter.mpr ⟨h1, ?_⟩)
    have h4 := h4 hc
    rw [Nat.zero_add] at h2 h3 h4
    simp only [Bool.and_eq_true, Bool.not_eq_true', beq_eq_false_iff_ne, ne_eq, h2, h4, not_false_eq_true, true_and, Bool.and_eq_false_iff]
    by_cases e : q.1 + 1 = i
    · exact Or.inr fun e2 => h3 ⟨e, e2⟩
    · exact Or.inl e
