/-- what lies in the memory, by kind and number: 0 main, 1 a law and 2 its row, 3 a chronicle and 4, 5 its two rows, 6 the row of rules, 7 a list and 8 its row, 9 a community, 10 a person, 11 a marriage, 12 a suit, 13 a witness, 14 the reference's object and 15 its rows -/
abbrev zg : Type := Nat × Nat
/-- a picture: every living tag's entry lies at its address; living tags lie apart -/
def zPic (ad : zg → Nat) (va : zg → Option va_E) (M : zM) : Prop :=
  (∀ t e, va t = some e → M (ad t) = some e) ∧ ∀ t u, va t ≠ none → va u ≠ none → ad t = ad u → t = u
theorem zPic.at {ad : zg → Nat} {va : zg → Option va_E} {M : zM} (h : zPic ad va M) {t : zg} {e : va_E} (ht : va t = some e) : M (ad t) = some e := h.1 t e ht
theorem zPic.inj {ad : zg → Nat} {va : zg → Option va_E} {M : zM} (h : zPic ad va M) {t u : zg} {e f : va_E} (ht : va t = some e) (hu : va u = some f) (hne : t ≠ u) : ad t ≠ ad u := fun he => hne (h.2 t u (by rw [ht]; simp) (by rw [hu]; simp) he)
/-- written at a living tag -/
theorem zPic.put {ad : zg → Nat} {va va1 : zg → Option va_E} {M : zM} (h : zPic ad va M) {t : zg} {e0 e : va_E} (ht : va t = some e0) (h1 : va1 t = some e) (h2 : ∀ u, u ≠ t → va1 u = va u) : zPic ad va1 (zup M (ad t) e) := by
  have hl : ∀ u, va1 u ≠ none → va u ≠ none := fun u hu => by
    by_cases hut : u = t
    · rw [hut, ht]
      simp
    · rw [← h2 u hut]
      exact hu
  refine ⟨fun u f hu => ?_, fun u w hu hw he => h.2 u w (hl u hu) (hl w hw) he⟩
  by_cases hut : u = t
  · subst hut
    rw [zup_same, ← h1, hu]
  · rw [h2 u hut] at hu
    rw [zup_ne (h.inj hu ht hut)]
    exact h.1 u f hu
/-- made anew for a dead tag -/
theorem zPic.new {ad ad1 : zg → Nat} {va va1 : zg → Option va_E} {M : zM} (h : zPic ad va M) {t : zg} {q : Nat} {e : va_E} (hq : M q = none) (ht : va t = none) (h1 : va1 t = some e) (h2 : ∀ u, u ≠ t → va1 u = va u) (a1 : ad1 t = q) (a2 : ∀ u, u ≠ t → ad1 u = ad u) : zPic ad1 va1 (zup M q e) := by
  have hn : ∀ u, u ≠ t → va1 u ≠ none → ad u ≠ q := fun u hut hu he => by
    rw [h2 u hut] at hu
    cases hv : va u with
    | none => exact hu hv
    | some f => rw [← he, h.1 u f hv] at hq; cases hq
  refine ⟨fun u f hu => ?_, fun u w hu hw he => ?_⟩
  · by_cases hut : u = t
    · subst hut
      rw [a1, zup_same, ← h1, hu]
    · rw [a2 u hut, zup_ne (hn u hut (by rw [hu]; simp))]
      rw [h2 u hut] at hu
      exact h.1 u f hu
  · by_cases hut : u = t
    · by_cases hwt : w = t
      · rw [hut, hwt]
      · rw [hut, a1, a2 w hwt] at he
        exact absurd he.symm (hn w hwt hw)
    · by_cases hwt : w = t
      · rw [hwt, a1, a2 u hut] at he
        exact absurd he (hn u hut hu)
      · rw [a2 u hut, a2 w hwt] at he
        rw [h2 u hut] at hu
        rw [h2 w hwt] at hw
        exact h.2 u w hu hw he
/-- the picture in a memory that keeps what lives -/
theorem zPic.keep {ad : zg → Nat} {va : zg → Option va_E} {M M1 : zM} (h : zPic ad va M) (hk : ∀ t e, va t = some e → M (ad t) = some e → M1 (ad t) = some e) : zPic ad va M1 := ⟨fun t e ht => hk t e ht (h.1 t e ht), h.2⟩
/-- fewer tags live -/
theorem zPic.less {ad : zg → Nat} {va va1 : zg → Option va_E} {M : zM} (h : zPic ad va M) (hk : ∀ t e, va1 t = some e → va t = some e) : zPic ad va1 M :=
  ⟨fun t e ht => h.1 t e (hk t e ht), fun t u ht hu he => by
    cases a : va1 t with
    | none => exact absurd a ht
    | some x =>
      cases b : va1 u with
      | none => exact absurd b hu
      | some y => exact h.2 t u (by rw [hk t x a]; simp) (by rw [hk u y b]; simp) he⟩
