/-! the tie of the two states -/
def cP (np : Nat) (f : Nat → zPe) (A : Nat → Nat → Int32) (g19 : Nat → Int64) : Prop := ∀ p, p < np →
  A 14 p = b2i (f p).1 ∧ A 15 p = ocode (f p).2.1 ∧ A 16 p = ocode (f p).2.2.1 ∧ A 17 p = (f p).2.2.2.1 ∧ A 18 p = b2i (!(f p).2.2.2.2.1) ∧ g19 p = (f p).2.2.2.2.2.1 ∧ A 22 p = (f p).2.2.2.2.2.2.1 ∧ A 23 p = (f p).2.2.2.2.2.2.2.1
/-- what holds of persons -/
def cPi (td nc np : Nat) (f : Nat → zPe) : Prop := ∀ p, p < np →
  ∃ b, b ≤ td ∧ (f p).2.2.2.1 = nI b ∧ (((f p).2.2.2.2.2.2.1 = -1 ∧ (f p).2.2.2.2.2.2.2.1 = -1) ∨ ((f p).2.2.2.2.1 = true ∧ b + 5000 ≤ td ∧ ∃ c e, c < nc ∧ (f p).2.2.2.2.2.2.1 = nI c ∧ td < e ∧ e ≤ td + 30 ∧ (f p).2.2.2.2.2.2.2.1 = nI e))
def cP0 (np : Nat) (A : Nat → Nat → Int32) (g19 : Nat → Int64) : Prop := ∀ p, np ≤ p → p < 40 → A 18 p = 0 ∧ g19 p = 0 ∧ A 20 p = 0
def cM (nm : Nat) (f : Nat → zMa) (A : Nat → Nat → Int32) : Prop := ∀ m, m < nm →
  A 26 m = nI (f m).1 ∧ A 27 m = nI (f m).2.1 ∧ A 28 m = (f m).2.2.2.1 ∧ A 29 m = (f m).2.2.2.2.1 ∧ A 30 m = (f m).2.2.1 ∧ A 31 m = b2i (f m).2.2.2.2.2.1 ∧ A 32 m = b2i (f m).2.2.2.2.2.2
def cMi (nm : Nat) (f : Nat → zMa) : Prop := ∀ m, m < nm → ∃ x, x ≤ 1000000 ∧ (f m).2.2.2.2.1 = nI x
def cM0 (nm : Nat) (A : Nat → Nat → Int32) : Prop := ∀ m, nm ≤ m → m < 30 → A 28 m = 0 ∧ A 31 m = 0 ∧ A 32 m = 0
def cS (ns : Nat) (f : Nat → zSu) (A : Nat → Nat → Int32) (g42 g43 : Nat → Int64) : Prop := ∀ s, s < ns →
  A 34 s = nI (f s).1 ∧ A 35 s = nI (f s).2.1 ∧ A 36 s = (f s).2.2.1 ∧ A 37 s = (f s).2.2.2.1 ∧ A 39 s = (f s).2.2.2.2.1 ∧ (decide (A 40 s ≠ 0) || decide (A 38 s ≠ 0)) = (f s).2.2.2.2.2.1 ∧ g42 s = (f s).2.2.2.2.2.2.1.toInt64 ∧ A 44 s = (f s).2.2.2.2.2.2.2.1 ∧ decide (A 45 s ≠ 0) = (f s).2.2.2.2.2.2.2.2 ∧
  ((f s).2.2.2.2.1 = 2 → g43 s = ((f s).2.2.2.1 - (f s).2.2.2.2.2.2.1).toInt64) ∧ (¬ (f s).2.2.2.2.1 = 2 → g43 s = 0)
def cSi (td ns : Nat) (f : Nat → zSu) : Prop := ∀ s, s < ns → ∃ x y, x ≤ 1000000 ∧ y ≤ x ∧ (f s).2.2.2.1 = nI x ∧ (f s).2.2.2.2.2.2.1 = nI y ∧ (¬ (f s).2.2.2.2.1 = 2 → y = 0) ∧ ((f s).2.2.2.2.1 = 0 ∨ (f s).2.2.2.2.1 = 1 ∨ (f s).2.2.2.2.1 = 2 ∨ (f s).2.2.2.2.1 = 3) ∧ (2 ≤ (f s).2.2.2.2.1 → ∃ t, t ≤ td ∧ (f s).2.2.2.2.2.2.2.1 = nI t)
def cS0 (ns : Nat) (A : Nat → Nat → Int32) (g42 g43 : Nat → Int64) : Prop := ∀ s, ns ≤ s → s < 20 → A 40 s = 0 ∧ A 45 s = 0 ∧ g42 s = 0 ∧ g43 s = 0 ∧ ∀ k, k < 40 → A 41 (40 * s + k) = 0
/-- sums over the witnesses heard, by the list and by the row -/
def sumI (w : zWs) (b : Bool) (g : Nat → Nat) : Nat → Nat
  | 0 => 0
  | i + 1 => sumI w b g i + (if w.2.2 i = b then g (w.2.1 i) else 0)
def sumK (r : Nat → Int32) (s : Nat) (b : Bool) (g : Nat → Nat) : Nat → Nat
  | 0 => 0
  | k + 1 => sumK r s b g k + (if r (40 * s + k) = (if b = true then 1 else 2) then g k else 0)
def cW (ns np : Nat) (w : Nat → zWs) (r : Nat → Int32) : Prop := ∀ s, s < ns →
  (∀ b g, sumI (w s) b g (w s).1 = sumK r s b g 40) ∧ (w s).1 = heardL r s 40 ∧ (∀ p, p < 40 → (r (40 * s + p) = 0 ∨ r (40 * s + p) = 1 ∨ r (40 * s + p) = 2) ∧ (np ≤ p → r (40 * s + p) = 0) ∧ (hrd (w s).2.1 p (w s).1 = true ↔ r (40 * s + p) ≠ 0))
def cL (td nc n4 : Nat) (ch : Nat → zCh) (A : Nat → Nat → Int32) : Prop :=
  (∀ l w, l ≤ nc → w < 7 → (∀ d, d ≤ 30000 → chV (ch (lch l w)) (nI d) = lawL (A 5) (A 6) (A 7) (A 8) (lcode l) (nI w) (nI d) n4) ∧ (ch (lch l w)).2.2.1 0 = nI 0 ∧ ∃ t, t ≤ td ∧ (ch (lch l w)).2.2.1 (ch (lch l w)).2.1 = nI t) ∧
  ∀ k, k < n4 → A 5 k = -1 ∨ ∃ c, c < nc ∧ A 5 k = nI c
def cR (td n9 : Nat) (ch : Nat → zCh) (A : Nat → Nat → Int32) : Prop :=
  ∀ m, m < 4 → (∀ d, d ≤ 30000 → chV (ch m) (nI d) = ruleL (A 10) (A 11) (A 12) (nI m) (nI d) n9) ∧ (ch m).2.2.1 0 = nI 0 ∧ (∃ t, t ≤ td ∧ (ch m).2.2.1 (ch m).2.1 = nI t) ∧ ∀ i, i ≤ (ch m).2.1 → ∃ j, j < 4 ∧ (ch m).2.2.2 i = nI j
def cC (td nc : Nat) (ch : Nat → zCh) (r3 : Nat → Int32) : Prop :=
  ∀ c, c < nc → ∃ f0 t, f0 ≤ t ∧ t ≤ td ∧ (ch (rch c)).2.2.1 0 = nI f0 ∧ (ch (rch c)).2.2.1 (ch (rch c)).2.1 = nI t ∧ ∀ d, f0 ≤ d → d ≤ 30000 → chV (ch (rch c)) (nI d) = b2i (bt (r3 (938 * c + d / 32)) (d % 32))
def cFt (td nc np : Nat) (ch : Nat → zCh) (f : Nat → zPe) (A : Nat → Nat → Int32) : Prop :=
  ∀ p, p < np → A 20 p = nI ((ch (100 + p)).2.1 + 1) ∧ (ch (100 + p)).2.2.1 0 = (f p).2.2.2.1 ∧
    (∀ i, i ≤ (ch (100 + p)).2.1 → ∃ e v f0, (ch (100 + p)).2.2.1 i = nI e ∧ e ≤ td ∧ (ch (100 + p)).2.2.2 i = nI v ∧ v < nc ∧ A 21 (1024 * p + i) = nI (8 * e + v) ∧ (ch (rch v)).2.2.1 0 = nI f0 ∧ f0 ≤ e) ∧
    (∀ i, i < (ch (100 + p)).2.1 → (ch (100 + p)).2.2.1 i < (ch (100 + p)).2.2.1 (i + 1))
/-- bounds by the number of calls -/
def cNb (n : Nat) (K : zK) : Prop := n ≤ 512 ∧ (∀ i, (kch K i).2.1 ≤ n) ∧ pdK (kpe K) (K.1 13) ≤ n ∧ kTB K n
/-- goods: none is below 0, and all together are no more than the goods of the calls -/
def sumG (f : Nat → zPe) : Nat → Int
  | 0 => 0
  | k + 1 => sumG f k + (f k).2.2.2.2.2.1.toInt
def cG (n : Nat) (K : zK) : Prop := (∀ p, p < K.1 13 → 0 ≤ (kpe K p).2.2.2.2.2.1.toInt) ∧ sumG (kpe K) (K.1 13) ≤ 1000000 * n
def tN (K : zK) (S : zS) : Prop := K.1 1 = S.1 1 ∧ K.1 2 = S.1 2 ∧ K.1 4 = S.1 4 ∧ K.1 9 = S.1 9 ∧ K.1 13 = S.1 13 ∧ K.1 25 = S.1 25 ∧ K.1 33 = S.1 33 ∧ K.2.1 = S.2.1
def tieP (K : zK) (S : zS) : Prop := cP (K.1 13) (kpe K) S.2.2.1 (S.2.2.2 19) ∧ cPi (K.1 1) (K.1 2) (K.1 13) (kpe K) ∧ cP0 (K.1 13) S.2.2.1 (S.2.2.2 19)
def tieM (K : zK) (S : zS) : Prop := cM (K.1 25) (kma K) S.2.2.1 ∧ cMi (K.1 25) (kma K) ∧ cM0 (K.1 25) S.2.2.1
def tieS (K : zK) (S : zS) : Prop := cS (K.1 33) (ksu K) S.2.2.1 (S.2.2.2 42) (S.2.2.2 43) ∧ cSi (K.1 1) (K.1 33) (ksu K) ∧ cS0 (K.1 33) S.2.2.1 (S.2.2.2 42) (S.2.2.2 43) ∧ cW (K.1 33) (K.1 13) (kws K) (S.2.2.1 41)
def tieC (K : zK) (S : zS) : Prop := cL (K.1 1) (K.1 2) (K.1 4) (kch K) S.2.2.1 ∧ cR (K.1 1) (K.1 9) (kch K) S.2.2.1 ∧ cC (K.1 1) (K.1 2) (kch K) (S.2.2.1 3) ∧ cFt (K.1 1) (K.1 2) (K.1 13) (kch K) (kpe K) S.2.2.1
def tie (n : Nat) (K : zK) (S : zS) : Prop := (cNb n K ∧ cG n K) ∧ (iK K ∧ ∀ j, ktl K j = none) ∧ tN K S ∧ tieP K S ∧ tieM K S ∧ tieS K S ∧ tieC K S
-- chronicles
theorem chOn_ix (fd fn : Nat → Int32) (d : Int32) : ∀ k, ∃ i, i ≤ k ∧ chOn fd fn d k = fn i ∧ (i = 0 ∨ fd i ≤ d)
  | 0 => ⟨0, Nat.le_refl _, rfl, Or.inl rfl⟩
  | k + 1 => by
    unfold chOn
    split
    · exact ⟨k + 1, Nat.le_refl _, rfl, Or.inr (by assumption)⟩
    · obtain ⟨i, h1, h2, h3⟩ := chOn_ix fd fn d k
      exact ⟨i, by omega, h2, h3⟩
theorem chOn_cong {fd fn gd gn : Nat → Int32} {d : Int32} : ∀ k, (∀ i, i ≤ k → fd i = gd i ∧ fn i = gn i) → chOn fd fn d k = chOn gd gn d k
  | 0, h => (h 0 (Nat.le_refl _)).2
  | k + 1, h => by
    unfold chOn
    rw [(h (k + 1) (Nat.le_refl _)).1, (h (k + 1) (Nat.le_refl _)).2, chOn_cong k (fun i hi => h i (by omega))]
theorem chV_new {c : zCh} {d : Int32} (h : c.2.2.1 c.2.1 ≤ d) : chV c d = chN c := by
  obtain ⟨cap, k, fd, fn⟩ := c
  cases k with
  | zero => rfl
  | succ k => exact if_pos h
/-- a chronicle told on today -/
theorem chV_tell {c : zCh} {td t d0 d : Nat} {x : Int32} (h0 : c.2.2.1 0 = nI d0) (ht : c.2.2.1 c.2.1 = nI t) (htd : t ≤ td) (hb : td ≤ 30000) (hd0 : d0 ≤ d) (hd : d ≤ 30000) : chV (tellS c (nI td) x) (nI d) = if td ≤ d then x else chV c (nI d) := by
  obtain ⟨cap, k, fd, fn⟩ := c
  dsimp only at h0 ht
  unfold tellS
  dsimp only
  by_cases e : fd k = nI td
  · rw [if_pos e]
    rw [ht] at e
    have e2 : t = td := (nI_eq (by omega) (by omega)).mp e
    subst e2
    show chOn fd (upd fn k x) (nI d) k = _
    cases k with
    | zero =>
      have : d0 = t := (nI_eq (by omega) (by omega)).mp (h0.symm.trans ht)
      rw [if_pos (by omega)]
      exact pk_us
    | succ k =>
      show (if fd (k + 1) ≤ nI d then upd fn (k + 1) x (k + 1) else chOn fd (upd fn (k + 1) x) (nI d) k) = if t ≤ d then x else (if fd (k + 1) ≤ nI d then fn (k + 1) else chOn fd fn (nI d) k)
      rw [ht]
      by_cases hle : t ≤ d
      · rw [if_pos (nI_le hle (by omega)), if_pos hle, pk_us]
      · rw [if_neg (nI_ge (by omega) (by omega)), if_neg hle, if_neg (nI_ge (by omega) (by omega))]
        exact chOn_cong k (fun i hi => ⟨rfl, pk_un (by omega)⟩)
  · rw [if_neg e]
    have key : ∀ (gd gn : Nat → Int32), (∀ i, i ≤ k → gd i = fd i ∧ gn i = fn i) → chOn (upd gd (k + 1) (nI td)) (upd gn (k + 1) x) (nI d) (k + 1) = if td ≤ d then x else chOn fd fn (nI d) k := by
      intro gd gn hg
      show (if upd gd (k + 1) (nI td) (k + 1) ≤ nI d then upd gn (k + 1) x (k + 1) else chOn (upd gd (k + 1) (nI td)) (upd gn (k + 1) x) (nI d) k) = _
      rw [pk_us, pk_us]
      by_cases hle : td ≤ d
      · rw [if_pos (nI_le hle (by omega)), if_pos hle]
      · rw [if_neg (nI_ge (by omega) (by omega)), if_neg hle]
        exact chOn_cong k (fun i hi => ⟨(pk_un (by omega)).trans (hg i hi).1, (pk_un (by omega)).trans (hg i hi).2⟩)
    split
    · exact key fd fn (fun _ _ => ⟨rfl, rfl⟩)
    · exact key _ _ (fun i hi => ⟨if_pos (by omega), if_pos (by omega)⟩)
theorem tell_0 {c : zCh} {td : Int32} {x : Int32} : (tellS c td x).2.2.1 0 = c.2.2.1 0 := by
  unfold tellS
  split
  · rfl
  · split
    · show upd c.2.2.1 (c.2.1 + 1) td 0 = _
      exact pk_un (by omega)
    · show upd (ext (c.2.1 + 1) c.2.2.1) (c.2.1 + 1) td 0 = _
      exact (pk_un (by omega)).trans (if_pos (by omega))
theorem tell_new {c : zCh} {td : Int32} {x : Int32} : (tellS c td x).2.2.1 (tellS c td x).2.1 = td := by
  unfold tellS
  split
  · assumption
  · split
    · exact pk_us
    · exact pk_us
theorem tell_k {c : zCh} {td : Int32} {x : Int32} : (tellS c td x).2.1 ≤ c.2.1 + 1 := by
  unfold tellS
  split
  · exact Nat.le_succ _
  · split <;> exact Nat.le_refl _
theorem tell_W {c : zCh} {td : Int32} {x : Int32} (h : chW c) (hk : c.2.1 ≤ 1000) : chW (tellS c td x) := by
  obtain ⟨h1, h2, h3⟩ := h
  unfold tellS
  split
  · exact ⟨h1, h2, h3⟩
  · split
    · exact ⟨by show c.2.1 + 1 + 1 ≤ c.1; omega, h2, h3⟩
    · exact ⟨by show c.2.1 + 1 + 1 ≤ 2 * (c.2.1 + 1); omega, by show 2 ≤ 2 * (c.2.1 + 1); omega, by show 2 * (c.2.1 + 1) ≤ 4096; omega⟩
