theorem linfo_el {K : zK} {j : Nat} {q : zLi} (h : linfo K j = some q) (i : Nat) : 9 ≤ (q.2.2.2 i).1 := by
  unfold linfo lof at h
  split at h
  · cases h; exact Nat.le_of_ble_eq_true rfl
  · split at h
    · cases h; exact Nat.le_of_ble_eq_true rfl
    · split at h
      · cases h; exact Nat.le_of_ble_eq_true rfl
      · split at h
        · cases h; exact Nat.le_of_ble_eq_true rfl
        · split at h
          · split at h
            · cases h; show 9 ≤ 13; decide
            · cases h
          · cases e : ktl K j with
            | none => rw [e] at h; cases h
            | some x => rw [e] at h; cases h; show 9 ≤ 10; decide
section K10
variable {g : zGh} {K : zK} {X : zg → Option va_E} {ad ad1 : zg → Nat} {M M1 : zM}
theorem kva_tell {i : Nat} {c : zCh} (hs : ∀ k b, k ≠ 4 → k ≠ 5 → ad1 (k, b) = ad (k, b)) (h4 : ∀ b, b ≠ i → ad1 (4, b) = ad (4, b)) (h5 : ∀ b, b ≠ i → ad1 (5, b) = ad (5, b)) {u : zg} (h : u ≠ (3, i)) (hu4 : u ≠ (4, i)) (hu5 : u ≠ (5, i)) : kva g (sch K i c) ad1 X u = kva g K ad X u := by
  obtain ⟨a, b⟩ := u
  have hl : ∀ j, linfo (sch K i c) j = linfo K j := fun _ => rfl
  match a, h, hu4, hu5 with
  | 0, _, _, _ => simp [kva, mainE, sch, hs]
  | 1, _, _, _ => simp [kva, sch, hs]
  | 2, _, _, _ => simp [kva, sch, hs]
  | 3, h, _, _ =>
    have hb : b ≠ i := fun e => h (by rw [e])
    show (if chA K b then some (chrE ad1 b (va_up (kch K) i c b)) else none) = _
    rw [up_ne hb, chrE, h4 b hb, h5 b hb]
    rfl
  | 4, _, h, _ =>
    have hb : b ≠ i := fun e => h (by rw [e])
    show (if chA K b then some (zai g (va_up (kch K) i c b).1 (va_up (kch K) i c b).2.2.1) else none) = _
    rw [up_ne hb]
    rfl
  | 5, _, _, h =>
    have hb : b ≠ i := fun e => h (by rw [e])
    show (if chA K b then some (zai g (va_up (kch K) i c b).1 (va_up (kch K) i c b).2.2.2) else none) = _
    rw [up_ne hb]
    rfl
  | 6, _, _, _ => simp [kva, hs]
  | 7, _, _, _ =>
    show (linfo K b).map (lisE g ad1 b) = (linfo K b).map (lisE g ad b)
    rw [show lisE g ad1 b = lisE g ad b from funext fun q => by unfold lisE; rw [hs 8 b (by decide) (by decide)]]
  | 8, _, _, _ =>
    show ((linfo K b).bind fun q => if q.2.1 = 0 then none else some (lirE g ad1 q)) = ((linfo K b).bind fun q => if q.2.1 = 0 then none else some (lirE g ad q))
    cases e : linfo K b with
    | none => rfl
    | some q =>
      have : lirE g ad1 q = lirE g ad q := by
        unfold lirE
        congr 1
        funext j
        have := linfo_el e j
        rw [show ad1 (q.2.2.2 j) = ad (q.2.2.2 j) from hs (q.2.2.2 j).1 (q.2.2.2 j).2 (by omega) (by omega)]
      show (if q.2.1 = 0 then none else some (lirE g ad1 q)) = (if q.2.1 = 0 then none else some (lirE g ad q))
      rw [this]
  | 9, _, _, _ => simp [kva, sch, hs]
  | 10, _, _, _ => simp [kva, sch, perE, hs]
  | 11, _, _, _ => simp [kva, sch, marE, hs]
  | 12, _, _, _ => simp [kva, sch, suiE, hs]
  | 13, _, _, _ => simp [kva, sch, hs]
  | _ + 14, _, _, _ => rfl
/-- a chronicle told, its rows perhaps elsewhere -/
theorem zP.tell (hp : zP g K X ad M) {i : Nat} (hi : chA K i) {c : zCh} {d1 n1 : Nat} (hc : zChr g M1 (ad (3, i)) d1 n1 c.1 c.2.1 c.2.2.1 c.2.2.2) (hk : ∀ q e, M q = some e → q ≠ ad (3, i) → q ≠ ad (4, i) → q ≠ ad (5, i) → M1 q = some e)
    (hn : (d1 = ad (4, i) ∧ n1 = ad (5, i)) ∨ (M d1 = none ∧ M n1 = none)) : ∃ ad1, zP g (sch K i c) X ad1 M1 ∧ ∀ t : zg, t.1 ≠ 4 → t.1 ≠ 5 → ad1 t = ad t := by
  have hne : d1 ≠ n1 := hc.2.2.2.2.2
  refine ⟨fun t => if t = (4, i) then d1 else if t = (5, i) then n1 else ad t, ?_, fun t h4 h5 => ?_⟩
  · generalize hg : (fun t : zg => if t = (4, i) then d1 else if t = (5, i) then n1 else ad t) = ad1
    have hs : ∀ k b, k ≠ 4 → k ≠ 5 → ad1 (k, b) = ad (k, b) := fun k b h1 h2 => by rw [← hg]; simp [h1, h2]
    have h4 : ∀ b, b ≠ i → ad1 (4, b) = ad (4, b) := fun b hb => by rw [← hg]; simp [hb]
    have h5 : ∀ b, b ≠ i → ad1 (5, b) = ad (5, b) := fun b hb => by rw [← hg]; simp [hb]
    have e4 : ad1 (4, i) = d1 := by rw [← hg]; simp
    have e5 : ad1 (5, i) = n1 := by rw [← hg]; simp
    have hA : chA (sch K i c) i := hi
    have k3 : kva g (sch K i c) ad1 X (3, i) = some (zob 1 [.ref d1, .ref n1, .int (nI (c.2.1 + 1))]) := by
      show (if chA (sch K i c) i then some (chrE ad1 i (va_up (kch K) i c i)) else none) = _
      rw [if_pos hA, up_eq, chrE, e4, e5]
    have k4 : kva g (sch K i c) ad1 X (4, i) = some (zai g c.1 c.2.2.1) := by
      show (if chA (sch K i c) i then some (zai g (va_up (kch K) i c i).1 (va_up (kch K) i c i).2.2.1) else none) = _
      rw [if_pos hA, up_eq]
    have k5 : kva g (sch K i c) ad1 X (5, i) = some (zai g c.1 c.2.2.2) := by
      show (if chA (sch K i c) i then some (zai g (va_up (kch K) i c i).1 (va_up (kch K) i c i).2.2.2) else none) = _
      rw [if_pos hA, up_eq]
    have o3 : kva g K ad X (3, i) ≠ none := by show (if chA K i then _ else none) ≠ none; rw [if_pos hi]; simp
    have o4 : kva g K ad X (4, i) ≠ none := by show (if chA K i then _ else none) ≠ none; rw [if_pos hi]; simp
    have o5 : kva g K ad X (5, i) ≠ none := by show (if chA K i then _ else none) ≠ none; rw [if_pos hi]; simp
    refine zPic.mk' (M := M) hp (fun t => (t = (4, i) ∨ t = (5, i)) ∧ M d1 = none ∧ M n1 = none) (fun t e ht => ?_) (fun t ht => ?_) (fun t h _ => ?_) (fun t u h1 h2 _ _ he => ?_)
    · by_cases t3 : t = (3, i)
      · subst t3
        rw [k3] at ht
        rw [hs 3 i (by decide) (by decide), ← ht]
        exact hc.1
      · by_cases t4 : t = (4, i)
        · subst t4
          rw [k4] at ht
          rw [e4, ← ht]
          exact hc.2.1
        · by_cases t5 : t = (5, i)
          · subst t5
            rw [k5] at ht
            rw [e5, ← ht]
            exact hc.2.2.1
          · rw [kva_tell hs h4 h5 t3 t4 t5] at ht
            have e1 : ad1 t = ad t := by rw [← hg]; simp [t4, t5]
            rw [e1]
            exact hk _ _ (hp.1 t e ht) (fun e => t3 (hp.2 t _ (by rw [ht]; simp) o3 e)) (fun e => t4 (hp.2 t _ (by rw [ht]; simp) o4 e)) (fun e => t5 (hp.2 t _ (by rw [ht]; simp) o5 e))
    · by_cases t4 : t = (4, i)
      · subst t4
        rcases hn with ⟨a, b⟩ | ⟨a, b⟩
        · exact Or.inr ⟨o4, by rw [e4, a]⟩
        · exact Or.inl ⟨Or.inl rfl, a, b⟩
      · by_cases t5 : t = (5, i)
        · subst t5
          rcases hn with ⟨a, b⟩ | ⟨a, b⟩
          · exact Or.inr ⟨o5, by rw [e5, b]⟩
          · exact Or.inl ⟨Or.inr rfl, a, b⟩
        · have e1 : ad1 t = ad t := by rw [← hg]; simp [t4, t5]
          refine Or.inr ⟨?_, e1⟩
          by_cases t3 : t = (3, i)
          · rw [t3]; exact o3
          · rw [← kva_tell (c := c) hs h4 h5 t3 t4 t5]
            exact ht
    · rcases h.1 with rfl | rfl
      · rw [e4]; exact h.2.1
      · rw [e5]; exact h.2.2
    · rcases h1.1 with rfl | rfl <;> rcases h2.1 with rfl | rfl
      · rfl
      · rw [e4, e5] at he; exact absurd he hne
      · rw [e4, e5] at he; exact absurd he.symm hne
      · rfl
  · show (if t = (4, i) then d1 else if t = (5, i) then n1 else ad t) = ad t
    rw [if_neg (fun e => h4 (by rw [e])), if_neg (fun e => h5 (by rw [e]))]
def tellS (c : zCh) (d x : Int32) : zCh := if c.2.2.1 c.2.1 = d then (c.1, c.2.1, c.2.2.1, upd c.2.2.2 c.2.1 x) else if c.2.1 + 1 < c.1 then (c.1, c.2.1 + 1, upd c.2.2.1 (c.2.1 + 1) d, upd c.2.2.2 (c.2.1 + 1) x) else (2 * (c.2.1 + 1), c.2.1 + 1, upd (ext (c.2.1 + 1) c.2.2.1) (c.2.1 + 1) d, upd (ext (c.2.1 + 1) c.2.2.2) (c.2.1 + 1) x)
/-- whether it grows -/
def tgr (c : zCh) (d : Int32) : Bool := decide (¬ c.2.2.1 c.2.1 = d) && decide (¬ c.2.1 + 1 < c.1)
def tgC (c : zCh) (d : Int32) : Nat := if tgr c d = true then 2 else 0
def tgS (c : zCh) (d : Int32) : Nat := if tgr c d = true then 4 * (c.2.1 + 1) else 0
theorem k_tell (hp : zP g K X ad M) {i : Nat} (hi : chA K i) (hc : chW (kch K i)) (hk : (kch K i).2.1 ≤ 1000) (d x : Int32) : zCt g yX0_tell cX0_tell 3 none 3 82 mkV [.ref (ad (3, i)), .int d, .int x] M (tgC (kch K i) d) (tgS (kch K i) d) (fun _ M1 => ∃ ad1, zP g (sch K i (tellS (kch K i) d x)) X ad1 M1 ∧ ∀ t : zg, t.1 ≠ 4 → t.1 ≠ 5 → ad1 t = ad t) noX := by
  have h := hp.chr hi hc
  obtain ⟨c, hcc⟩ : ∃ c, c = kch K i := ⟨_, rfl⟩
  rw [← hcc] at h hc hk ⊢
  by_cases h1 : c.2.2.1 c.2.1 = d
  · have e1 : tellS c d x = (c.1, c.2.1, c.2.2.1, upd c.2.2.2 c.2.1 x) := if_pos h1
    have e2 : tgr c d = false := by unfold tgr; simp [h1]
    rw [tgC, tgS, e2, e1]
    exact (c_tellA d x h h1).post fun _ M1 ⟨z1, z2⟩ => hp.tell hi (c := (c.1, c.2.1, c.2.2.1, upd c.2.2.2 c.2.1 x)) z1 z2 (Or.inl ⟨rfl, rfl⟩)
  · by_cases h2 : c.2.1 + 1 < c.1
    · have e1 : tellS c d x = (c.1, c.2.1 + 1, upd c.2.2.1 (c.2.1 + 1) d, upd c.2.2.2 (c.2.1 + 1) x) := by unfold tellS; rw [if_neg h1, if_pos h2]
      have e2 : tgr c d = false := by unfold tgr; simp [h2]
      rw [tgC, tgS, e2, e1]
      exact (c_tellB d x h h1 h2).post fun _ M1 ⟨z1, z2⟩ => hp.tell hi (c := (c.1, c.2.1 + 1, upd c.2.2.1 (c.2.1 + 1) d, upd c.2.2.2 (c.2.1 + 1) x)) z1 z2 (Or.inl ⟨rfl, rfl⟩)
    · have e1 : tellS c d x = (2 * (c.2.1 + 1), c.2.1 + 1, upd (ext (c.2.1 + 1) c.2.2.1) (c.2.1 + 1) d, upd (ext (c.2.1 + 1) c.2.2.2) (c.2.1 + 1) x) := by unfold tellS; rw [if_neg h1, if_neg h2]
      have e2 : tgr c d = true := by unfold tgr; simp [h1, h2]
      have e3 : c.1 = c.2.1 + 1 := by have := hc.1; omega
      rw [tgC, tgS, e2, e1, if_pos rfl, if_pos rfl]
      rw [e3] at h
      exact (c_tellC d x h h1 (by omega)).post fun _ M1 ⟨d1, n1, y1, y2, z1, z2⟩ => hp.tell hi (c := (2 * (c.2.1 + 1), c.2.1 + 1, upd (ext (c.2.1 + 1) c.2.2.1) (c.2.1 + 1) d, upd (ext (c.2.1 + 1) c.2.2.2) (c.2.1 + 1) x)) z1 (fun q e hq h3 _ _ => z2 q e hq h3) (Or.inr ⟨y1, y2⟩)
theorem tellS_W {c : zCh} (h : chW c) (hk : c.2.1 ≤ 1000) (d x : Int32) : chW (tellS c d x) := by
  obtain ⟨h1, h2, h3⟩ := h
  unfold tellS chW
  split
  · exact ⟨h1, h2, h3⟩
  · split
    · exact ⟨by dsimp only; omega, h2, h3⟩
    · exact ⟨by dsimp only; omega, by dsimp only; omega, by dsimp only; omega⟩
theorem tellS_k (c : zCh) (d x : Int32) : (tellS c d x).2.1 ≤ c.2.1 + 1 := by
  unfold tellS
  split
  · exact Nat.le_succ _
  · split <;> exact Nat.le_refl _
/-- what it costs is what its rows grow by -/
theorem tg_cap {c : zCh} (h : chW c) (d x : Int32) : tgC c d + c.1 ≤ (tellS c d x).1 ∧ tgS c d + 4 * c.1 ≤ 4 * (tellS c d x).1 := by
  obtain ⟨h1, h2, h3⟩ := h
  unfold tgC tgS tgr tellS
  by_cases a : c.2.2.1 c.2.1 = d
  · simp [a]
  · by_cases b : c.2.1 + 1 < c.1
    · simp [a, b]
    · have e : c.1 = c.2.1 + 1 := by omega
      simp [a, b]
      omega
end K10
