/-- the class's state: counters (by the places that the reference's have), the crown's goods, chronicles, persons, marriages, suits, witnesses by suits, lists that are thrown away -/
abbrev zCh : Type := Nat × Nat × (Nat → Int32) × (Nat → Int32)
abbrev zPe : Type := Bool × Option Nat × Option Nat × Int32 × Bool × Int64 × Int32 × Int32 × Int32
abbrev zMa : Type := Nat × Nat × Int32 × Int32 × Int32 × Bool × Bool
abbrev zSu : Type := Nat × Nat × Int32 × Int32 × Int32 × Bool × Int32 × Int32 × Bool
abbrev zWs : Type := Nat × (Nat → Nat) × (Nat → Bool)
abbrev zTl : Type := Nat × Nat × Int32 × (Nat → Nat)
abbrev zK : Type := (Nat → Nat) × Int64 × (Nat → zCh) × (Nat → zPe) × (Nat → zMa) × (Nat → zSu) × (Nat → zWs) × (Nat → Option zTl)
abbrev kch (K : zK) : Nat → zCh := K.2.2.1
abbrev kpe (K : zK) : Nat → zPe := K.2.2.2.1
abbrev kma (K : zK) : Nat → zMa := K.2.2.2.2.1
abbrev ksu (K : zK) : Nat → zSu := K.2.2.2.2.2.1
abbrev kws (K : zK) : Nat → zWs := K.2.2.2.2.2.2.1
abbrev ktl (K : zK) : Nat → Option zTl := K.2.2.2.2.2.2.2
def sN (K : zK) (j v : Nat) : zK := (va_up K.1 j v, K.2)
def sC (K : zK) (v : Int64) : zK := (K.1, v, K.2.2)
def sch (K : zK) (i : Nat) (x : zCh) : zK := (K.1, K.2.1, va_up K.2.2.1 i x, K.2.2.2)
def spe (K : zK) (i : Nat) (x : zPe) : zK := (K.1, K.2.1, K.2.2.1, va_up K.2.2.2.1 i x, K.2.2.2.2)
def sma (K : zK) (i : Nat) (x : zMa) : zK := (K.1, K.2.1, K.2.2.1, K.2.2.2.1, va_up K.2.2.2.2.1 i x, K.2.2.2.2.2)
def ssu (K : zK) (i : Nat) (x : zSu) : zK := (K.1, K.2.1, K.2.2.1, K.2.2.2.1, K.2.2.2.2.1, va_up K.2.2.2.2.2.1 i x, K.2.2.2.2.2.2)
def sws (K : zK) (i : Nat) (x : zWs) : zK := (K.1, K.2.1, K.2.2.1, K.2.2.2.1, K.2.2.2.2.1, K.2.2.2.2.2.1, va_up K.2.2.2.2.2.2.1 i x, K.2.2.2.2.2.2.2)
def stl (K : zK) (i : Nat) (x : Option zTl) : zK := (K.1, K.2.1, K.2.2.1, K.2.2.2.1, K.2.2.2.2.1, K.2.2.2.2.2.1, K.2.2.2.2.2.2.1, va_up K.2.2.2.2.2.2.2 i x)
/-- a person's fields, changed -/
def peGoo (x : zPe) (v : Int64) : zPe := (x.1, x.2.1, x.2.2.1, x.2.2.2.1, x.2.2.2.2.1, v, x.2.2.2.2.2.2)
def peTurn (x : zPe) (a b : Int32) : zPe := (x.1, x.2.1, x.2.2.1, x.2.2.2.1, x.2.2.2.2.1, x.2.2.2.2.2.1, a, b, x.2.2.2.2.2.2.2.2)
def peLea (x : zPe) (v : Int32) : zPe := (x.1, x.2.1, x.2.2.1, x.2.2.2.1, x.2.2.2.2.1, x.2.2.2.2.2.1, x.2.2.2.2.2.2.1, x.2.2.2.2.2.2.2.1, v)
def peDie (x : zPe) : zPe := (x.1, x.2.1, x.2.2.1, x.2.2.2.1, false, x.2.2.2.2.2)
/-- the chronicle of a law's number, of a community's recognition, of a person's faiths; those of the rules are 0 to 3 -/
def lch (l w : Nat) : Nat := 4 + 8 * l + w
def rch (c : Nat) : Nat := 19 + 8 * c
def fch (p : Nat) : Nat := 100 + p
abbrev chA (K : zK) (i : Nat) : Prop := i < 4 ∨ (4 ≤ i ∧ i < 12 + 8 * K.1 2 ∧ i ≠ 11) ∨ (100 ≤ i ∧ i < 100 + K.1 13)
/-- how long the row of a list is, by what it holds -/
def lcap (n : Nat) : Nat := if n = 0 then 0 else if n ≤ 10 then 10 else if n ≤ 15 then 15 else if n ≤ 22 then 22 else if n ≤ 33 then 33 else 49
abbrev zLi : Type := Nat × Nat × Int32 × (Nat → zg)
def lof (n : Nat) (el : Nat → zg) : zLi := (n, lcap n, nI n, el)
/-- the lists: communities, persons, marriages, suits, the witnesses of each suit, lists that are thrown away -/
def linfo (K : zK) (j : Nat) : Option zLi :=
  if j = 0 then some (lof (K.1 2) (fun i => (9, i))) else if j = 1 then some (lof (K.1 13) (fun i => (10, i))) else if j = 2 then some (lof (K.1 25) (fun i => (11, i))) else if j = 3 then some (lof (K.1 33) (fun i => (12, i)))
  else if j < 24 then (if j - 4 < K.1 33 then some (lof (kws K (j - 4)).1 (fun i => (13, 64 * (j - 4) + i))) else none)
  else (ktl K j).map fun q => (q.1, q.2.1, q.2.2.1, fun i => (10, q.2.2.2 i))
def perE (ad : zg → Nat) (i : Nat) (x : zPe) : va_E := zob 5 (perF (nI i) (b2i x.1) (x.2.1.map fun q => ad (10, q)) (x.2.2.1.map fun q => ad (10, q)) x.2.2.2.1 (ad (3, 100 + i)) (b2i x.2.2.2.2.1) x.2.2.2.2.2.1 x.2.2.2.2.2.2.1 x.2.2.2.2.2.2.2.1 x.2.2.2.2.2.2.2.2)
def marE (ad : zg → Nat) (x : zMa) : va_E := zob 4 (marF (ad (10, x.1)) (ad (10, x.2.1)) x.2.2.1 x.2.2.2.1 x.2.2.2.2.1 (b2i x.2.2.2.2.2.1) (b2i x.2.2.2.2.2.2))
def suiE (ad : zg → Nat) (i : Nat) (x : zSu) : va_E := zob 6 (suiF (ad (10, x.1)) (ad (10, x.2.1)) x.2.2.1 x.2.2.2.1 (ad (7, 4 + i)) x.2.2.2.2.1 (b2i x.2.2.2.2.2.1) x.2.2.2.2.2.2.1 x.2.2.2.2.2.2.2.1 (b2i x.2.2.2.2.2.2.2.2))
def mainE (ad : zg → Nat) (K : zK) : va_E := zob 8 [.ref (ad (1, 0)), .ref (ad (7, 0)), .ref (ad (6, 0)), .ref (ad (7, 1)), .ref (ad (7, 2)), .ref (ad (7, 3)), .int (nI (K.1 4)), .int (nI (K.1 9)), .int (nI (K.1 1)), .long K.2.1]
def lisE (g : zGh) (ad : zg → Nat) (j : Nat) (q : zLi) : va_E := zob 0 [.int q.2.2.1, .ref (if q.2.1 = 0 then g.2.2.2.1 4 else ad (8, j)), .int (nI q.1)]
def lirE (g : zGh) (ad : zg → Nat) (q : zLi) : va_E := zao g q.2.1 (fun i => if i < q.1 then some (ad (q.2.2.2 i)) else none)
def chrE (ad : zg → Nat) (i : Nat) (x : zCh) : va_E := zob 1 [.ref (ad (4, i)), .ref (ad (5, i)), .int (nI (x.2.1 + 1))]
/-- what lies at each tag; X: what is not the class's -/
def kva (g : zGh) (K : zK) (ad : zg → Nat) (X : zg → Option va_E) (t : zg) : Option va_E :=
  match t.1 with
  | 0 => if t.2 = 0 then some (mainE ad K) else none
  | 1 => if t.2 ≤ K.1 2 then some (zob 3 [.ref (ad (2, t.2))]) else none
  | 2 => if t.2 ≤ K.1 2 then some (zac g 7 (fun w => if w < 7 then some (ad (3, lch t.2 w)) else none)) else none
  | 3 => if chA K t.2 then some (chrE ad t.2 (kch K t.2)) else none
  | 4 => if chA K t.2 then some (zai g (kch K t.2).1 (kch K t.2).2.2.1) else none
  | 5 => if chA K t.2 then some (zai g (kch K t.2).1 (kch K t.2).2.2.2) else none
  | 6 => if t.2 = 0 then some (zac g 4 (fun w => if w < 4 then some (ad (3, w)) else none)) else none
  | 7 => (linfo K t.2).map (lisE g ad t.2)
  | 8 => (linfo K t.2).bind fun q => if q.2.1 = 0 then none else some (lirE g ad q)
  | 9 => if t.2 < K.1 2 then some (zob 2 [.ref (ad (1, t.2 + 1)), .ref (ad (3, rch t.2))]) else none
  | 10 => if t.2 < K.1 13 then some (perE ad t.2 (kpe K t.2)) else none
  | 11 => if t.2 < K.1 25 then some (marE ad (kma K t.2)) else none
  | 12 => if t.2 < K.1 33 then some (suiE ad t.2 (ksu K t.2)) else none
  | 13 => if t.2 / 64 < K.1 33 ∧ t.2 % 64 < (kws K (t.2 / 64)).1 then some (zob 7 [.ref (ad (10, (kws K (t.2 / 64)).2.1 (t.2 % 64))), .int (b2i ((kws K (t.2 / 64)).2.2 (t.2 % 64)))]) else none
  | _ => X t
def zP (g : zGh) (K : zK) (X : zg → Option va_E) (ad : zg → Nat) (M : zM) : Prop := zPic ad (kva g K ad X) M
def chW (x : zCh) : Prop := x.2.1 + 1 ≤ x.1 ∧ 2 ≤ x.1 ∧ x.1 ≤ 4096
section ZP
variable {g : zGh} {K : zK} {X : zg → Option va_E} {ad : zg → Nat} {M : zM}
theorem zP.main (h : zP g K X ad M) : M (ad (0, 0)) = some (mainE ad K) := zPic.at h rfl
theorem zP.lawo (h : zP g K X ad M) {l : Nat} (hl : l ≤ K.1 2) : M (ad (1, l)) = some (zob 3 [.ref (ad (2, l))]) := zPic.at h (if_pos hl)
theorem zP.lawr (h : zP g K X ad M) {l : Nat} (hl : l ≤ K.1 2) : M (ad (2, l)) = some (zac g 7 (fun w => if w < 7 then some (ad (3, lch l w)) else none)) := zPic.at h (if_pos hl)
theorem zP.rul (h : zP g K X ad M) : M (ad (6, 0)) = some (zac g 4 (fun w => if w < 4 then some (ad (3, w)) else none)) := zPic.at h rfl
theorem zP.com (h : zP g K X ad M) {c : Nat} (hc : c < K.1 2) : M (ad (9, c)) = some (zob 2 [.ref (ad (1, c + 1)), .ref (ad (3, rch c))]) := zPic.at h (if_pos hc)
theorem zP.per (h : zP g K X ad M) {p : Nat} (hp : p < K.1 13) : M (ad (10, p)) = some (perE ad p (kpe K p)) := zPic.at h (if_pos hp)
theorem zP.mar (h : zP g K X ad M) {m : Nat} (hm : m < K.1 25) : M (ad (11, m)) = some (marE ad (kma K m)) := zPic.at h (if_pos hm)
theorem zP.sui (h : zP g K X ad M) {s : Nat} (hs : s < K.1 33) : M (ad (12, s)) = some (suiE ad s (ksu K s)) := zPic.at h (if_pos hs)
theorem zP.wit (h : zP g K X ad M) {s i : Nat} (hs : s < K.1 33) (hi : i < (kws K s).1) (h64 : (kws K s).1 ≤ 64) : M (ad (13, 64 * s + i)) = some (zob 7 [.ref (ad (10, (kws K s).2.1 i)), .int (b2i ((kws K s).2.2 i))]) := by
  have e1 : (64 * s + i) / 64 = s := by omega
  have e2 : (64 * s + i) % 64 = i := by omega
  refine zPic.at h ?_
  show (if (64 * s + i) / 64 < K.1 33 ∧ (64 * s + i) % 64 < (kws K ((64 * s + i) / 64)).1 then _ else _) = _
  rw [e1, e2, if_pos ⟨hs, hi⟩]
theorem zP.chr (h : zP g K X ad M) {i : Nat} (hi : chA K i) (hc : chW (kch K i)) : zChr g M (ad (3, i)) (ad (4, i)) (ad (5, i)) (kch K i).1 (kch K i).2.1 (kch K i).2.2.1 (kch K i).2.2.2 :=
  ⟨zPic.at h (if_pos hi), zPic.at h (if_pos hi), zPic.at h (if_pos hi), hc.1, Nat.le_trans hc.2.2 (by decide), zPic.inj h (t := (4, i)) (u := (5, i)) (if_pos hi) (if_pos hi) (by simp)⟩
def liW (q : zLi) : Prop := (q.2.1 = 0 ∧ q.1 = 0) ∨ ((q.2.1 = 10 ∨ q.2.1 = 15 ∨ q.2.1 = 22 ∨ q.2.1 = 33 ∨ q.2.1 = 49) ∧ q.1 ≤ q.2.1)
theorem lof_W {n : Nat} {el : Nat → zg} (h : n ≤ 49) : liW (lof n el) := by
  unfold liW lof lcap
  dsimp only
  by_cases h0 : n = 0
  · exact Or.inl ⟨if_pos h0, h0⟩
  · right
    rw [if_neg h0]
    split
    · exact ⟨Or.inl rfl, by assumption⟩
    · split
      · exact ⟨Or.inr (Or.inl rfl), by assumption⟩
      · split
        · exact ⟨Or.inr (Or.inr (Or.inl rfl)), by assumption⟩
        · split
          · exact ⟨Or.inr (Or.inr (Or.inr (Or.inl rfl))), by assumption⟩
          · exact ⟨Or.inr (Or.inr (Or.inr (Or.inr rfl))), h⟩
theorem zP.lst (h : zP g K X ad M) {j : Nat} {q : zLi} (hj : linfo K j = some q) (hq : liW q) : zLq g M (ad (7, j)) q.1 (fun i => if i < q.1 then some (ad (q.2.2.2 i)) else none) := by
  have h7 : M (ad (7, j)) = some (lisE g ad j q) := zPic.at h (show (linfo K j).map _ = _ by rw [hj]; rfl)
  unfold lisE at h7
  rcases hq with ⟨h1, h2⟩ | ⟨h1, h2⟩
  · rw [if_pos h1, h2] at h7
    exact Or.inl ⟨h2, _, h7⟩
  · have h0 : ¬ q.2.1 = 0 := by omega
    rw [if_neg h0] at h7
    have h8 : M (ad (8, j)) = some (lirE g ad q) := zPic.at h (show (linfo K j).bind _ = _ by rw [hj]; exact if_neg h0)
    exact Or.inr ⟨ad (8, j), q.2.1, _, ⟨h7, h8, h2, by omega, by omega⟩, h1⟩
end ZP
theorem up_ne {α : Type} {f : Nat → α} {j i : Nat} {v : α} (h : i ≠ j) : va_up f j v i = f i := if_neg h
theorem up_eq {α : Type} {f : Nat → α} {j : Nat} {v : α} : va_up f j v j = v := if_pos rfl
/-- a picture out of another one: some tags are new (or lie elsewhere now), the others lie where they lay -/
theorem zPic.mk' {ad ad1 : zg → Nat} {va va1 : zg → Option va_E} {M M1 : zM} (h : zPic ad va M) (N : zg → Prop) (h1 : ∀ t e, va1 t = some e → M1 (ad1 t) = some e) (h2 : ∀ t, va1 t ≠ none → N t ∨ (va t ≠ none ∧ ad1 t = ad t))
    (h3 : ∀ t, N t → va1 t ≠ none → M (ad1 t) = none) (h4 : ∀ t u, N t → N u → va1 t ≠ none → va1 u ≠ none → ad1 t = ad1 u → t = u) : zPic ad1 va1 M1 := by
  have hx : ∀ t u, N t → va1 t ≠ none → va u ≠ none → ad1 u = ad u → ad1 t = ad1 u → False := fun t u ht hv hu e he => by
    have h5 := h3 t ht hv
    cases hw : va u with
    | none => exact hu hw
    | some f => rw [he, e, h.1 u f hw] at h5; cases h5
  refine ⟨h1, fun t u ht hu he => ?_⟩
  rcases h2 t ht with a | ⟨a, b⟩
  · rcases h2 u hu with c | ⟨c, d⟩
    · exact h4 t u a c ht hu he
    · exact (hx t u a ht c d he).elim
  · rcases h2 u hu with c | ⟨c, d⟩
    · exact (hx u t c hu a b he.symm).elim
    · exact h.2 t u a c (b ▸ d ▸ he)
section KVA
variable {g : zGh} {K K1 : zK} {X : zg → Option va_E} {ad : zg → Nat} {M : zM}
theorem kva_spe {p : Nat} {x : zPe} {u : zg} (h : u ≠ (10, p)) : kva g (spe K p x) ad X u = kva g K ad X u := by
  obtain ⟨a, b⟩ := u
  match a, h with
  | 0, _ => rfl
  | 1, _ => rfl
  | 2, _ => rfl
  | 3, _ => rfl
  | 4, _ => rfl
  | 5, _ => rfl
  | 6, _ => rfl
  | 7, _ => rfl
  | 8, _ => rfl
  | 9, _ => rfl
  | 10, h =>
    have hb : b ≠ p := fun e => h (by rw [e])
    show (if b < K.1 13 then some (perE ad b (va_up (kpe K) p x b)) else none) = _
    rw [up_ne hb]
    rfl
  | 11, _ => rfl
  | 12, _ => rfl
  | 13, _ => rfl
  | _ + 14, _ => rfl
theorem kva_sma {p : Nat} {x : zMa} {u : zg} (h : u ≠ (11, p)) : kva g (sma K p x) ad X u = kva g K ad X u := by
  obtain ⟨a, b⟩ := u
  match a, h with
  | 0, _ => rfl
  | 1, _ => rfl
  | 2, _ => rfl
  | 3, _ => rfl
  | 4, _ => rfl
  | 5, _ => rfl
  | 6, _ => rfl
  | 7, _ => rfl
  | 8, _ => rfl
  | 9, _ => rfl
  | 10, _ => rfl
  | 11, h =>
    have hb : b ≠ p := fun e => h (by rw [e])
    show (if b < K.1 25 then some (marE ad (va_up (kma K) p x b)) else none) = _
    rw [up_ne hb]
    rfl
  | 12, _ => rfl
  | 13, _ => rfl
  | _ + 14, _ => rfl
theorem kva_ssu {p : Nat} {x : zSu} {u : zg} (h : u ≠ (12, p)) : kva g (ssu K p x) ad X u = kva g K ad X u := by
  obtain ⟨a, b⟩ := u
  match a, h with
  | 0, _ => rfl
  | 1, _ => rfl
  | 2, _ => rfl
  | 3, _ => rfl
  | 4, _ => rfl
  | 5, _ => rfl
  | 6, _ => rfl
  | 7, _ => rfl
  | 8, _ => rfl
  | 9, _ => rfl
  | 10, _ => rfl
  | 11, _ => rfl
  | 12, h =>
    have hb : b ≠ p := fun e => h (by rw [e])
    show (if b < K.1 33 then some (suiE ad b (va_up (ksu K) p x b)) else none) = _
    rw [up_ne hb]
    rfl
  | 13, _ => rfl
  | _ + 14, _ => rfl
theorem chA_congr (h2 : K1.1 2 = K.1 2) (h13 : K1.1 13 = K.1 13) {i : Nat} : chA K1 i ↔ chA K i := by
  unfold chA
  rw [h2, h13]
/-- the main object's own numbers -/
theorem kva_main (h2 : K1.1 2 = K.1 2) (h13 : K1.1 13 = K.1 13) (h25 : K1.1 25 = K.1 25) (h33 : K1.1 33 = K.1 33) (hr : K1.2.2 = K.2.2) {u : zg} (h : u ≠ (0, 0)) : kva g K1 ad X u = kva g K ad X u := by
  obtain ⟨c1, g1, r1⟩ := K1
  obtain ⟨c, g0, r⟩ := K
  dsimp only at h2 h13 h25 h33 hr
  subst hr
  obtain ⟨a, b⟩ := u
  match a, h with
  | 0, h =>
    have hb : ¬ b = 0 := fun e => h (by rw [e])
    show (if b = 0 then _ else none) = (if b = 0 then _ else none)
    rw [if_neg hb, if_neg hb]
  | 1, _ => simp only [kva, h2]
  | 2, _ => simp only [kva, h2]
  | 3, _ => simp only [kva, chA, h2, h13]
  | 4, _ => simp only [kva, chA, h2, h13]
  | 5, _ => simp only [kva, chA, h2, h13]
  | 6, _ => rfl
  | 7, _ => simp only [kva, linfo, h2, h13, h25, h33]
  | 8, _ => simp only [kva, linfo, h2, h13, h25, h33]
  | 9, _ => simp only [kva, h2]
  | 10, _ => simp only [kva, h13]
  | 11, _ => simp only [kva, h25]
  | 12, _ => simp only [kva, h33]
  | 13, _ => simp only [kva, h33]
  | _ + 14, _ => rfl
theorem zP.put_per (h : zP g K X ad M) {p : Nat} (hp : p < K.1 13) (x : zPe) : zP g (spe K p x) X ad (zup M (ad (10, p)) (perE ad p x)) :=
  zPic.put h (t := (10, p)) (if_pos hp) (show (if p < K.1 13 then some (perE ad p (va_up (kpe K) p x p)) else none) = _ by rw [if_pos hp, up_eq]) (fun _ hu => kva_spe hu)
theorem zP.put_mar (h : zP g K X ad M) {p : Nat} (hp : p < K.1 25) (x : zMa) : zP g (sma K p x) X ad (zup M (ad (11, p)) (marE ad x)) :=
  zPic.put h (t := (11, p)) (if_pos hp) (show (if p < K.1 25 then some (marE ad (va_up (kma K) p x p)) else none) = _ by rw [if_pos hp, up_eq]) (fun _ hu => kva_sma hu)
theorem zP.put_sui (h : zP g K X ad M) {p : Nat} (hp : p < K.1 33) (x : zSu) : zP g (ssu K p x) X ad (zup M (ad (12, p)) (suiE ad p x)) :=
  zPic.put h (t := (12, p)) (if_pos hp) (show (if p < K.1 33 then some (suiE ad p (va_up (ksu K) p x p)) else none) = _ by rw [if_pos hp, up_eq]) (fun _ hu => kva_ssu hu)
theorem zP.put_main (h : zP g K X ad M) (h2 : K1.1 2 = K.1 2) (h13 : K1.1 13 = K.1 13) (h25 : K1.1 25 = K.1 25) (h33 : K1.1 33 = K.1 33) (hr : K1.2.2 = K.2.2) : zP g K1 X ad (zup M (ad (0, 0)) (mainE ad K1)) :=
  zPic.put h (t := (0, 0)) rfl rfl (fun _ hu => kva_main h2 h13 h25 h33 hr hu)
theorem zP.ne (h : zP g K X ad M) {t u : zg} (ht : kva g K ad X t ≠ none) (hu : kva g K ad X u ≠ none) (hne : t ≠ u) : ad t ≠ ad u := fun e => hne (h.2 t u ht hu e)
theorem zP.per_ne (h : zP g K X ad M) {p q : Nat} (hp : p < K.1 13) (hq : q < K.1 13) (hne : p ≠ q) : ad (10, p) ≠ ad (10, q) :=
  zPic.inj h (t := (10, p)) (u := (10, q)) (if_pos hp) (if_pos hq) (by simp [hne])
theorem zP.per_inj (h : zP g K X ad M) {p q : Nat} (hp : p < K.1 13) (hq : q < K.1 13) : ad (10, p) = ad (10, q) ↔ p = q :=
  ⟨fun e => Classical.byContradiction fun hne => h.per_ne hp hq hne e, fun e => by rw [e]⟩
end KVA
