def givL (r14 r47 : Nat → Int32) (man each : Int64) (r19 : Nat → Int64) (left : Int64) : Nat → (Nat → Int64) × Int64
  | 0 => (r19, left)
  | k + 1 => if r47 k = 0 then givL r14 r47 man each r19 left k else (vp_updL (givL r14 r47 man each r19 left k).1 k ((givL r14 r47 man each r19 left k).1 k + ((if r14 k = 0 then each else man * each) + (givL r14 r47 man each r19 left k).2)), 0)
def eachOf (S : zS) (cents : Int64) (man : Nat) : Int64 := cents / (nI (units S man)).toInt64
def leftOf (S : zS) (cents : Int64) (man : Nat) : Int64 := cents - eachOf S cents man * (nI (units S man)).toInt64
def givesS (S : zS) (cents : Int64) (man : Nat) : zS := zsL S 19 (givL (S.2.2.1 14) (S.2.2.1 47) (nI man).toInt64 (eachOf S cents man) (S.2.2.2 19) (leftOf S cents man) (S.1 13)).1
def clrL (r : Nat → Int32) : Nat → (Nat → Int32)
  | 0 => r
  | k + 1 => upd (clrL r k) k 0
def otherOf (S : zS) (k dead : Nat) : Nat := if S.2.2.1 26 k = nI dead then (S.2.2.1 27 k).toNatClampNeg else (S.2.2.1 26 k).toNatClampNeg
def isWid (S : zS) (k dead : Nat) (bars : Bool) : Bool := lastsFor (S.2.2.1 26) (S.2.2.1 27) (S.2.2.1 28) k (nI dead) && !isBarred S (otherOf S k dead) dead bars
def widL (S : zS) (dead : Nat) (bars : Bool) (r : Nat → Int32) : Nat → (Nat → Int32)
  | 0 => r
  | k + 1 => upd (widL S dead bars r k) (otherOf S k dead) (b2i (decide (widL S dead bars r k (otherOf S k dead) ≠ 0) || isWid S k dead bars))
def widS (S : zS) (dead : Nat) (bars : Bool) : zS := zsA S 47 (widL S dead bars (clrL (S.2.2.1 47) (S.1 13)) (S.1 25))
def dieK1 (A : zS) (p k : Nat) : zS := if A.2.2.1 26 k = nI p then paysS (zsA A 28 (upd (A.2.2.1 28) k 2)) k p (A.2.2.1 27 k).toNatClampNeg else zsA A 28 (upd (A.2.2.1 28) k 2)
def dieK (A : zS) (p k : Nat) : zS := zsA (dieK1 A p k) 29 (upd ((dieK1 A p k).2.2.1 29) k 0)
def dieL (A : zS) (p : Nat) : Nat → zS
  | 0 => A
  | k + 1 => if lastsFor ((dieL A p k).2.2.1 26) ((dieL A p k).2.2.1 27) ((dieL A p k).2.2.1 28) k (nI p) = true then dieK (dieL A p k) p k else dieL A p k
def heirB (S : zS) (p : Nat) (bars : Bool) (k : Nat) : Bool := isChild (S.2.2.1 15) (S.2.2.1 16) k (nI p) && (decide (S.2.2.1 18 k = 0) && !isBarred S k p bars)
def heirL (S : zS) (p : Nat) (bars : Bool) (r : Nat → Int32) : Nat → (Nat → Int32)
  | 0 => r
  | k + 1 => upd (heirL S p bars r k) k (b2i (heirB S p bars k))
def oneL (low : Int32) (r : Nat → Int32) : Nat → (Nat → Int32)
  | 0 => r
  | k + 1 => upd (oneL low r k) k (b2i (decide (nI k = low)))
theorem unitsL_pos {r14 r47 : Nat → Int32} {man : Nat} (hm : 1 ≤ man) : ∀ (n j : Nat), j < n → r47 j ≠ 0 → 0 < unitsL r14 r47 man n
  | n + 1, j, hj, h => by
    unfold unitsL
    by_cases e : j = n
    · subst e
      rw [if_neg h]
      split <;> omega
    · have := unitsL_pos (r14 := r14) hm n j (by omega) h
      omega
theorem lowL_some {r47 : Nat → Int32} {np : Nat} : ∀ r, r ≤ np → ¬ lowL r47 np r = -1 → ∃ j, j < np ∧ r47 j ≠ 0 ∧ lowL r47 np r = nI j
  | 0, _, h => absurd rfl h
  | r + 1, hr, h => by
    unfold lowL at h ⊢
    split
    · rename_i e
      rw [if_pos e] at h
      exact lowL_some r (by omega) h
    · rename_i e
      exact ⟨np - (r + 1), by omega, e, rfl⟩
theorem nIne {a b : Nat} (ha : a < 2 ^ 31) (hb : b < 2 ^ 31) (h : ¬ a = b) : ¬ nI a = nI b := fun e => h ((nI_eq ha hb).mp e)
theorem units_ne {u : Nat} (h : 0 < u) (hu : u ≤ 80) : ¬ (nI u).toInt64 = 0 := by
  rw [nI_l (by omega)]
  intro e
  exact absurd ((lN_eq (a := u) (b := 0) (by omega) (by decide)).mp e) (by omega)
def dieS0 (S : zS) (p : Nat) : zS := staysS (zsA (th S 0) 18 (upd (S.2.2.1 18) p 1)) p
def dieC (S : zS) (p : Nat) : Int32 := courtOn S 2 p p (S.1 1)
def dieB (S : zS) (p : Nat) : Bool := decide (lawOf S (dieC S p) 5 (nI (S.1 1)) = 1)
def dieS2 (S : zS) (p : Nat) : zS := dieL (widS (dieS0 S p) p (dieB S p)) p (S.1 25)
def dieS3 (S : zS) (p : Nat) : zS := zsL (dieS2 S p) 19 (vp_updL ((dieS2 S p).2.2.2 19) p 0)
def dieH (S : zS) (p : Nat) : Int64 := (dieS2 S p).2.2.2 19 p
def dieP (S : zS) (p : Nat) : Int64 := dieH S p * (lawOf S (dieC S p) 3 (nI (S.1 1))).toInt64 / 100
def dieS4 (S : zS) (p : Nat) : zS := if 0 < units (dieS3 S p) 1 then givesS (dieS3 S p) (dieP S p) 1 else dieS3 S p
def dieR (S : zS) (p : Nat) : Int64 := if 0 < units (dieS3 S p) 1 then dieH S p - dieP S p else dieH S p
def dieS5 (S : zS) (p : Nat) : zS := zsA (dieS4 S p) 47 (heirL (dieS4 S p) p (dieB S p) ((dieS4 S p).2.2.1 47) (S.1 13))
def dieSh (S : zS) (p : Nat) : Int32 := lawOf S (dieC S p) 0 (nI (S.1 1))
def dieS6 (S : zS) (p : Nat) : zS := if dieSh S p = 2 then zsA (dieS5 S p) 47 (oneL (lowest (dieS5 S p)) ((dieS5 S p).2.2.1 47) (S.1 13)) else dieS5 S p
def o_dies (S : zS) (p : Int32) : zS × Int64 :=
  if zix p (S.1 13) = false then (th S 1, 0) else if S.2.2.1 18 p.toNatClampNeg ≠ 0 then (th S 2, 0)
  else if lowest (dieS5 S p.toNatClampNeg) = -1 then (zsC (dieS5 S p.toNatClampNeg) (S.2.1 + dieR S p.toNatClampNeg), dieR S p.toNatClampNeg)
  else (givesS (dieS6 S p.toNatClampNeg) (dieR S p.toNatClampNeg) (if dieSh S p.toNatClampNeg = 1 then 2 else 1), 0)

