def fT (S : zS) (p : Nat) : Nat := (S.2.2.1 20 p - 1).toNatClampNeg
/-- a person's faith on a day -/
def faithAt (S : zS) (p : Nat) (d : Int32) : Int32 := faithOn (S.2.2.1 21) p d (fT S p)
def courtF (its f1 f2 : Int32) : Int32 := if its = 3 then -1 else if its = 0 then f1 else if its = 1 then f2 else if f1 = f2 then f1 else -1
def courtC (S : zS) (f : Int32) (d : Nat) : Int32 := if f = -1 then -1 else if recBit S f.toNatClampNeg d = true then f else -1
def courtOn (S : zS) (m : Int32) (p q d : Nat) : Int32 := courtC S (courtF (ruleOn S m (nI d)) (faithAt S p (nI d)) (faithAt S q (nI d))) d
def isMinor (S : zS) (p : Nat) : Bool := decide (nI (S.1 1) - S.2.2.1 17 p < 5000)
def isGrown (S : zS) (p : Nat) : Bool := decide (S.2.2.1 18 p = 0) && !isMinor S p
def canWit (S : zS) (p : Nat) (its : Int32) : Bool := isGrown S p && decide (faithAt S p (nI (S.1 1)) = its)
def staysS (S : zS) (p : Nat) : zS := zsA (zsA S 22 (upd (S.2.2.1 22) p (-1))) 23 (upd (S.2.2.1 23) p (-1))
def takesS (S : zS) (p : Nat) (its : Int32) : zS := zsA (zsA S 21 (upd (S.2.2.1 21) (1024 * p + (S.2.2.1 20 p).toNatClampNeg) (8 * nI (S.1 1) + its))) 20 (upd (S.2.2.1 20) p (S.2.2.1 20 p + 1))
def parentOf (S : zS) (k : Nat) : Int32 := if S.2.2.1 16 k = -1 then S.2.2.1 15 k else S.2.2.1 16 k
def follows (S : zS) (k : Nat) (its : Int32) : Bool := decide (parentOf S k ≠ -1) && (decide (S.2.2.1 24 (parentOf S k).toNatClampNeg ≠ 0) && (decide (S.2.2.1 18 k = 0) && (isMinor S k && decide (faithAt S k (nI (S.1 1)) ≠ its))))
def lastsFor (r26 r27 r28 : Nat → Int32) (k : Nat) (p : Int32) : Bool := decide (r28 k = 0) && (decide (r26 k = p) || decide (r27 k = p))
def lastL (r26 r27 r28 : Nat → Int32) (p : Int32) : Nat → Nat
  | 0 => 0
  | k + 1 => lastL r26 r27 r28 p k + (if lastsFor r26 r27 r28 k p = true then 1 else 0)
def lasting (S : zS) (p : Int32) : Nat := lastL (S.2.2.1 26) (S.2.2.1 27) (S.2.2.1 28) p (S.1 25)
theorem lastL_le (r26 r27 r28 : Nat → Int32) (p : Int32) : ∀ k, lastL r26 r27 r28 p k ≤ k
  | 0 => Nat.le_refl _
  | k + 1 => by
    have := lastL_le r26 r27 r28 p k
    unfold lastL
    split <;> omega
def isChild (r15 r16 : Nat → Int32) (k : Nat) (p : Int32) : Bool := decide (r15 k = p) || decide (r16 k = p)
def unitsL (r14 r47 : Nat → Int32) (man : Nat) : Nat → Nat
  | 0 => 0
  | k + 1 => unitsL r14 r47 man k + (if r47 k = 0 then 0 else if r14 k = 0 then 1 else man)
def units (S : zS) (man : Nat) : Nat := unitsL (S.2.2.1 14) (S.2.2.1 47) man (S.1 13)
theorem unitsL_le (r14 r47 : Nat → Int32) (man : Nat) (h : man ≤ 2) : ∀ k, unitsL r14 r47 man k ≤ 2 * k
  | 0 => Nat.le_refl _
  | k + 1 => by
    have := unitsL_le r14 r47 man h k
    unfold unitsL
    split
    · omega
    · split <;> omega
/-- the lowest that gets something, looked for from above -/
def lowL (r47 : Nat → Int32) (np : Nat) : Nat → Int32
  | 0 => -1
  | r + 1 => if r47 (np - (r + 1)) = 0 then lowL r47 np r else nI (np - (r + 1))
def lowest (S : zS) : Int32 := lowL (S.2.2.1 47) (S.1 13) (S.1 13)
def isBarred (S : zS) (p q : Nat) (bars : Bool) : Bool := bars && decide (faithAt S p (nI (S.1 1)) ≠ faithAt S q (nI (S.1 1)))
def kidsL (r15 r16 r18 : Nat → Int32) (p : Int32) : Nat → Nat
  | 0 => 0
  | k + 1 => kidsL r15 r16 r18 p k + (if isChild r15 r16 k p = true ∧ r18 k = 0 then 1 else 0)
def kids (S : zS) (p : Int32) : Nat := kidsL (S.2.2.1 15) (S.2.2.1 16) (S.2.2.1 18) p (S.1 13)
def canJudge (S : zS) (s : Nat) : Bool := decide (S.2.2.1 40 s ≠ 0) || decide (S.2.2.1 38 s ≠ 0)
def heardL (r41 : Nat → Int32) (s : Nat) : Nat → Nat
  | 0 => 0
  | k + 1 => heardL r41 s k + (if r41 (40 * s + k) = 0 then 0 else 1)
def heard (S : zS) (s : Nat) : Nat := heardL (S.2.2.1 41) s 40
def canTest (S : zS) (s p : Nat) : Bool := decide (S.2.2.1 39 s = 0) && (isGrown S p && (decide (S.2.2.1 34 s ≠ nI p) && (decide (S.2.2.1 35 s ≠ nI p) && decide (S.2.2.1 41 (40 * s + p) = 0))))
def bothLive (S : zS) (s : Nat) : Bool := decide (S.2.2.1 18 (S.2.2.1 34 s).toNatClampNeg = 0) && decide (S.2.2.1 18 (S.2.2.1 35 s).toNatClampNeg = 0)
/-- what a witness weighs before a court that hears so -/
def wgt (r20 r21 r41 : Nat → Int32) (hears td : Int32) (s k : Nat) : Nat := if r41 (40 * s + k) = 0 then 0 else if (hears >>> (faithOn r21 k td (r20 k - 1).toNatClampNeg &&& 31)) &&& 1 = 1 then 2 else 1
def forL (r20 r21 r41 : Nat → Int32) (hears td : Int32) (s : Nat) (how : Int32) : Nat → Nat
  | 0 => 0
  | k + 1 => forL r20 r21 r41 hears td s how k + (if r41 (40 * s + k) = how then wgt r20 r21 r41 hears td s k else 0)
def isWonAt (S : zS) (s : Nat) (c : Int32) : Bool :=
  decide (forL (S.2.2.1 20) (S.2.2.1 21) (S.2.2.1 41) (lawOf S c 6 (nI (S.1 1))) (nI (S.1 1)) s 2 (S.1 13) < forL (S.2.2.1 20) (S.2.2.1 21) (S.2.2.1 41) (lawOf S c 6 (nI (S.1 1))) (nI (S.1 1)) s 1 (S.1 13)) && decide (4 ≤ forL (S.2.2.1 20) (S.2.2.1 21) (S.2.2.1 41) (lawOf S c 6 (nI (S.1 1))) (nI (S.1 1)) s 1 (S.1 13))
/-- a marriage from above -/
def lowM (r26 r27 r28 : Nat → Int32) (p : Int32) (nm : Nat) : Nat → Int32
  | 0 => -1
  | r + 1 => if lastsFor r26 r27 r28 (nm - (r + 1)) p = true then nI (nm - (r + 1)) else lowM r26 r27 r28 p nm r
def lowestMarriage (S : zS) (p : Int32) : Int32 := lowM (S.2.2.1 26) (S.2.2.1 27) (S.2.2.1 28) p (S.1 25) (S.1 25)

