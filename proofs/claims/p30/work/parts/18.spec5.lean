theorem zjnL {g : zGh} {X : zX} {M : zM} {k n pc : Nat} {L : List (Option Value)} {st : List Value} (J : Nat) (P : Int64 → Prop) (h2 : (∀ x, P x → zG g X M k n J L (.long x :: st)) → zG g X M k n pc L st) (h1 : ∀ x, P x → zG g X M k n J L (.long x :: st)) : zG g X M k n pc L st := h2 h1
theorem zsN_N (S : zS) (j a b : Nat) : zsN (zsN S j a) j b = zsN S j b := by
  unfold zsN
  simp only [zup_up]
/-- the least of a dower that is owed and what the husband has, as longs -/
def payI (S : zS) (m h : Nat) : Int64 := if S.2.2.2 19 h < (S.2.2.1 29 m).toInt64 then S.2.2.2 19 h else (S.2.2.1 29 m).toInt64
def move (S : zS) (a b : Nat) (x : Int64) : zS := zsL (zsL S 19 (vp_updL (S.2.2.2 19) a (S.2.2.2 19 a - x))) 19 (vp_updL (vp_updL (S.2.2.2 19) a (S.2.2.2 19 a - x)) b (vp_updL (S.2.2.2 19) a (S.2.2.2 19 a - x) b + x))
def paysS (S : zS) (m h w : Nat) : zS := zsA (move S h w (payI S m h)) 29 (upd (S.2.2.1 29) m 0)
def divB (how : Int32) (by' both : Bool) : Bool := decide (how = 1) || ((decide (how = 0) && by') || (decide (how = 2) && both))
def divA (S : zS) (m : Nat) (by' : Bool) : zS := zsA (zsA S 31 (upd (S.2.2.1 31) m (b2i (decide (S.2.2.1 31 m ≠ 0) || by')))) 32 (upd (S.2.2.1 32) m (b2i (decide (S.2.2.1 32 m ≠ 0) || !by')))
def divHow (S : zS) (m : Nat) : Int32 := lawOf S (courtOn S 1 (S.2.2.1 26 m).toNatClampNeg (S.2.2.1 27 m).toNatClampNeg (S.1 1)) 1 (nI (S.1 1))
def divE (S : zS) (m : Nat) : zS := paysS (zsA S 28 (upd (S.2.2.1 28) m 1)) m (S.2.2.1 26 m).toNatClampNeg (S.2.2.1 27 m).toNatClampNeg
def o_divorce (S : zS) (m : Int32) (by' : Bool) : zS × Int32 :=
  if zix m (S.1 25) = false then (th S 1, 0)
  else if S.2.2.1 28 m.toNatClampNeg ≠ 0 then (th S 2, 0)
  else if divB (divHow S m.toNatClampNeg) by' (decide ((if by' = true then S.2.2.1 32 m.toNatClampNeg else S.2.2.1 31 m.toNatClampNeg) ≠ 0)) = true then (divE (divA (th S 0) m.toNatClampNeg by') m.toNatClampNeg, 1)
  else (divA (th S 0) m.toNatClampNeg by', 0)
def o_goods (S : zS) (p x : Int32) : zS × Int64 :=
  if zix p (S.1 13) = false then (th S 1, 0) else if rng x 1 1000000 = false then (th S 2, 0) else if S.2.2.1 18 p.toNatClampNeg ≠ 0 then (th S 3, 0)
  else (zsL (th S 0) 19 (vp_updL (S.2.2.2 19) p.toNatClampNeg (S.2.2.2 19 p.toNatClampNeg + x.toInt64)), S.2.2.2 19 p.toNatClampNeg + x.toInt64)
/-- whether a suit that is seised lies between these two -/
def voidL (r34 r35 r39 : Nat → Int32) (p q : Int32) : Nat → Bool
  | 0 => false
  | k + 1 => voidL r34 r35 r39 p q k || (((decide (r34 k = p) && decide (r35 k = q)) || (decide (r34 k = q) && decide (r35 k = p))) && decide (r39 k = 0))
def isVoid (S : zS) (p q : Int32) : Bool := voidL (S.2.2.1 34) (S.2.2.1 35) (S.2.2.1 39) p q (S.1 33)
def sueS (S : zS) (p q c x : Int32) (pr vd : Bool) : zS :=
  let n := S.1 33
  zsN (zsA (zsA (zsA (zsA (zsA (zsA (zsA S 34 (upd (S.2.2.1 34) n p)) 35 (upd (S.2.2.1 35) n q)) 36 (upd (S.2.2.1 36) n c)) 37 (upd (S.2.2.1 37) n x)) 38 (upd (S.2.2.1 38) n (b2i pr))) 39 (upd (S.2.2.1 39) n (b2i vd))) 44 (upd (S.2.2.1 44) n (-1))) 33 (n + 1)
def o_sue (S : zS) (p q c x : Int32) : zS × Int32 :=
  if (zix p (S.1 13) && (zix q (S.1 13) && okc S c)) = false then (th S 1, 0)
  else if (decide (p ≠ q) && rng x 1 1000000) = false then (th S 2, 0)
  else if (decide (S.2.2.1 18 p.toNatClampNeg = 0) && (decide (S.2.2.1 18 q.toNatClampNeg = 0) && decide (S.1 33 ≠ 20))) = false then (th S 3, 0)
  else (sueS (th S 0) p q c x (decide (courtOn S 3 p.toNatClampNeg q.toNatClampNeg (S.1 1) = c)) (isVoid S p q), nI (S.1 33))
def o_appear (S : zS) (s : Int32) : zS × Int32 :=
  if zix s (S.1 33) = false then (th S 1, 0)
  else if (decide (S.2.2.1 39 s.toNatClampNeg = 0) && decide (S.2.2.1 18 (S.2.2.1 35 s.toNatClampNeg).toNatClampNeg = 0)) = false then (th S 2, 0)
  else (zsA (th S 0) 40 (upd (S.2.2.1 40) s.toNatClampNeg 1), b2i (!canJudge S s.toNatClampNeg))
def o_testify (S : zS) (s p : Int32) (fo : Bool) : zS × Int32 :=
  if (zix s (S.1 33) && zix p (S.1 13)) = false then (th S 1, 0)
  else if canTest S s.toNatClampNeg p.toNatClampNeg = false then (th S 2, 0)
  else (zsA (th S 0) 41 (upd (S.2.2.1 41) (40 * s.toNatClampNeg + p.toNatClampNeg) (if fo = true then 1 else 2)), nI (heard (zsA S 41 (upd (S.2.2.1 41) (40 * s.toNatClampNeg + p.toNatClampNeg) (if fo = true then 1 else 2))) s.toNatClampNeg))
def judS (S : zS) (s : Nat) (won : Bool) : zS := zsA (zsL (zsA S 39 (upd (S.2.2.1 39) s (if won = true then 2 else 3))) 42 (vp_updL (S.2.2.2 42) s (if won = true then (S.2.2.1 37 s).toInt64 else 0))) 44 (upd (S.2.2.1 44) s (nI (S.1 1)))
def o_judge (S : zS) (s : Int32) : zS × Int32 :=
  if zix s (S.1 33) = false then (th S 1, 0)
  else if (decide (S.2.2.1 39 s.toNatClampNeg = 0) && canJudge S s.toNatClampNeg) = false then (th S 2, 0)
  else (judS (th S 0) s.toNatClampNeg (isWonAt S s.toNatClampNeg (S.2.2.1 36 s.toNatClampNeg)), b2i (isWonAt S s.toNatClampNeg (S.2.2.1 36 s.toNatClampNeg)))
def o_wins (S : zS) (s c : Int32) : zS × Int32 := if (zix s (S.1 33) && okc S c) = false then (th S 1, 0) else (th S 0, b2i (isWonAt S s.toNatClampNeg c))
def canApp (S : zS) (s : Nat) : Bool := decide (2 ≤ S.2.2.1 39 s) && (decide (S.2.2.1 36 s ≠ -1) && (decide (S.2.2.1 45 s = 0) && decide (nI (S.1 1) - S.2.2.1 44 s ≤ 60)))
def iM (S : zS) (m : Nat) : Prop := ∃ h w, h < S.1 13 ∧ w < S.1 13 ∧ S.2.2.1 26 m = nI h ∧ S.2.2.1 27 m = nI w
def iSu (S : zS) (s : Nat) : Prop := ∃ a b, a < S.1 13 ∧ b < S.1 13 ∧ S.2.2.1 34 s = nI a ∧ S.2.2.1 35 s = nI b
def backI (S : zS) (s a : Nat) : Int64 := if bothLive S s = false then 0 else if S.2.2.2 19 a < S.2.2.2 43 s then S.2.2.2 19 a else S.2.2.2 43 s
def backS (S : zS) (s a b : Nat) : zS := zsL (zsL (move S a b (backI S s a)) 43 (vp_updL (S.2.2.2 43) s 0)) 42 (vp_updL (S.2.2.2 42) s 0)
def appS (S : zS) (s a b : Nat) (won : Bool) : zS :=
  let A := if S.2.2.1 39 s = 2 ∧ won = false then backS S s a b else S
  let B := zsL A 42 (vp_updL (A.2.2.2 42) s (if S.2.2.1 39 s = 3 ∧ won = true then (S.2.2.1 37 s).toInt64 else A.2.2.2 42 s))
  zsA (zsA (zsA B 39 (upd (S.2.2.1 39) s (if won = true then 2 else 3))) 45 (upd (S.2.2.1 45) s 1)) 44 (upd (S.2.2.1 44) s (nI (S.1 1)))
def o_appeal (S : zS) (s : Int32) : zS × Int32 :=
  if zix s (S.1 33) = false then (th S 1, 0) else if canApp S s.toNatClampNeg = false then (th S 2, 0)
  else (appS (th S 0) s.toNatClampNeg (S.2.2.1 34 s.toNatClampNeg).toNatClampNeg (S.2.2.1 35 s.toNatClampNeg).toNatClampNeg (isWonAt S s.toNatClampNeg (-1)), b2i (isWonAt S s.toNatClampNeg (-1)))
def exeI (S : zS) (s b : Nat) : Int64 := if S.2.2.2 19 b < S.2.2.2 42 s then S.2.2.2 19 b else S.2.2.2 42 s
def exeS (S : zS) (s a b : Nat) : zS := zsL (zsL (move S b a (exeI S s b)) 42 (vp_updL (S.2.2.2 42) s (S.2.2.2 42 s - exeI S s b))) 43 (vp_updL (S.2.2.2 43) s (S.2.2.2 43 s + exeI S s b))
def o_execute (S : zS) (s : Int32) : zS × Int64 :=
  if zix s (S.1 33) = false then (th S 1, 0)
  else if (decide (S.2.2.1 39 s.toNatClampNeg = 2) && (decide (S.2.2.2 42 s.toNatClampNeg ≠ 0) && bothLive S s.toNatClampNeg)) = false then (th S 2, 0)
  else (exeS (th S 0) s.toNatClampNeg (S.2.2.1 34 s.toNatClampNeg).toNatClampNeg (S.2.2.1 35 s.toNatClampNeg).toNatClampNeg, exeI S s.toNatClampNeg (S.2.2.1 35 s.toNatClampNeg).toNatClampNeg)
theorem o_div_p {S : zS} {mn hn wn : Nat} {by' : Bool} (h1 : zix (nI mn) (S.1 25) = true) (e : (nI mn).toNatClampNeg = mn) (h2 : S.2.2.1 28 mn = 0) (eh : S.2.2.1 26 mn = nI hn) (ew : S.2.2.1 27 mn = nI wn) (ehn : (nI hn).toNatClampNeg = hn) (ewn : (nI wn).toNatClampNeg = wn) :
    o_divorce S (nI mn) by' = if divB (lawOf S (courtOn S 1 hn wn (S.1 1)) 1 (nI (S.1 1))) by' (decide ((if by' = true then S.2.2.1 32 mn else S.2.2.1 31 mn) ≠ 0)) = true then (paysS (zsA (divA (th S 0) mn by') 28 (upd (S.2.2.1 28) mn 1)) mn hn wn, 1) else (divA (th S 0) mn by', 0) := by
  unfold o_divorce divHow divE
  rw [if_neg (by simp [h1]), e, if_neg (by simp [h2]), eh, ew, ehn, ewn]
  rw [show (divA (th S 0) mn by').2.2.1 26 mn = nI hn from eh, show (divA (th S 0) mn by').2.2.1 27 mn = nI wn from ew, ehn, ewn]
  rfl
theorem backS_a (S : zS) (s a b : Nat) : (backS S s a b).2.2.1 = S.2.2.1 := rfl
theorem backS_1 (S : zS) (s a b : Nat) : (backS S s a b).1 = S.1 := rfl
def o_ofPerson (S : zS) (p w : Int32) : zS × Int64 :=
  if zix p (S.1 13) = false then (th S 1, 0) else if rng w 0 5 = false then (th S 2, 0)
  else (th S 0, if w = 0 then S.2.2.2 19 p.toNatClampNeg else if w = 1 then (if S.2.2.1 18 p.toNatClampNeg = 0 then 1 else 0) else if w = 2 then (nI (lasting S p)).toInt64 else if w = 3 then (S.2.2.1 23 p.toNatClampNeg).toInt64 else if w = 4 then (lowestMarriage S p).toInt64 else (nI (kids S p)).toInt64)
def o_ofMarriage (S : zS) (m w : Int32) : zS × Int32 :=
  if zix m (S.1 25) = false then (th S 1, 0) else if rng w 0 4 = false then (th S 2, 0)
  else (th S 0, if 2 ≤ w then (if w = 2 then S.2.2.1 27 m.toNatClampNeg else if w = 3 then S.2.2.1 29 m.toNatClampNeg else S.2.2.1 30 m.toNatClampNeg) else if w = 0 then S.2.2.1 28 m.toNatClampNeg else S.2.2.1 26 m.toNatClampNeg)
def o_ofSuit (S : zS) (s w : Int32) : zS × Int32 :=
  if zix s (S.1 33) = false then (th S 1, 0) else if rng w 0 4 = false then (th S 2, 0)
  else (th S 0, if 2 ≤ w then (if w = 2 then nI (heard S s.toNatClampNeg) else if w = 3 then (S.2.2.2 42 s.toNatClampNeg).toInt32 else S.2.2.1 44 s.toNatClampNeg) else if w = 0 then S.2.2.1 39 s.toNatClampNeg else S.2.2.1 36 s.toNatClampNeg)
def o_treasury (S : zS) : zS × Int64 := (th S 0, S.2.1)
def allL (r19 : Nat → Int64) (c : Int64) : Nat → Int64
  | 0 => c
  | k + 1 => allL r19 c k + r19 k
def o_all (S : zS) : zS × Int64 := (th S 0, allL (S.2.2.2 19) S.2.1 (S.1 13))

