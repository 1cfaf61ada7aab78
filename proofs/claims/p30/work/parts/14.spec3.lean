theorem zjn {g : zGh} {X : zX} {M : zM} {k n pc : Nat} {L : List (Option Value)} {st : List Value} (J : Nat) (P : Int32 → Prop) (h2 : (∀ x, P x → zG g X M k n J L (.int x :: st)) → zG g X M k n pc L st) (h1 : ∀ x, P x → zG g X M k n J L (.int x :: st)) : zG g X M k n pc L st := h2 h1
theorem zni_n {a b : Nat} (h : ¬ nI a = nI b) : ¬ a = b := fun e => h (e ▸ rfl)
theorem zni_e {a b : Nat} (ha : a < 2 ^ 31) (hb : b < 2 ^ 31) (h : nI a = nI b) : a = b := (nI_eq ha hb).mp h
def rng (x a b : Int32) : Bool := decide (a ≤ x) && decide (x ≤ b)
def okc (S : zS) (c : Int32) : Bool := decide (c = -1) || zix c (S.1 2)
abbrev th (S : zS) (k : Nat) : zS := zsN S 0 k
def isNum (w x : Int32) : Bool := if w = 0 then rng x 0 2 else if w = 1 then rng x 0 3 else if w = 2 then rng x 1 4 else if w = 3 then rng x 0 100 else if w = 6 then rng x 0 63 else rng x 0 1
def o_community (S : zS) : zS × Int32 := if S.1 2 = 6 then (th S 1, 0) else (zsN (recS (th S 0) (S.1 2) true) 2 (S.1 2 + 1), nI (S.1 2))
def o_recognise (S : zS) (c : Int32) (on : Bool) : zS × Int32 := if zix c (S.1 2) = false then (th S 1, 0) else (recS (th S 0) c.toNatClampNeg on, b2i (recBit S c.toNatClampNeg (S.1 1)))
def decS (S : zS) (c w x : Int32) : zS := zsN (zsA (zsA (zsA (zsA S 5 (upd (S.2.2.1 5) (S.1 4) c)) 6 (upd (S.2.2.1 6) (S.1 4) w)) 7 (upd (S.2.2.1 7) (S.1 4) x)) 8 (upd (S.2.2.1 8) (S.1 4) (nI (S.1 1)))) 4 (S.1 4 + 1)
def o_decree (S : zS) (c w x : Int32) : zS × Int32 := if okc S c = false then (th S 1, 0) else if (rng w 0 6 && isNum w x) = false then (th S 2, 0) else if S.1 4 = 100 then (th S 3, 0) else (decS (th S 0) c w x, lawOf S c w (nI (S.1 1)))
def rulS (S : zS) (m r : Int32) : zS := zsN (zsA (zsA (zsA S 10 (upd (S.2.2.1 10) (S.1 9) m)) 11 (upd (S.2.2.1 11) (S.1 9) r)) 12 (upd (S.2.2.1 12) (S.1 9) (nI (S.1 1)))) 9 (S.1 9 + 1)
def o_rule (S : zS) (m r : Int32) : zS × Int32 := if (rng m 0 3 && rng r 0 3) = false then (th S 1, 0) else if S.1 9 = 40 then (th S 2, 0) else (rulS (th S 0) m r, ruleOn S m (nI (S.1 1)))
def o_law (S : zS) (c w d : Int32) : zS × Int32 := if okc S c = false then (th S 1, 0) else if (rng w 0 6 && rng d 0 (nI (S.1 1))) = true then (th S 0, lawOf S c w d) else (th S 2, 0)
def o_court (S : zS) (m p q d : Int32) : zS × Int32 := if (zix p (S.1 13) && zix q (S.1 13)) = false then (th S 1, 0) else if (rng m 0 3 && (rng d (S.2.2.1 17 p.toNatClampNeg) (nI (S.1 1)) && rng d (S.2.2.1 17 q.toNatClampNeg) (nI (S.1 1)))) = true then (th S 0, courtOn S m p.toNatClampNeg q.toNatClampNeg d.toNatClampNeg) else (th S 2, 0)
/-- births and faiths of the persons that there are; rows of those that there aren't are as they were made -/
def iB (S : zS) : Prop := S.1 1 ≤ 30000 ∧ S.1 2 ≤ 6 ∧ S.1 4 ≤ 100 ∧ S.1 9 ≤ 40 ∧ S.1 13 ≤ 40 ∧ S.1 25 ≤ 30 ∧ S.1 33 ≤ 20
def iP1 (S : zS) (p : Nat) : Prop := iT S p ∧ (∃ b, b ≤ S.1 1 ∧ S.2.2.1 17 p = nI b) ∧ ∀ d, ∃ c, c < S.1 2 ∧ faithAt S p d = nI c
def iPs (S : zS) : Prop := ∀ p, p < S.1 13 → iP1 S p

