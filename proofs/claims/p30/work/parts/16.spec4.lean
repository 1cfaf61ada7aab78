theorem lawOf_th (S : zS) (v : Nat) (c w d : Int32) : lawOf (zsN S 0 v) c w d = lawOf S c w d := rfl
theorem ruleOn_th (S : zS) (v : Nat) (m d : Int32) : ruleOn (zsN S 0 v) m d = ruleOn S m d := rfl
theorem faithAt_th (S : zS) (v : Nat) (p : Nat) (d : Int32) : faithAt (zsN S 0 v) p d = faithAt S p d := rfl
theorem courtOn_th (S : zS) (v : Nat) (m : Int32) (p q d : Nat) : courtOn (zsN S 0 v) m p q d = courtOn S m p q d := rfl
theorem courtC_th (S : zS) (v : Nat) (f : Int32) (d : Nat) : courtC (zsN S 0 v) f d = courtC S f d := rfl
theorem recBit_th (S : zS) (v : Nat) (c d : Nat) : recBit (zsN S 0 v) c d = recBit S c d := rfl
theorem isMinor_th (S : zS) (v : Nat) (p : Nat) : isMinor (zsN S 0 v) p = isMinor S p := rfl
theorem isGrown_th (S : zS) (v : Nat) (p : Nat) : isGrown (zsN S 0 v) p = isGrown S p := rfl
theorem canWit_th (S : zS) (v : Nat) (p : Nat) (its : Int32) : canWit (zsN S 0 v) p its = canWit S p its := rfl
theorem lasting_th (S : zS) (v : Nat) (p : Int32) : lasting (zsN S 0 v) p = lasting S p := rfl
theorem kids_th (S : zS) (v : Nat) (p : Int32) : kids (zsN S 0 v) p = kids S p := rfl
theorem canJudge_th (S : zS) (v : Nat) (s : Nat) : canJudge (zsN S 0 v) s = canJudge S s := rfl
theorem heard_th (S : zS) (v : Nat) (s : Nat) : heard (zsN S 0 v) s = heard S s := rfl
theorem canTest_th (S : zS) (v : Nat) (s p : Nat) : canTest (zsN S 0 v) s p = canTest S s p := rfl
theorem bothLive_th (S : zS) (v : Nat) (s : Nat) : bothLive (zsN S 0 v) s = bothLive S s := rfl
theorem isWonAt_th (S : zS) (v : Nat) (s : Nat) (c : Int32) : isWonAt (zsN S 0 v) s c = isWonAt S s c := rfl
theorem lowestMarriage_th (S : zS) (v : Nat) (p : Int32) : lowestMarriage (zsN S 0 v) p = lowestMarriage S p := rfl
theorem okc_th (S : zS) (v : Nat) (c : Int32) : okc (zsN S 0 v) c = okc S c := rfl
theorem isBarred_th (S : zS) (v : Nat) (p q : Nat) (b : Bool) : isBarred (zsN S 0 v) p q b = isBarred S p q b := rfl
theorem units_th (S : zS) (v : Nat) (m : Nat) : units (zsN S 0 v) m = units S m := rfl
theorem fT_th (S : zS) (v : Nat) (p : Nat) : fT (zsN S 0 v) p = fT S p := rfl
theorem courtF_c {its f1 f2 : Int32} {n : Nat} (h : ¬ courtF its f1 f2 = -1) (h1 : ∃ c, c < n ∧ f1 = nI c) (h2 : ∃ c, c < n ∧ f2 = nI c) : ∃ c, c < n ∧ courtF its f1 f2 = nI c := by
  unfold courtF at h ⊢
  split
  · rename_i e; simp [e] at h
  · split
    · exact h1
    · split
      · exact h2
      · split
        · exact h1
        · rename_i e0 e1 e2 e3; simp [e0, e1, e2, e3] at h
theorem rng_nI {d : Int32} {b t : Nat} (h : (decide (nI b ≤ d) && decide (d ≤ nI t)) = true) (hb : b < 2 ^ 30) (ht : t < 2 ^ 30) : ∃ d0, b ≤ d0 ∧ d0 ≤ t ∧ d = nI d0 := by
  rw [Bool.and_eq_true, decide_eq_true_eq, decide_eq_true_eq] at h
  obtain ⟨h1, h2⟩ := h
  rw [Int32.le_iff_toInt_le, nI_toInt (by omega)] at h1
  rw [Int32.le_iff_toInt_le, nI_toInt (by omega)] at h2
  obtain ⟨j, hj, e⟩ := vp_in_of (x := d) (n := t + 1) (vp_in_iff.mpr ⟨by omega, by omega⟩) (by omega)
  rw [e, nI_toInt (by omega)] at h1
  exact ⟨j, by omega, by omega, e⟩
def perA (S : zS) (man mo fa : Int32) : zS := zsA (zsA (zsA (zsA (zsA (zsA S 14 (upd (S.2.2.1 14) (S.1 13) man)) 15 (upd (S.2.2.1 15) (S.1 13) mo)) 16 (upd (S.2.2.1 16) (S.1 13) fa)) 17 (upd (S.2.2.1 17) (S.1 13) (nI (S.1 1)))) 22 (upd (S.2.2.1 22) (S.1 13) (-1))) 23 (upd (S.2.2.1 23) (S.1 13) (-1))
def bornF (S : zS) (mo fa its : Int32) : Int32 := if mo = -1 ∧ fa = -1 then its else faithAt S (if fa = -1 then mo else fa).toNatClampNeg (nI (S.1 1))
def perS (S : zS) (man mo fa its : Int32) : zS := zsN (takesS (perA S man mo fa) (S.1 13) (bornF S mo fa its)) 13 (S.1 13 + 1)
def o_person (S : zS) (man mo fa its : Int32) : zS × Int32 :=
  if ((decide (mo = -1) || zix mo (S.1 13)) && ((decide (fa = -1) || zix fa (S.1 13)) && okc S its)) = false then (th S 1, 0)
  else if ((decide (mo = -1) || decide (S.2.2.1 14 mo.toNatClampNeg = 0)) && ((decide (fa = -1) || decide (S.2.2.1 14 fa.toNatClampNeg ≠ 0)) && (decide (mo = -1 ∧ fa = -1) == decide (its ≠ -1)))) = false then (th S 2, 0)
  else if S.1 13 = 40 then (th S 3, 0) else (perS (th S 0) man mo fa its, nI (S.1 13))
theorem faithAt_perA {S : zS} {man mo fa d : Int32} {p : Nat} : faithAt (perA S man mo fa) p d = faithAt S p d := rfl
def o_turn (S : zS) (p c a b : Int32) : zS × Int32 :=
  if (zix p (S.1 13) && (zix c (S.1 2) && (zix a (S.1 13) && zix b (S.1 13)))) = false then (th S 1, 0)
  else if (decide (a ≠ b) && (decide (a ≠ p) && decide (b ≠ p))) = false then (th S 2, 0)
  else if ((isGrown S p.toNatClampNeg && (decide (faithAt S p.toNatClampNeg (nI (S.1 1)) ≠ c) && decide (S.2.2.1 22 p.toNatClampNeg = -1))) && (canWit S a.toNatClampNeg c && canWit S b.toNatClampNeg c)) = false then (th S 3, 0)
  else (zsA (zsA (th S 0) 22 (upd (S.2.2.1 22) p.toNatClampNeg c)) 23 (upd (S.2.2.1 23) p.toNatClampNeg (nI (S.1 1 + 30))), nI (S.1 1 + 30))
def o_recant (S : zS) (p : Int32) : zS × Int32 := if zix p (S.1 13) = false then (th S 1, 0) else if S.2.2.1 22 p.toNatClampNeg = -1 then (th S 2, 0) else (staysS (th S 0) p.toNatClampNeg, S.2.2.1 22 p.toNatClampNeg)
def o_faith (S : zS) (p d : Int32) : zS × Int32 := if zix p (S.1 13) = false then (th S 1, 0) else if rng d (S.2.2.1 17 p.toNatClampNeg) (nI (S.1 1)) = true then (th S 0, faithAt S p.toNatClampNeg d) else (th S 2, 0)
def canMarry (S : zS) (h w : Nat) : Bool := isGrown S h && (isGrown S w && (decide (S.1 25 ≠ 30) && (decide (lasting S (nI w) = 0) && (decide (nI (lasting S (nI h)) < lawOf S (courtOn S 0 h w (S.1 1)) 2 (nI (S.1 1))) && (decide (faithAt S h (nI (S.1 1)) = faithAt S w (nI (S.1 1))) || decide (lawOf S (courtOn S 0 h w (S.1 1)) 4 (nI (S.1 1)) = 1))))))
def marS (S : zS) (h w d : Int32) (c : Int32) : zS := zsN (zsA (zsA (zsA (zsA S 26 (upd (S.2.2.1 26) (S.1 25) h)) 27 (upd (S.2.2.1 27) (S.1 25) w)) 29 (upd (S.2.2.1 29) (S.1 25) d)) 30 (upd (S.2.2.1 30) (S.1 25) c)) 25 (S.1 25 + 1)
def o_marry (S : zS) (h w d : Int32) : zS × Int32 :=
  if (zix h (S.1 13) && zix w (S.1 13)) = false then (th S 1, 0)
  else if (decide (S.2.2.1 14 h.toNatClampNeg ≠ 0) && (decide (S.2.2.1 14 w.toNatClampNeg = 0) && rng d 0 1000000)) = false then (th S 2, 0)
  else if canMarry S h.toNatClampNeg w.toNatClampNeg = false then (th S 3, 0)
  else (marS (th S 0) h w d (courtOn S 0 h.toNatClampNeg w.toNatClampNeg (S.1 1)), nI (S.1 25))

