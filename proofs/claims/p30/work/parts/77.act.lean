/-! act: which call it makes -/
theorem zW2.call {g : zGh} {Ka Kb : zK} {aa ab : zg → Nat} {M : zM} {n mc ms : Nat} {a b c d : Int32} {As : List Value} (h : zW2 g Ka Kb aa ab M) (hc : zCv g yL_does cL_does 7 (some .long) hhD 10 225 mkL As M mc ms (fun v M1 => (dX Ka n a b c d = 0 ∧ v = dA Ka n a b c d ∧ dM g (dK Ka n a b c d) (shX (kva g Kb ab nX)) (jnA aa ab) M1) ∨ (¬ dX Ka n a b c d = 0 ∧ v = -2100000000 ∧ M1 = M))) :
    zCv g yL_does cL_does 7 (some .long) hhD 10 225 mkL As M mc ms (fun v M1 => v = dR Ka n a b c d ∧ ∃ a1, zW2 g (dS Ka n a b c d) Kb a1 ab M1 ∧ a1 (0, 0) = aa (0, 0)) := by
  refine hc.post fun v M1 hv => ?_
  rcases hv with ⟨hx, rfl, hm⟩ | ⟨hx, rfl, rfl⟩
  · unfold dR dS
    rw [if_pos hx, if_pos hx]
    exact ⟨rfl, h.dm hm⟩
  · unfold dR dS
    rw [if_neg hx, if_neg hx]
    exact ⟨rfl, aa, h, rfl⟩
def aOdd (v : Int32) : Bool := decide ((v >>> ((18 : Int32) &&& 31)) &&& 7 = 7)
def aHow (v : Int32) : Int32 := lowI v 70
def aX (v : Int32) : Int32 := v >>> ((6 : Int32) &&& 31)
def aWho (v : Int32) : Int32 := if aOdd v = true then lowI (aX v) 43 - 1 else lowI (aX v) 12
def aOther (v : Int32) : Int32 := if aOdd v = true then lowI (aX v >>> ((3 : Int32) &&& 31)) 43 - 1 else lowI (aX v >>> ((3 : Int32) &&& 31)) 12
def aIts (v : Int32) : Int32 := if aOdd v = true then lowI (aX v >>> ((2 : Int32) &&& 31)) 8 - 1 else lowI (aX v >>> ((2 : Int32) &&& 31)) 4
def aCourt (v : Int32) : Int32 := if aOdd v = true then lowI (aX v >>> ((2 : Int32) &&& 31)) 9 - 2 else lowI (aX v >>> ((2 : Int32) &&& 31)) 5 - 1
def aWhat (v : Int32) : Int32 := if aOdd v = true then lowI (aX v >>> ((3 : Int32) &&& 31)) 9 - 1 else lowI (aX v >>> ((3 : Int32) &&& 31)) 7
def aNum (v : Int32) : Int32 := if aOdd v = true then lowI (aX v >>> ((6 : Int32) &&& 31)) 130 - 2 else if aWhat v = 0 then lowI (aX v >>> ((6 : Int32) &&& 31)) 3 else if aWhat v = 1 then lowI (aX v >>> ((6 : Int32) &&& 31)) 4 else if aWhat v = 2 then 1 + lowI (aX v >>> ((6 : Int32) &&& 31)) 4 else if aWhat v = 3 then lowI (aX v >>> ((6 : Int32) &&& 31)) 101 else if aWhat v = 6 then lowI (aX v >>> ((6 : Int32) &&& 31)) 64 else lowI (aX v >>> ((6 : Int32) &&& 31)) 2
def aSix (v : Int32) : Int32 := if aOdd v = true then 6 else 4
def aOn (v : Int32) : Int32 := if (aX v >>> ((4 : Int32) &&& 31)) &&& 3 ≤ 0 then 0 else 1
def aNone (v : Int32) : Bool := decide ((aX v >>> ((9 : Int32) &&& 31)) &&& 1 = 1)
def aNa (v : Int32) : Int32 := if aNone v = true then -1 else aWho v
def aNb (v : Int32) : Int32 := if aNone v = true then -1 else aOther v
def aNc (v : Int32) : Int32 := if aNone v = true then aIts v + 1 else 0
def aDower (v : Int32) : Int32 := if aOdd v = true then aX v else lowI (aX v >>> ((2 : Int32) &&& 31)) 3000
def aTen (v : Int32) : Int32 := if aOdd v = true then 32 else 10
def aCents (v : Int32) : Int32 := if aOdd v = true then aX v else 1 + lowI (aX v >>> ((4 : Int32) &&& 31)) 5000
def aK (v : Int32) : Int32 := if aOdd v = true then lowI (aX v) 22 - 1 else lowI (aX v) 8
def aSum (v : Int32) : Int32 := if aOdd v = true then aX v else 1 + lowI (aX v >>> ((3 : Int32) &&& 31)) 2000
def aFor (v : Int32) : Int32 := if (aX v >>> ((6 : Int32) &&& 31)) &&& 3 ≤ 0 then 0 else 1
def aDays (v : Int32) : Int32 := if aOdd v = true then lowI (aX v) 2200 else if (aX v >>> ((8 : Int32) &&& 31)) &&& 3 ≤ 0 then 1 + lowI (aX v) 400 else 1 + lowI (aX v) 25
def actT (v : Int32) : Nat × Int32 × Int32 × Int32 × Int32 :=
  if 8 ≤ aHow v then
    if 20 ≤ aHow v then
      if 40 ≤ aHow v then
        if 60 ≤ aHow v then (24, aDays v, 0, 0, 0)
        else if 44 ≤ aHow v then
          if 46 ≤ aHow v then
            if 53 ≤ aHow v then
              if 56 ≤ aHow v then
                if 58 ≤ aHow v then (19, aK v, 0, 0, 0) else (18, aK v, 0, 0, 0)
              else (17, aK v, 0, 0, 0)
            else (16, aK v, aOther v, aFor v, 0)
          else (15, aK v, 0, 0, 0)
        else (14, aWho v, aOther v, aCourt v, aSum v)
      else if 26 ≤ aHow v then
        if 30 ≤ aHow v then
          if 38 ≤ aHow v then (13, aWho v, 0, 0, 0) else (12, aWho v, aCents v, 0, 0)
        else (11, lowI (aX v) (aTen v), (aX v >>> ((4 : Int32) &&& 31)) &&& 1, 0, 0)
      else (10, aWho v, aOther v, aDower v, 0)
    else if 12 ≤ aHow v then
      if 18 ≤ aHow v then (8, aWho v, 0, 0, 0) else (7, aWho v, aIts v, aOther v, lowI (aX v >>> ((5 : Int32) &&& 31)) 12)
    else (6, aNa v, aNb v, aNc v, (aX v >>> ((6 : Int32) &&& 31)) &&& 1)
  else if 5 ≤ aHow v then
    if 7 ≤ aHow v then (1, aIts v, aOn v, 0, 0) else (3, lowI (aX v) (aSix v), lowI (aX v >>> ((3 : Int32) &&& 31)) (aSix v), 0, 0)
  else (2, aCourt v, aWhat v, aNum v, 0)
theorem six_n {v : Int32} : ¬ aSix v = 0 := by unfold aSix; split <;> decide
theorem ten_n {v : Int32} : ¬ aTen v = 0 := by unfold aTen; split <;> decide
set_option maxRecDepth 100000 in
set_option maxHeartbeats 4000000 in
theorem l_act {g : zGh} {K Kb : zK} {aa ab : zg → Nat} {M : zM} {mc ms : Nat} (v : Int32) (z : zW2 g K Kb aa ab M) (hok : zOk K) (hmc : dcC K (actT v).1 (actT v).2.1 ≤ mc) (hms : dcS K (actT v).1 (actT v).2.1 ≤ ms) : zCn g yL_act cL_act 11 (some .long) 11 251 mkL [.ref (aa (0, 0)), .int v] M mc ms (fun r M1 => r = dR K (actT v).1 (actT v).2.1 (actT v).2.2.1 (actT v).2.2.2.1 (actT v).2.2.2.2 ∧ ∃ a1, zW2 g (dS K (actT v).1 (actT v).2.1 (actT v).2.2.1 (actT v).2.2.2.1 (actT v).2.2.2.2) Kb a1 ab M1 ∧ a1 (0, 0) = aa (0, 0)) := by
  refine zofn [some (.ref (aa (0, 0))), some (.int v), none, none, none, none, none, none, none, none, none] (by decide +kernel) rfl rfl (Nat.le_of_ble_eq_true rfl) ?_
  intro X C hE hN
  have C : zC g X RL cL_act 11 11 251 mc ms := C
  refine zjn 17 (fun r => r = b2i (aOdd v)) (fun J0_1 => ?_) (fun x0 hx0 => ?_)
  · refine ziload_n C dL_act_0 rfl ?_
    refine zbipush (v := 18) C dL_act_1 (by decide) ?_
    refine zishr C dL_act_3 ?_
    refine zbipush (v := 7) C dL_act_4 (by decide) ?_
    refine ziand C dL_act_6 ?_
    refine zbipush (v := 7) C dL_act_7 (by decide) ?_
    refine zicmp_ne (tgt := 16) C dL_act_9 (by decide) (fun h9 => ?_) (fun h9 => ?_)
    · refine zconst (v := 0) C dL_act_16 (by decide) ?_
      exact J0_1 _ (by unfold aOdd; first | (rw [decide_eq_true h9]; rfl) | (rw [decide_eq_false h9]; rfl) | (rw [decide_eq_true (Classical.not_not.mp h9)]; rfl))
    · refine zconst (v := 1) C dL_act_12 (by decide) ?_
      refine zgoto (tgt := 17) C dL_act_13 (by decide) ?_
      exact J0_1 _ (by unfold aOdd; first | (rw [decide_eq_true h9]; rfl) | (rw [decide_eq_false h9]; rfl) | (rw [decide_eq_true (Classical.not_not.mp h9)]; rfl))
  · subst hx0
    refine zistore_n (L1 := [_, _, _, _, _, _, _, _, _, _, _]) C dL_act_17 rfl (Nat.le_of_ble_eq_true rfl) ?_
    refine ziload_n C dL_act_18 rfl ?_
    refine zbipush (v := 70) C dL_act_19 (by decide) ?_
    refine zcallS C (l_low _ _ (by decide)) hy_L_low hst_L_low hl_L_115 rfl rfl (by decide) (by decide) (by omega) (by omega) rfl (by exact Nat.le_of_ble_eq_true rfl) dL_act_21 (fun v21 M hp21 => ?_)
    obtain ⟨rfl, rfl⟩ := hp21
    rw [show lowI v 70 = aHow v from rfl]
    refine zistore_n (L1 := [_, _, _, _, _, _, _, _, _, _, _]) C dL_act_24 rfl (Nat.le_of_ble_eq_true rfl) ?_
    refine ziload_n C dL_act_25 rfl ?_
    refine zbipush (v := 6) C dL_act_26 (by decide) ?_
    refine zishr C dL_act_28 ?_
    rw [show v >>> ((6 : Int32) &&& 31) = aX v from rfl]
    refine zistore (L1 := [_, _, _, _, _, _, _, _, _, _, _]) C dL_act_29 rfl (Nat.le_of_ble_eq_true rfl) ?_
    refine zjn 54 (fun r => r = aWho v) (fun J31_5 => ?_) (fun x31 hx31 => ?_)
    · refine ziload_n C dL_act_31 rfl ?_
      refine zif_eq (tgt := 47) C dL_act_32 (by decide) (fun h32 => ?_) (fun h32 => ?_)
      · replace h32 := b2i_0.mp h32
        refine ziload C dL_act_47 rfl ?_
        refine zbipush (v := 12) C dL_act_49 (by decide) ?_
        refine zcallS C (l_low _ _ (by decide)) hy_L_low hst_L_low hl_L_115 rfl rfl (by decide) (by decide) (by omega) (by omega) rfl (by exact Nat.le_of_ble_eq_true rfl) dL_act_51 (fun v51 M hp51 => ?_)
        obtain ⟨rfl, rfl⟩ := hp51
        exact J31_5 _ (by first | (simp only [aWho, h32, reduceIte, Bool.false_eq_true]; done) | (simp only [aWho, h32, reduceIte, Bool.false_eq_true]; rfl))
      · replace h32 := b2i_n0.mp h32
        refine ziload C dL_act_35 rfl ?_
        refine zbipush (v := 43) C dL_act_37 (by decide) ?_
        refine zcallS C (l_low _ _ (by decide)) hy_L_low hst_L_low hl_L_115 rfl rfl (by decide) (by decide) (by omega) (by omega) rfl (by exact Nat.le_of_ble_eq_true rfl) dL_act_39 (fun v39 M hp39 => ?_)
        obtain ⟨rfl, rfl⟩ := hp39
        refine zconst (v := 1) C dL_act_42 (by decide) ?_
        refine zisub C dL_act_43 ?_
        refine zgoto (tgt := 54) C dL_act_44 (by decide) ?_
        exact J31_5 _ (by first | (simp only [aWho, h32, reduceIte, Bool.false_eq_true]; done) | (simp only [aWho, h32, reduceIte, Bool.false_eq_true]; rfl))
    · subst hx31
      refine zistore (L1 := [_, _, _, _, _, _, _, _, _, _, _]) C dL_act_54 rfl (Nat.le_of_ble_eq_true rfl) ?_
      refine zjn 83 (fun r => r = aOther v) (fun J56_7 => ?_) (fun x56 hx56 => ?_)
      · refine ziload_n C dL_act_56 rfl ?_
        refine zif_eq (tgt := 74) C dL_act_57 (by decide) (fun h57 => ?_) (fun h57 => ?_)
        · replace h57 := b2i_0.mp h57
          refine ziload C dL_act_74 rfl ?_
          refine zconst (v := 3) C dL_act_76 (by decide) ?_
          refine zishr C dL_act_77 ?_
          refine zbipush (v := 12) C dL_act_78 (by decide) ?_
          refine zcallS C (l_low _ _ (by decide)) hy_L_low hst_L_low hl_L_115 rfl rfl (by decide) (by decide) (by omega) (by omega) rfl (by exact Nat.le_of_ble_eq_true rfl) dL_act_80 (fun v80 M hp80 => ?_)
          obtain ⟨rfl, rfl⟩ := hp80
          exact J56_7 _ (by first | (simp only [aOther, h57, reduceIte, Bool.false_eq_true]; done) | (simp only [aOther, h57, reduceIte, Bool.false_eq_true]; rfl))
        · replace h57 := b2i_n0.mp h57
          refine ziload C dL_act_60 rfl ?_
          refine zconst (v := 3) C dL_act_62 (by decide) ?_
          refine zishr C dL_act_63 ?_
          refine zbipush (v := 43) C dL_act_64 (by decide) ?_
          refine zcallS C (l_low _ _ (by decide)) hy_L_low hst_L_low hl_L_115 rfl rfl (by decide) (by decide) (by omega) (by omega) rfl (by exact Nat.le_of_ble_eq_true rfl) dL_act_66 (fun v66 M hp66 => ?_)
          obtain ⟨rfl, rfl⟩ := hp66
          refine zconst (v := 1) C dL_act_69 (by decide) ?_
          refine zisub C dL_act_70 ?_
          refine zgoto (tgt := 83) C dL_act_71 (by decide) ?_
          exact J56_7 _ (by first | (simp only [aOther, h57, reduceIte, Bool.false_eq_true]; done) | (simp only [aOther, h57, reduceIte, Bool.false_eq_true]; rfl))
      · subst hx56
        refine zistore (L1 := [_, _, _, _, _, _, _, _, _, _, _]) C dL_act_83 rfl (Nat.le_of_ble_eq_true rfl) ?_
        refine zjn 111 (fun r => r = aIts v) (fun J85_9 => ?_) (fun x85 hx85 => ?_)
        · refine ziload_n C dL_act_85 rfl ?_
          refine zif_eq (tgt := 103) C dL_act_86 (by decide) (fun h86 => ?_) (fun h86 => ?_)
          · replace h86 := b2i_0.mp h86
            refine ziload C dL_act_103 rfl ?_
            refine zconst (v := 2) C dL_act_105 (by decide) ?_
            refine zishr C dL_act_106 ?_
            refine zconst (v := 4) C dL_act_107 (by decide) ?_
            refine zcallS C (l_low _ _ (by decide)) hy_L_low hst_L_low hl_L_115 rfl rfl (by decide) (by decide) (by omega) (by omega) rfl (by exact Nat.le_of_ble_eq_true rfl) dL_act_108 (fun v108 M hp108 => ?_)
            obtain ⟨rfl, rfl⟩ := hp108
            exact J85_9 _ (by first | (simp only [aIts, h86, reduceIte, Bool.false_eq_true]; done) | (simp only [aIts, h86, reduceIte, Bool.false_eq_true]; rfl))
          · replace h86 := b2i_n0.mp h86
            refine ziload C dL_act_89 rfl ?_
            refine zconst (v := 2) C dL_act_91 (by decide) ?_
            refine zishr C dL_act_92 ?_
            refine zbipush (v := 8) C dL_act_93 (by decide) ?_
            refine zcallS C (l_low _ _ (by decide)) hy_L_low hst_L_low hl_L_115 rfl rfl (by decide) (by decide) (by omega) (by omega) rfl (by exact Nat.le_of_ble_eq_true rfl) dL_act_95 (fun v95 M hp95 => ?_)
            obtain ⟨rfl, rfl⟩ := hp95
            refine zconst (v := 1) C dL_act_98 (by decide) ?_
            refine zisub C dL_act_99 ?_
            refine zgoto (tgt := 111) C dL_act_100 (by decide) ?_
            exact J85_9 _ (by first | (simp only [aIts, h86, reduceIte, Bool.false_eq_true]; done) | (simp only [aIts, h86, reduceIte, Bool.false_eq_true]; rfl))
        · subst hx85
          refine zistore (L1 := [_, _, _, _, _, _, _, _, _, _, _]) C dL_act_111 rfl (Nat.le_of_ble_eq_true rfl) ?_
          refine zjn 141 (fun r => r = aCourt v) (fun J113_11 => ?_) (fun x113 hx113 => ?_)
          · refine ziload_n C dL_act_113 rfl ?_
            refine zif_eq (tgt := 131) C dL_act_114 (by decide) (fun h114 => ?_) (fun h114 => ?_)
            · replace h114 := b2i_0.mp h114
              refine ziload C dL_act_131 rfl ?_
              refine zconst (v := 2) C dL_act_133 (by decide) ?_
              refine zishr C dL_act_134 ?_
              refine zconst (v := 5) C dL_act_135 (by decide) ?_
              refine zcallS C (l_low _ _ (by decide)) hy_L_low hst_L_low hl_L_115 rfl rfl (by decide) (by decide) (by omega) (by omega) rfl (by exact Nat.le_of_ble_eq_true rfl) dL_act_136 (fun v136 M hp136 => ?_)
              obtain ⟨rfl, rfl⟩ := hp136
              refine zconst (v := 1) C dL_act_139 (by decide) ?_
              refine zisub C dL_act_140 ?_
              exact J113_11 _ (by first | (simp only [aCourt, h114, reduceIte, Bool.false_eq_true]; done) | (simp only [aCourt, h114, reduceIte, Bool.false_eq_true]; rfl))
            · replace h114 := b2i_n0.mp h114
              refine ziload C dL_act_117 rfl ?_
              refine zconst (v := 2) C dL_act_119 (by decide) ?_
              refine zishr C dL_act_120 ?_
              refine zbipush (v := 9) C dL_act_121 (by decide) ?_
              refine zcallS C (l_low _ _ (by decide)) hy_L_low hst_L_low hl_L_115 rfl rfl (by decide) (by decide) (by omega) (by omega) rfl (by exact Nat.le_of_ble_eq_true rfl) dL_act_123 (fun v123 M hp123 => ?_)
              obtain ⟨rfl, rfl⟩ := hp123
              refine zconst (v := 2) C dL_act_126 (by decide) ?_
              refine zisub C dL_act_127 ?_
              refine zgoto (tgt := 141) C dL_act_128 (by decide) ?_
              exact J113_11 _ (by first | (simp only [aCourt, h114, reduceIte, Bool.false_eq_true]; done) | (simp only [aCourt, h114, reduceIte, Bool.false_eq_true]; rfl))
          · subst hx113
            refine zistore (L1 := [_, _, _, _, _, _, _, _, _, _, _]) C dL_act_141 rfl (Nat.le_of_ble_eq_true rfl) ?_
            refine ziload_n C dL_act_143 rfl ?_
            refine zbipush (v := 8) C dL_act_144 (by decide) ?_
            refine zicmp_ge (tgt := 395) C dL_act_146 (by decide) (fun h146 => ?_) (fun h146 => ?_)
            · refine ziload_n C dL_act_395 rfl ?_
              refine zbipush (v := 20) C dL_act_396 (by decide) ?_
              refine zicmp_ge (tgt := 518) C dL_act_398 (by decide) (fun h398 => ?_) (fun h398 => ?_)
              · refine ziload_n C dL_act_518 rfl ?_
                refine zbipush (v := 40) C dL_act_519 (by decide) ?_
                refine zicmp_ge (tgt := 654) C dL_act_521 (by decide) (fun h521 => ?_) (fun h521 => ?_)
                · refine zjn 677 (fun r => r = aK v) (fun J654_13 => ?_) (fun x654 hx654 => ?_)
                  · refine ziload_n C dL_act_654 rfl ?_
                    refine zif_eq (tgt := 670) C dL_act_655 (by decide) (fun h655 => ?_) (fun h655 => ?_)
                    · replace h655 := b2i_0.mp h655
                      refine ziload C dL_act_670 rfl ?_
                      refine zbipush (v := 8) C dL_act_672 (by decide) ?_
                      refine zcallS C (l_low _ _ (by decide)) hy_L_low hst_L_low hl_L_115 rfl rfl (by decide) (by decide) (by omega) (by omega) rfl (by exact Nat.le_of_ble_eq_true rfl) dL_act_674 (fun v674 M hp674 => ?_)
                      obtain ⟨rfl, rfl⟩ := hp674
                      exact J654_13 _ (by first | (simp only [aK, h655, reduceIte, Bool.false_eq_true]; done) | (simp only [aK, h655, reduceIte, Bool.false_eq_true]; rfl))
                    · replace h655 := b2i_n0.mp h655
                      refine ziload C dL_act_658 rfl ?_
                      refine zbipush (v := 22) C dL_act_660 (by decide) ?_
                      refine zcallS C (l_low _ _ (by decide)) hy_L_low hst_L_low hl_L_115 rfl rfl (by decide) (by decide) (by omega) (by omega) rfl (by exact Nat.le_of_ble_eq_true rfl) dL_act_662 (fun v662 M hp662 => ?_)
                      obtain ⟨rfl, rfl⟩ := hp662
                      refine zconst (v := 1) C dL_act_665 (by decide) ?_
                      refine zisub C dL_act_666 ?_
                      refine zgoto (tgt := 677) C dL_act_667 (by decide) ?_
                      exact J654_13 _ (by first | (simp only [aK, h655, reduceIte, Bool.false_eq_true]; done) | (simp only [aK, h655, reduceIte, Bool.false_eq_true]; rfl))
                  · subst hx654
                    refine zistore (L1 := [_, _, _, _, _, _, _, _, _, _, _]) C dL_act_677 rfl (Nat.le_of_ble_eq_true rfl) ?_
                    refine ziload_n C dL_act_679 rfl ?_
                    refine zbipush (v := 60) C dL_act_680 (by decide) ?_
                    refine zicmp_ge (tgt := 834) C dL_act_682 (by decide) (fun h682 => ?_) (fun h682 => ?_)
                    · refine zaload_n C dL_act_834 rfl ?_
                      refine zbipush (v := 24) C dL_act_835 (by decide) ?_
                      refine zjn 884 (fun r => r = aDays v) (fun J837_15 => ?_) (fun x837 hx837 => ?_)
                      · refine ziload_n C dL_act_837 rfl ?_
                        refine zif_eq (tgt := 852) C dL_act_838 (by decide) (fun h838 => ?_) (fun h838 => ?_)
                        · replace h838 := b2i_0.mp h838
                          refine ziload C dL_act_852 rfl ?_
                          refine zbipush (v := 8) C dL_act_854 (by decide) ?_
                          refine zishr C dL_act_856 ?_
                          refine zconst (v := 3) C dL_act_857 (by decide) ?_
                          refine ziand C dL_act_858 ?_
                          refine zif_le (tgt := 874) C dL_act_859 (by decide) (fun h859 => ?_) (fun h859 => ?_)
                          · refine zconst (v := 1) C dL_act_874 (by decide) ?_
                            refine ziload C dL_act_875 rfl ?_
                            refine zsipush (v := 400) C dL_act_877 (by decide) ?_
                            refine zcallS C (l_low _ _ (by decide)) hy_L_low hst_L_low hl_L_115 rfl rfl (by decide) (by decide) (by omega) (by omega) rfl (by exact Nat.le_of_ble_eq_true rfl) dL_act_880 (fun v880 M hp880 => ?_)
                            obtain ⟨rfl, rfl⟩ := hp880
                            refine ziadd C dL_act_883 ?_
                            exact J837_15 _ (by first | (simp only [aDays, h838, h859, reduceIte, Bool.false_eq_true]; done) | (simp only [aDays, h838, h859, reduceIte, Bool.false_eq_true]; rfl))
                          · refine zconst (v := 1) C dL_act_862 (by decide) ?_
                            refine ziload C dL_act_863 rfl ?_
                            refine zbipush (v := 25) C dL_act_865 (by decide) ?_
                            refine zcallS C (l_low _ _ (by decide)) hy_L_low hst_L_low hl_L_115 rfl rfl (by decide) (by decide) (by omega) (by omega) rfl (by exact Nat.le_of_ble_eq_true rfl) dL_act_867 (fun v867 M hp867 => ?_)
                            obtain ⟨rfl, rfl⟩ := hp867
                            refine ziadd C dL_act_870 ?_
                            refine zgoto (tgt := 884) C dL_act_871 (by decide) ?_
                            exact J837_15 _ (by first | (simp only [aDays, h838, h859, reduceIte, Bool.false_eq_true]; done) | (simp only [aDays, h838, h859, reduceIte, Bool.false_eq_true]; rfl))
                        · replace h838 := b2i_n0.mp h838
                          refine ziload C dL_act_841 rfl ?_
                          refine zsipush (v := 2200) C dL_act_843 (by decide) ?_
                          refine zcallS C (l_low _ _ (by decide)) hy_L_low hst_L_low hl_L_115 rfl rfl (by decide) (by decide) (by omega) (by omega) rfl (by exact Nat.le_of_ble_eq_true rfl) dL_act_846 (fun v846 M hp846 => ?_)
                          obtain ⟨rfl, rfl⟩ := hp846
                          refine zgoto (tgt := 884) C dL_act_849 (by decide) ?_
                          exact J837_15 _ (by first | (simp only [aDays, h838, reduceIte, Bool.false_eq_true]; done) | (simp only [aDays, h838, reduceIte, Bool.false_eq_true]; rfl))
                      · subst hx837
                        refine zconst (v := 0) C dL_act_884 (by decide) ?_
                        refine zconst (v := 0) C dL_act_885 (by decide) ?_
                        refine zconst (v := 0) C dL_act_886 (by decide) ?_
                        have hmc1 : dcC K 24 (aDays v) ≤ mc := by have q := hmc; rw [actT, if_pos h146, if_pos h398, if_pos h521, if_pos h682] at q; exact q
                        have hms1 : dcS K 24 (aDays v) ≤ ms := by have q := hms; rw [actT, if_pos h146, if_pos h398, if_pos h521, if_pos h682] at q; exact q
                        refine zcallSW (np := 6) C hN (z.call (does_p _ _ _ _ z.into hok)) hcw_does zinL (by decide) (by decide +kernel) hl_L_118 rfl rfl (by decide) (by decide) (by omega) (by omega) rfl (by exact Nat.le_of_ble_eq_true rfl) dL_act_887 (fun r M1 hr => ?_)
                        exact zend_l C hE dL_act_890 (by omega) (by omega) (by rw [actT, if_pos h146, if_pos h398, if_pos h521, if_pos h682]; exact hr)
                    · refine ziload_n C dL_act_685 rfl ?_
                      refine zbipush (v := 44) C dL_act_686 (by decide) ?_
                      refine zicmp_ge (tgt := 727) C dL_act_688 (by decide) (fun h688 => ?_) (fun h688 => ?_)
                      · refine ziload_n C dL_act_727 rfl ?_
                        refine zbipush (v := 46) C dL_act_728 (by decide) ?_
                        refine zicmp_ge (tgt := 747) C dL_act_730 (by decide) (fun h730 => ?_) (fun h730 => ?_)
                        · refine ziload_n C dL_act_747 rfl ?_
                          refine zbipush (v := 53) C dL_act_748 (by decide) ?_
                          refine zicmp_ge (tgt := 782) C dL_act_750 (by decide) (fun h750 => ?_) (fun h750 => ?_)
                          · refine ziload_n C dL_act_782 rfl ?_
                            refine zbipush (v := 56) C dL_act_783 (by decide) ?_
                            refine zicmp_ge (tgt := 802) C dL_act_785 (by decide) (fun h785 => ?_) (fun h785 => ?_)
                            · refine ziload_n C dL_act_802 rfl ?_
                              refine zbipush (v := 58) C dL_act_803 (by decide) ?_
                              refine zicmp_ge (tgt := 822) C dL_act_805 (by decide) (fun h805 => ?_) (fun h805 => ?_)
                              · refine zaload_n C dL_act_822 rfl ?_
                                refine zbipush (v := 19) C dL_act_823 (by decide) ?_
                                refine ziload C dL_act_825 rfl ?_
                                refine zconst (v := 0) C dL_act_827 (by decide) ?_
                                refine zconst (v := 0) C dL_act_828 (by decide) ?_
                                refine zconst (v := 0) C dL_act_829 (by decide) ?_
                                have hmc1 : 100 ≤ mc := by have q := hmc; rw [actT, if_pos h146, if_pos h398, if_pos h521, if_neg h682, if_pos h688, if_pos h730, if_pos h750, if_pos h785, if_pos h805] at q; exact q
                                have hms1 : 6000 ≤ ms := by have q := hms; rw [actT, if_pos h146, if_pos h398, if_pos h521, if_neg h682, if_pos h688, if_pos h730, if_pos h750, if_pos h785, if_pos h805] at q; exact q
                                refine zcallSW (np := 6) C hN (z.call (does_19 _ _ _ _ z.into hok)) hcw_does zinL (by decide) (by decide +kernel) hl_L_118 rfl rfl (by decide) (by decide) (by omega) (by omega) rfl (by exact Nat.le_of_ble_eq_true rfl) dL_act_830 (fun r M1 hr => ?_)
                                exact zend_l C hE dL_act_833 (by omega) (by omega) (by rw [actT, if_pos h146, if_pos h398, if_pos h521, if_neg h682, if_pos h688, if_pos h730, if_pos h750, if_pos h785, if_pos h805]; exact hr)
                              · refine zaload_n C dL_act_808 rfl ?_
                                refine zbipush (v := 18) C dL_act_809 (by decide) ?_
                                refine ziload C dL_act_811 rfl ?_
                                refine zconst (v := 0) C dL_act_813 (by decide) ?_
                                refine zconst (v := 0) C dL_act_814 (by decide) ?_
                                refine zconst (v := 0) C dL_act_815 (by decide) ?_
                                have hmc1 : 100 ≤ mc := by have q := hmc; rw [actT, if_pos h146, if_pos h398, if_pos h521, if_neg h682, if_pos h688, if_pos h730, if_pos h750, if_pos h785, if_neg h805] at q; exact q
                                have hms1 : 6000 ≤ ms := by have q := hms; rw [actT, if_pos h146, if_pos h398, if_pos h521, if_neg h682, if_pos h688, if_pos h730, if_pos h750, if_pos h785, if_neg h805] at q; exact q
                                refine zcallSW (np := 6) C hN (z.call (does_18 _ _ _ _ z.into hok)) hcw_does zinL (by decide) (by decide +kernel) hl_L_118 rfl rfl (by decide) (by decide) (by omega) (by omega) rfl (by exact Nat.le_of_ble_eq_true rfl) dL_act_816 (fun r M1 hr => ?_)
                                refine zgoto (tgt := 833) C dL_act_819 (by decide) ?_
                                exact zend_l C hE dL_act_833 (by omega) (by omega) (by rw [actT, if_pos h146, if_pos h398, if_pos h521, if_neg h682, if_pos h688, if_pos h730, if_pos h750, if_pos h785, if_neg h805]; exact hr)
                            · refine zaload_n C dL_act_788 rfl ?_
                              refine zbipush (v := 17) C dL_act_789 (by decide) ?_
                              refine ziload C dL_act_791 rfl ?_
                              refine zconst (v := 0) C dL_act_793 (by decide) ?_
                              refine zconst (v := 0) C dL_act_794 (by decide) ?_
                              refine zconst (v := 0) C dL_act_795 (by decide) ?_
                              have hmc1 : 100 ≤ mc := by have q := hmc; rw [actT, if_pos h146, if_pos h398, if_pos h521, if_neg h682, if_pos h688, if_pos h730, if_pos h750, if_neg h785] at q; exact q
                              have hms1 : 6000 ≤ ms := by have q := hms; rw [actT, if_pos h146, if_pos h398, if_pos h521, if_neg h682, if_pos h688, if_pos h730, if_pos h750, if_neg h785] at q; exact q
                              refine zcallSW (np := 6) C hN (z.call (does_17 _ _ _ _ z.into hok)) hcw_does zinL (by decide) (by decide +kernel) hl_L_118 rfl rfl (by decide) (by decide) (by omega) (by omega) rfl (by exact Nat.le_of_ble_eq_true rfl) dL_act_796 (fun r M1 hr => ?_)
                              refine zgoto (tgt := 833) C dL_act_799 (by decide) ?_
                              exact zend_l C hE dL_act_833 (by omega) (by omega) (by rw [actT, if_pos h146, if_pos h398, if_pos h521, if_neg h682, if_pos h688, if_pos h730, if_pos h750, if_neg h785]; exact hr)
                          · refine zaload_n C dL_act_753 rfl ?_
                            refine zbipush (v := 16) C dL_act_754 (by decide) ?_
                            refine ziload C dL_act_756 rfl ?_
                            refine ziload C dL_act_758 rfl ?_
                            refine zjn 775 (fun r => r = aFor v) (fun J760_16 => ?_) (fun x760 hx760 => ?_)
                            · refine ziload C dL_act_760 rfl ?_
                              refine zbipush (v := 6) C dL_act_762 (by decide) ?_
                              refine zishr C dL_act_764 ?_
                              refine zconst (v := 3) C dL_act_765 (by decide) ?_
                              refine ziand C dL_act_766 ?_
                              refine zif_le (tgt := 774) C dL_act_767 (by decide) (fun h767 => ?_) (fun h767 => ?_)
                              · refine zconst (v := 0) C dL_act_774 (by decide) ?_
                                exact J760_16 _ (by first | (simp only [aFor, h767, reduceIte, Bool.false_eq_true]; done) | (simp only [aFor, h767, reduceIte, Bool.false_eq_true]; rfl))
                              · refine zconst (v := 1) C dL_act_770 (by decide) ?_
                                refine zgoto (tgt := 775) C dL_act_771 (by decide) ?_
                                exact J760_16 _ (by first | (simp only [aFor, h767, reduceIte, Bool.false_eq_true]; done) | (simp only [aFor, h767, reduceIte, Bool.false_eq_true]; rfl))
                            · subst hx760
                              refine zconst (v := 0) C dL_act_775 (by decide) ?_
                              have hmc1 : 100 ≤ mc := by have q := hmc; rw [actT, if_pos h146, if_pos h398, if_pos h521, if_neg h682, if_pos h688, if_pos h730, if_neg h750] at q; exact q
                              have hms1 : 6000 ≤ ms := by have q := hms; rw [actT, if_pos h146, if_pos h398, if_pos h521, if_neg h682, if_pos h688, if_pos h730, if_neg h750] at q; exact q
                              refine zcallSW (np := 6) C hN (z.call (does_16 _ _ _ _ z.into hok)) hcw_does zinL (by decide) (by decide +kernel) hl_L_118 rfl rfl (by decide) (by decide) (by omega) (by omega) rfl (by exact Nat.le_of_ble_eq_true rfl) dL_act_776 (fun r M1 hr => ?_)
                              refine zgoto (tgt := 833) C dL_act_779 (by decide) ?_
                              exact zend_l C hE dL_act_833 (by omega) (by omega) (by rw [actT, if_pos h146, if_pos h398, if_pos h521, if_neg h682, if_pos h688, if_pos h730, if_neg h750]; exact hr)
                        · refine zaload_n C dL_act_733 rfl ?_
                          refine zbipush (v := 15) C dL_act_734 (by decide) ?_
                          refine ziload C dL_act_736 rfl ?_
                          refine zconst (v := 0) C dL_act_738 (by decide) ?_
                          refine zconst (v := 0) C dL_act_739 (by decide) ?_
                          refine zconst (v := 0) C dL_act_740 (by decide) ?_
                          have hmc1 : 100 ≤ mc := by have q := hmc; rw [actT, if_pos h146, if_pos h398, if_pos h521, if_neg h682, if_pos h688, if_neg h730] at q; exact q
                          have hms1 : 6000 ≤ ms := by have q := hms; rw [actT, if_pos h146, if_pos h398, if_pos h521, if_neg h682, if_pos h688, if_neg h730] at q; exact q
                          refine zcallSW (np := 6) C hN (z.call (does_15 _ _ _ _ z.into hok)) hcw_does zinL (by decide) (by decide +kernel) hl_L_118 rfl rfl (by decide) (by decide) (by omega) (by omega) rfl (by exact Nat.le_of_ble_eq_true rfl) dL_act_741 (fun r M1 hr => ?_)
                          refine zgoto (tgt := 833) C dL_act_744 (by decide) ?_
                          exact zend_l C hE dL_act_833 (by omega) (by omega) (by rw [actT, if_pos h146, if_pos h398, if_pos h521, if_neg h682, if_pos h688, if_neg h730]; exact hr)
                      · refine zaload_n C dL_act_691 rfl ?_
                        refine zbipush (v := 14) C dL_act_692 (by decide) ?_
                        refine ziload C dL_act_694 rfl ?_
                        refine ziload C dL_act_696 rfl ?_
                        refine ziload C dL_act_698 rfl ?_
                        refine zjn 721 (fun r => r = aSum v) (fun J700_17 => ?_) (fun x700 hx700 => ?_)
                        · refine ziload_n C dL_act_700 rfl ?_
                          refine zif_eq (tgt := 709) C dL_act_701 (by decide) (fun h701 => ?_) (fun h701 => ?_)
                          · replace h701 := b2i_0.mp h701
                            refine zconst (v := 1) C dL_act_709 (by decide) ?_
                            refine ziload C dL_act_710 rfl ?_
                            refine zconst (v := 3) C dL_act_712 (by decide) ?_
                            refine zishr C dL_act_713 ?_
                            refine zsipush (v := 2000) C dL_act_714 (by decide) ?_
                            refine zcallS C (l_low _ _ (by decide)) hy_L_low hst_L_low hl_L_115 rfl rfl (by decide) (by decide) (by omega) (by omega) rfl (by exact Nat.le_of_ble_eq_true rfl) dL_act_717 (fun v717 M hp717 => ?_)
                            obtain ⟨rfl, rfl⟩ := hp717
                            refine ziadd C dL_act_720 ?_
                            exact J700_17 _ (by first | (simp only [aSum, h701, reduceIte, Bool.false_eq_true]; done) | (simp only [aSum, h701, reduceIte, Bool.false_eq_true]; rfl))
                          · replace h701 := b2i_n0.mp h701
                            refine ziload C dL_act_704 rfl ?_
                            refine zgoto (tgt := 721) C dL_act_706 (by decide) ?_
                            exact J700_17 _ (by first | (simp only [aSum, h701, reduceIte, Bool.false_eq_true]; done) | (simp only [aSum, h701, reduceIte, Bool.false_eq_true]; rfl))
                        · subst hx700
                          have hmc1 : 100 ≤ mc := by have q := hmc; rw [actT, if_pos h146, if_pos h398, if_pos h521, if_neg h682, if_neg h688] at q; exact q
                          have hms1 : 6000 ≤ ms := by have q := hms; rw [actT, if_pos h146, if_pos h398, if_pos h521, if_neg h682, if_neg h688] at q; exact q
                          refine zcallSW (np := 6) C hN (z.call (does_14 _ _ _ _ z.into hok)) hcw_does zinL (by decide) (by decide +kernel) hl_L_118 rfl rfl (by decide) (by decide) (by omega) (by omega) rfl (by exact Nat.le_of_ble_eq_true rfl) dL_act_721 (fun r M1 hr => ?_)
                          refine zgoto (tgt := 833) C dL_act_724 (by decide) ?_
                          exact zend_l C hE dL_act_833 (by omega) (by omega) (by rw [actT, if_pos h146, if_pos h398, if_pos h521, if_neg h682, if_neg h688]; exact hr)
                · refine ziload_n C dL_act_524 rfl ?_
                  refine zbipush (v := 26) C dL_act_525 (by decide) ?_
                  refine zicmp_ge (tgt := 563) C dL_act_527 (by decide) (fun h527 => ?_) (fun h527 => ?_)
                  · refine ziload_n C dL_act_563 rfl ?_
                    refine zbipush (v := 30) C dL_act_564 (by decide) ?_
                    refine zicmp_ge (tgt := 602) C dL_act_566 (by decide) (fun h566 => ?_) (fun h566 => ?_)
                    · refine ziload_n C dL_act_602 rfl ?_
                      refine zbipush (v := 38) C dL_act_603 (by decide) ?_
                      refine zicmp_ge (tgt := 642) C dL_act_605 (by decide) (fun h605 => ?_) (fun h605 => ?_)
                      · refine zaload_n C dL_act_642 rfl ?_
                        refine zbipush (v := 13) C dL_act_643 (by decide) ?_
                        refine ziload C dL_act_645 rfl ?_
                        refine zconst (v := 0) C dL_act_647 (by decide) ?_
                        refine zconst (v := 0) C dL_act_648 (by decide) ?_
                        refine zconst (v := 0) C dL_act_649 (by decide) ?_
                        have hmc1 : 100 ≤ mc := by have q := hmc; rw [actT, if_pos h146, if_pos h398, if_neg h521, if_pos h527, if_pos h566, if_pos h605] at q; exact q
                        have hms1 : 6000 ≤ ms := by have q := hms; rw [actT, if_pos h146, if_pos h398, if_neg h521, if_pos h527, if_pos h566, if_pos h605] at q; exact q
                        refine zcallSW (np := 6) C hN (z.call (does_13 _ _ _ _ z.into hok)) hcw_does zinL (by decide) (by decide +kernel) hl_L_118 rfl rfl (by decide) (by decide) (by omega) (by omega) rfl (by exact Nat.le_of_ble_eq_true rfl) dL_act_650 (fun r M1 hr => ?_)
                        exact zend_l C hE dL_act_653 (by omega) (by omega) (by rw [actT, if_pos h146, if_pos h398, if_neg h521, if_pos h527, if_pos h566, if_pos h605]; exact hr)
                      · refine zaload_n C dL_act_608 rfl ?_
                        refine zbipush (v := 12) C dL_act_609 (by decide) ?_
                        refine ziload C dL_act_611 rfl ?_
                        refine zjn 634 (fun r => r = aCents v) (fun J613_18 => ?_) (fun x613 hx613 => ?_)
                        · refine ziload_n C dL_act_613 rfl ?_
                          refine zif_eq (tgt := 622) C dL_act_614 (by decide) (fun h614 => ?_) (fun h614 => ?_)
                          · replace h614 := b2i_0.mp h614
                            refine zconst (v := 1) C dL_act_622 (by decide) ?_
                            refine ziload C dL_act_623 rfl ?_
                            refine zconst (v := 4) C dL_act_625 (by decide) ?_
                            refine zishr C dL_act_626 ?_
                            refine zsipush (v := 5000) C dL_act_627 (by decide) ?_
                            refine zcallS C (l_low _ _ (by decide)) hy_L_low hst_L_low hl_L_115 rfl rfl (by decide) (by decide) (by omega) (by omega) rfl (by exact Nat.le_of_ble_eq_true rfl) dL_act_630 (fun v630 M hp630 => ?_)
                            obtain ⟨rfl, rfl⟩ := hp630
                            refine ziadd C dL_act_633 ?_
                            exact J613_18 _ (by first | (simp only [aCents, h614, reduceIte, Bool.false_eq_true]; done) | (simp only [aCents, h614, reduceIte, Bool.false_eq_true]; rfl))
                          · replace h614 := b2i_n0.mp h614
                            refine ziload C dL_act_617 rfl ?_
                            refine zgoto (tgt := 634) C dL_act_619 (by decide) ?_
                            exact J613_18 _ (by first | (simp only [aCents, h614, reduceIte, Bool.false_eq_true]; done) | (simp only [aCents, h614, reduceIte, Bool.false_eq_true]; rfl))
                        · subst hx613
                          refine zconst (v := 0) C dL_act_634 (by decide) ?_
                          refine zconst (v := 0) C dL_act_635 (by decide) ?_
                          have hmc1 : 100 ≤ mc := by have q := hmc; rw [actT, if_pos h146, if_pos h398, if_neg h521, if_pos h527, if_pos h566, if_neg h605] at q; exact q
                          have hms1 : 6000 ≤ ms := by have q := hms; rw [actT, if_pos h146, if_pos h398, if_neg h521, if_pos h527, if_pos h566, if_neg h605] at q; exact q
                          refine zcallSW (np := 6) C hN (z.call (does_12 _ _ _ _ z.into hok)) hcw_does zinL (by decide) (by decide +kernel) hl_L_118 rfl rfl (by decide) (by decide) (by omega) (by omega) rfl (by exact Nat.le_of_ble_eq_true rfl) dL_act_636 (fun r M1 hr => ?_)
                          refine zgoto (tgt := 653) C dL_act_639 (by decide) ?_
                          exact zend_l C hE dL_act_653 (by omega) (by omega) (by rw [actT, if_pos h146, if_pos h398, if_neg h521, if_pos h527, if_pos h566, if_neg h605]; exact hr)
                    · refine zaload_n C dL_act_569 rfl ?_
                      refine zbipush (v := 11) C dL_act_570 (by decide) ?_
                      refine ziload C dL_act_572 rfl ?_
                      refine zjn 585 (fun r => r = aTen v) (fun J574_19 => ?_) (fun x574 hx574 => ?_)
                      · refine ziload_n C dL_act_574 rfl ?_
                        refine zif_eq (tgt := 583) C dL_act_575 (by decide) (fun h575 => ?_) (fun h575 => ?_)
                        · replace h575 := b2i_0.mp h575
                          refine zbipush (v := 10) C dL_act_583 (by decide) ?_
                          exact J574_19 _ (by first | (simp only [aTen, h575, reduceIte, Bool.false_eq_true]; done) | (simp only [aTen, h575, reduceIte, Bool.false_eq_true]; rfl))
                        · replace h575 := b2i_n0.mp h575
                          refine zbipush (v := 32) C dL_act_578 (by decide) ?_
                          refine zgoto (tgt := 585) C dL_act_580 (by decide) ?_
                          exact J574_19 _ (by first | (simp only [aTen, h575, reduceIte, Bool.false_eq_true]; done) | (simp only [aTen, h575, reduceIte, Bool.false_eq_true]; rfl))
                      · subst hx574
                        refine zcallS C (l_low _ _ ten_n) hy_L_low hst_L_low hl_L_115 rfl rfl (by decide) (by decide) (by omega) (by omega) rfl (by exact Nat.le_of_ble_eq_true rfl) dL_act_585 (fun v585 M hp585 => ?_)
                        obtain ⟨rfl, rfl⟩ := hp585
                        refine ziload C dL_act_588 rfl ?_
                        refine zconst (v := 4) C dL_act_590 (by decide) ?_
                        refine zishr C dL_act_591 ?_
                        refine zconst (v := 1) C dL_act_592 (by decide) ?_
                        refine ziand C dL_act_593 ?_
                        refine zconst (v := 0) C dL_act_594 (by decide) ?_
                        refine zconst (v := 0) C dL_act_595 (by decide) ?_
                        have hmc1 : 100 ≤ mc := by have q := hmc; rw [actT, if_pos h146, if_pos h398, if_neg h521, if_pos h527, if_neg h566] at q; exact q
                        have hms1 : 6000 ≤ ms := by have q := hms; rw [actT, if_pos h146, if_pos h398, if_neg h521, if_pos h527, if_neg h566] at q; exact q
                        refine zcallSW (np := 6) C hN (z.call (does_11 _ _ _ _ z.into hok)) hcw_does zinL (by decide) (by decide +kernel) hl_L_118 rfl rfl (by decide) (by decide) (by omega) (by omega) rfl (by exact Nat.le_of_ble_eq_true rfl) dL_act_596 (fun r M1 hr => ?_)
                        refine zgoto (tgt := 653) C dL_act_599 (by decide) ?_
                        exact zend_l C hE dL_act_653 (by omega) (by omega) (by rw [actT, if_pos h146, if_pos h398, if_neg h521, if_pos h527, if_neg h566]; exact hr)
                  · refine zaload_n C dL_act_530 rfl ?_
                    refine zbipush (v := 10) C dL_act_531 (by decide) ?_
                    refine ziload C dL_act_533 rfl ?_
                    refine ziload C dL_act_535 rfl ?_
                    refine zjn 556 (fun r => r = aDower v) (fun J537_20 => ?_) (fun x537 hx537 => ?_)
                    · refine ziload_n C dL_act_537 rfl ?_
                      refine zif_eq (tgt := 546) C dL_act_538 (by decide) (fun h538 => ?_) (fun h538 => ?_)
                      · replace h538 := b2i_0.mp h538
                        refine ziload C dL_act_546 rfl ?_
                        refine zconst (v := 2) C dL_act_548 (by decide) ?_
                        refine zishr C dL_act_549 ?_
                        refine zsipush (v := 3000) C dL_act_550 (by decide) ?_
                        refine zcallS C (l_low _ _ (by decide)) hy_L_low hst_L_low hl_L_115 rfl rfl (by decide) (by decide) (by omega) (by omega) rfl (by exact Nat.le_of_ble_eq_true rfl) dL_act_553 (fun v553 M hp553 => ?_)
                        obtain ⟨rfl, rfl⟩ := hp553
                        exact J537_20 _ (by first | (simp only [aDower, h538, reduceIte, Bool.false_eq_true]; done) | (simp only [aDower, h538, reduceIte, Bool.false_eq_true]; rfl))
                      · replace h538 := b2i_n0.mp h538
                        refine ziload C dL_act_541 rfl ?_
                        refine zgoto (tgt := 556) C dL_act_543 (by decide) ?_
                        exact J537_20 _ (by first | (simp only [aDower, h538, reduceIte, Bool.false_eq_true]; done) | (simp only [aDower, h538, reduceIte, Bool.false_eq_true]; rfl))
                    · subst hx537
                      refine zconst (v := 0) C dL_act_556 (by decide) ?_
                      have hmc1 : 100 ≤ mc := by have q := hmc; rw [actT, if_pos h146, if_pos h398, if_neg h521, if_neg h527] at q; exact q
                      have hms1 : 6000 ≤ ms := by have q := hms; rw [actT, if_pos h146, if_pos h398, if_neg h521, if_neg h527] at q; exact q
                      refine zcallSW (np := 6) C hN (z.call (does_10 _ _ _ _ z.into hok)) hcw_does zinL (by decide) (by decide +kernel) hl_L_118 rfl rfl (by decide) (by decide) (by omega) (by omega) rfl (by exact Nat.le_of_ble_eq_true rfl) dL_act_557 (fun r M1 hr => ?_)
                      refine zgoto (tgt := 653) C dL_act_560 (by decide) ?_
                      exact zend_l C hE dL_act_653 (by omega) (by omega) (by rw [actT, if_pos h146, if_pos h398, if_neg h521, if_neg h527]; exact hr)
              · refine zjn 417 (fun r => r = b2i (aNone v)) (fun J401_21 => ?_) (fun x401 hx401 => ?_)
                · refine ziload C dL_act_401 rfl ?_
                  refine zbipush (v := 9) C dL_act_403 (by decide) ?_
                  refine zishr C dL_act_405 ?_
                  refine zconst (v := 1) C dL_act_406 (by decide) ?_
                  refine ziand C dL_act_407 ?_
                  refine zconst (v := 1) C dL_act_408 (by decide) ?_
                  refine zicmp_ne (tgt := 416) C dL_act_409 (by decide) (fun h409 => ?_) (fun h409 => ?_)
                  · refine zconst (v := 0) C dL_act_416 (by decide) ?_
                    exact J401_21 _ (by unfold aNone; first | (rw [decide_eq_true h409]; rfl) | (rw [decide_eq_false h409]; rfl) | (rw [decide_eq_true (Classical.not_not.mp h409)]; rfl))
                  · refine zconst (v := 1) C dL_act_412 (by decide) ?_
                    refine zgoto (tgt := 417) C dL_act_413 (by decide) ?_
                    exact J401_21 _ (by unfold aNone; first | (rw [decide_eq_true h409]; rfl) | (rw [decide_eq_false h409]; rfl) | (rw [decide_eq_true (Classical.not_not.mp h409)]; rfl))
                · subst hx401
                  refine zistore (L1 := [_, _, _, _, _, _, _, _, _, _, _]) C dL_act_417 rfl (Nat.le_of_ble_eq_true rfl) ?_
                  refine ziload_n C dL_act_419 rfl ?_
                  refine zbipush (v := 12) C dL_act_420 (by decide) ?_
                  refine zicmp_ge (tgt := 476) C dL_act_422 (by decide) (fun h422 => ?_) (fun h422 => ?_)
                  · refine ziload_n C dL_act_476 rfl ?_
                    refine zbipush (v := 18) C dL_act_477 (by decide) ?_
                    refine zicmp_ge (tgt := 506) C dL_act_479 (by decide) (fun h479 => ?_) (fun h479 => ?_)
                    · refine zaload_n C dL_act_506 rfl ?_
                      refine zbipush (v := 8) C dL_act_507 (by decide) ?_
                      refine ziload C dL_act_509 rfl ?_
                      refine zconst (v := 0) C dL_act_511 (by decide) ?_
                      refine zconst (v := 0) C dL_act_512 (by decide) ?_
                      refine zconst (v := 0) C dL_act_513 (by decide) ?_
                      have hmc1 : 100 ≤ mc := by have q := hmc; rw [actT, if_pos h146, if_neg h398, if_pos h422, if_pos h479] at q; exact q
                      have hms1 : 6000 ≤ ms := by have q := hms; rw [actT, if_pos h146, if_neg h398, if_pos h422, if_pos h479] at q; exact q
                      refine zcallSW (np := 6) C hN (z.call (does_8 _ _ _ _ z.into hok)) hcw_does zinL (by decide) (by decide +kernel) hl_L_118 rfl rfl (by decide) (by decide) (by omega) (by omega) rfl (by exact Nat.le_of_ble_eq_true rfl) dL_act_514 (fun r M1 hr => ?_)
                      exact zend_l C hE dL_act_517 (by omega) (by omega) (by rw [actT, if_pos h146, if_neg h398, if_pos h422, if_pos h479]; exact hr)
                    · refine zaload_n C dL_act_482 rfl ?_
                      refine zbipush (v := 7) C dL_act_483 (by decide) ?_
                      refine ziload C dL_act_485 rfl ?_
                      refine ziload C dL_act_487 rfl ?_
                      refine ziload C dL_act_489 rfl ?_
                      refine ziload C dL_act_491 rfl ?_
                      refine zconst (v := 5) C dL_act_493 (by decide) ?_
                      refine zishr C dL_act_494 ?_
                      refine zbipush (v := 12) C dL_act_495 (by decide) ?_
                      refine zcallS C (l_low _ _ (by decide)) hy_L_low hst_L_low hl_L_115 rfl rfl (by decide) (by decide) (by omega) (by omega) rfl (by exact Nat.le_of_ble_eq_true rfl) dL_act_497 (fun v497 M hp497 => ?_)
                      obtain ⟨rfl, rfl⟩ := hp497
                      have hmc1 : 100 ≤ mc := by have q := hmc; rw [actT, if_pos h146, if_neg h398, if_pos h422, if_neg h479] at q; exact q
                      have hms1 : 6000 ≤ ms := by have q := hms; rw [actT, if_pos h146, if_neg h398, if_pos h422, if_neg h479] at q; exact q
                      refine zcallSW (np := 6) C hN (z.call (does_7 _ _ _ _ z.into hok)) hcw_does zinL (by decide) (by decide +kernel) hl_L_118 rfl rfl (by decide) (by decide) (by omega) (by omega) rfl (by exact Nat.le_of_ble_eq_true rfl) dL_act_500 (fun r M1 hr => ?_)
                      refine zgoto (tgt := 517) C dL_act_503 (by decide) ?_
                      exact zend_l C hE dL_act_517 (by omega) (by omega) (by rw [actT, if_pos h146, if_neg h398, if_pos h422, if_neg h479]; exact hr)
                  · refine zaload_n C dL_act_425 rfl ?_
                    refine zbipush (v := 6) C dL_act_426 (by decide) ?_
                    refine zjn 439 (fun r => r = aNa v) (fun J428_23 => ?_) (fun x428 hx428 => ?_)
                    · refine ziload C dL_act_428 rfl ?_
                      refine zif_eq (tgt := 437) C dL_act_430 (by decide) (fun h430 => ?_) (fun h430 => ?_)
                      · replace h430 := b2i_0.mp h430
                        refine ziload C dL_act_437 rfl ?_
                        exact J428_23 _ (by first | (simp only [aNa, h430, reduceIte, Bool.false_eq_true]; done) | (simp only [aNa, h430, reduceIte, Bool.false_eq_true]; rfl))
                      · replace h430 := b2i_n0.mp h430
                        refine zconst (v := -1) C dL_act_433 (by decide) ?_
                        refine zgoto (tgt := 439) C dL_act_434 (by decide) ?_
                        exact J428_23 _ (by first | (simp only [aNa, h430, reduceIte, Bool.false_eq_true]; done) | (simp only [aNa, h430, reduceIte, Bool.false_eq_true]; rfl))
                    · subst hx428
                      refine zjn 450 (fun r => r = aNb v) (fun J439_24 => ?_) (fun x439 hx439 => ?_)
                      · refine ziload C dL_act_439 rfl ?_
                        refine zif_eq (tgt := 448) C dL_act_441 (by decide) (fun h441 => ?_) (fun h441 => ?_)
                        · replace h441 := b2i_0.mp h441
                          refine ziload C dL_act_448 rfl ?_
                          exact J439_24 _ (by first | (simp only [aNb, h441, reduceIte, Bool.false_eq_true]; done) | (simp only [aNb, h441, reduceIte, Bool.false_eq_true]; rfl))
                        · replace h441 := b2i_n0.mp h441
                          refine zconst (v := -1) C dL_act_444 (by decide) ?_
                          refine zgoto (tgt := 450) C dL_act_445 (by decide) ?_
                          exact J439_24 _ (by first | (simp only [aNb, h441, reduceIte, Bool.false_eq_true]; done) | (simp only [aNb, h441, reduceIte, Bool.false_eq_true]; rfl))
                      · subst hx439
                        refine zjn 463 (fun r => r = aNc v) (fun J450_25 => ?_) (fun x450 hx450 => ?_)
                        · refine ziload C dL_act_450 rfl ?_
                          refine zif_eq (tgt := 462) C dL_act_452 (by decide) (fun h452 => ?_) (fun h452 => ?_)
                          · replace h452 := b2i_0.mp h452
                            refine zconst (v := 0) C dL_act_462 (by decide) ?_
                            exact J450_25 _ (by first | (simp only [aNc, h452, reduceIte, Bool.false_eq_true]; done) | (simp only [aNc, h452, reduceIte, Bool.false_eq_true]; rfl))
                          · replace h452 := b2i_n0.mp h452
                            refine ziload C dL_act_455 rfl ?_
                            refine zconst (v := 1) C dL_act_457 (by decide) ?_
                            refine ziadd C dL_act_458 ?_
                            refine zgoto (tgt := 463) C dL_act_459 (by decide) ?_
                            exact J450_25 _ (by first | (simp only [aNc, h452, reduceIte, Bool.false_eq_true]; done) | (simp only [aNc, h452, reduceIte, Bool.false_eq_true]; rfl))
                        · subst hx450
                          refine ziload C dL_act_463 rfl ?_
                          refine zbipush (v := 6) C dL_act_465 (by decide) ?_
                          refine zishr C dL_act_467 ?_
                          refine zconst (v := 1) C dL_act_468 (by decide) ?_
                          refine ziand C dL_act_469 ?_
                          have hmc1 : 100 ≤ mc := by have q := hmc; rw [actT, if_pos h146, if_neg h398, if_neg h422] at q; exact q
                          have hms1 : 6000 ≤ ms := by have q := hms; rw [actT, if_pos h146, if_neg h398, if_neg h422] at q; exact q
                          refine zcallSW (np := 6) C hN (z.call (does_6 _ _ _ _ z.into hok)) hcw_does zinL (by decide) (by decide +kernel) hl_L_118 rfl rfl (by decide) (by decide) (by omega) (by omega) rfl (by exact Nat.le_of_ble_eq_true rfl) dL_act_470 (fun r M1 hr => ?_)
                          refine zgoto (tgt := 517) C dL_act_473 (by decide) ?_
                          exact zend_l C hE dL_act_517 (by omega) (by omega) (by rw [actT, if_pos h146, if_neg h398, if_neg h422]; exact hr)
            · refine zjn 176 (fun r => r = aWhat v) (fun J149_26 => ?_) (fun x149 hx149 => ?_)
              · refine ziload_n C dL_act_149 rfl ?_
                refine zif_eq (tgt := 167) C dL_act_150 (by decide) (fun h150 => ?_) (fun h150 => ?_)
                · replace h150 := b2i_0.mp h150
                  refine ziload C dL_act_167 rfl ?_
                  refine zconst (v := 3) C dL_act_169 (by decide) ?_
                  refine zishr C dL_act_170 ?_
                  refine zbipush (v := 7) C dL_act_171 (by decide) ?_
                  refine zcallS C (l_low _ _ (by decide)) hy_L_low hst_L_low hl_L_115 rfl rfl (by decide) (by decide) (by omega) (by omega) rfl (by exact Nat.le_of_ble_eq_true rfl) dL_act_173 (fun v173 M hp173 => ?_)
                  obtain ⟨rfl, rfl⟩ := hp173
                  exact J149_26 _ (by first | (simp only [aWhat, h150, reduceIte, Bool.false_eq_true]; done) | (simp only [aWhat, h150, reduceIte, Bool.false_eq_true]; rfl))
                · replace h150 := b2i_n0.mp h150
                  refine ziload C dL_act_153 rfl ?_
                  refine zconst (v := 3) C dL_act_155 (by decide) ?_
                  refine zishr C dL_act_156 ?_
                  refine zbipush (v := 9) C dL_act_157 (by decide) ?_
                  refine zcallS C (l_low _ _ (by decide)) hy_L_low hst_L_low hl_L_115 rfl rfl (by decide) (by decide) (by omega) (by omega) rfl (by exact Nat.le_of_ble_eq_true rfl) dL_act_159 (fun v159 M hp159 => ?_)
                  obtain ⟨rfl, rfl⟩ := hp159
                  refine zconst (v := 1) C dL_act_162 (by decide) ?_
                  refine zisub C dL_act_163 ?_
                  refine zgoto (tgt := 176) C dL_act_164 (by decide) ?_
                  exact J149_26 _ (by first | (simp only [aWhat, h150, reduceIte, Bool.false_eq_true]; done) | (simp only [aWhat, h150, reduceIte, Bool.false_eq_true]; rfl))
              · subst hx149
                refine zistore (L1 := [_, _, _, _, _, _, _, _, _, _, _]) C dL_act_176 rfl (Nat.le_of_ble_eq_true rfl) ?_
                refine zjn 301 (fun r => r = aNum v) (fun J178_28 => ?_) (fun x178 hx178 => ?_)
                · refine ziload_n C dL_act_178 rfl ?_
                  refine zif_eq (tgt := 198) C dL_act_179 (by decide) (fun h179 => ?_) (fun h179 => ?_)
                  · replace h179 := b2i_0.mp h179
                    refine ziload C dL_act_198 rfl ?_
                    refine zif_ne (tgt := 215) C dL_act_200 (by decide) (fun h200 => ?_) (fun h200 => ?_)
                    · refine ziload C dL_act_215 rfl ?_
                      refine zconst (v := 1) C dL_act_217 (by decide) ?_
                      refine zicmp_ne (tgt := 233) C dL_act_218 (by decide) (fun h218 => ?_) (fun h218 => ?_)
                      · refine ziload C dL_act_233 rfl ?_
                        refine zconst (v := 2) C dL_act_235 (by decide) ?_
                        refine zicmp_ne (tgt := 253) C dL_act_236 (by decide) (fun h236 => ?_) (fun h236 => ?_)
                        · refine ziload C dL_act_253 rfl ?_
                          refine zconst (v := 3) C dL_act_255 (by decide) ?_
                          refine zicmp_ne (tgt := 272) C dL_act_256 (by decide) (fun h256 => ?_) (fun h256 => ?_)
                          · refine ziload C dL_act_272 rfl ?_
                            refine zbipush (v := 6) C dL_act_274 (by decide) ?_
                            refine zicmp_ne (tgt := 292) C dL_act_276 (by decide) (fun h276 => ?_) (fun h276 => ?_)
                            · refine ziload C dL_act_292 rfl ?_
                              refine zbipush (v := 6) C dL_act_294 (by decide) ?_
                              refine zishr C dL_act_296 ?_
                              refine zconst (v := 2) C dL_act_297 (by decide) ?_
                              refine zcallS C (l_low _ _ (by decide)) hy_L_low hst_L_low hl_L_115 rfl rfl (by decide) (by decide) (by omega) (by omega) rfl (by exact Nat.le_of_ble_eq_true rfl) dL_act_298 (fun v298 M hp298 => ?_)
                              obtain ⟨rfl, rfl⟩ := hp298
                              exact J178_28 _ (by first | (simp only [aNum, h179, h200, h218, h236, h256, h276, reduceIte, Bool.false_eq_true]; done) | (simp only [aNum, h179, h200, h218, h236, h256, h276, reduceIte, Bool.false_eq_true]; rfl))
                            · refine ziload C dL_act_279 rfl ?_
                              refine zbipush (v := 6) C dL_act_281 (by decide) ?_
                              refine zishr C dL_act_283 ?_
                              refine zbipush (v := 64) C dL_act_284 (by decide) ?_
                              refine zcallS C (l_low _ _ (by decide)) hy_L_low hst_L_low hl_L_115 rfl rfl (by decide) (by decide) (by omega) (by omega) rfl (by exact Nat.le_of_ble_eq_true rfl) dL_act_286 (fun v286 M hp286 => ?_)
                              obtain ⟨rfl, rfl⟩ := hp286
                              refine zgoto (tgt := 301) C dL_act_289 (by decide) ?_
                              exact J178_28 _ (by first | (simp only [aNum, h179, h200, h218, h236, h256, h276, reduceIte, Bool.false_eq_true]; done) | (simp only [aNum, h179, h200, h218, h236, h256, h276, reduceIte, Bool.false_eq_true]; rfl))
                          · refine ziload C dL_act_259 rfl ?_
                            refine zbipush (v := 6) C dL_act_261 (by decide) ?_
                            refine zishr C dL_act_263 ?_
                            refine zbipush (v := 101) C dL_act_264 (by decide) ?_
                            refine zcallS C (l_low _ _ (by decide)) hy_L_low hst_L_low hl_L_115 rfl rfl (by decide) (by decide) (by omega) (by omega) rfl (by exact Nat.le_of_ble_eq_true rfl) dL_act_266 (fun v266 M hp266 => ?_)
                            obtain ⟨rfl, rfl⟩ := hp266
                            refine zgoto (tgt := 301) C dL_act_269 (by decide) ?_
                            exact J178_28 _ (by first | (simp only [aNum, h179, h200, h218, h236, h256, reduceIte, Bool.false_eq_true]; done) | (simp only [aNum, h179, h200, h218, h236, h256, reduceIte, Bool.false_eq_true]; rfl))
                        · refine zconst (v := 1) C dL_act_239 (by decide) ?_
                          refine ziload C dL_act_240 rfl ?_
                          refine zbipush (v := 6) C dL_act_242 (by decide) ?_
                          refine zishr C dL_act_244 ?_
                          refine zconst (v := 4) C dL_act_245 (by decide) ?_
                          refine zcallS C (l_low _ _ (by decide)) hy_L_low hst_L_low hl_L_115 rfl rfl (by decide) (by decide) (by omega) (by omega) rfl (by exact Nat.le_of_ble_eq_true rfl) dL_act_246 (fun v246 M hp246 => ?_)
                          obtain ⟨rfl, rfl⟩ := hp246
                          refine ziadd C dL_act_249 ?_
                          refine zgoto (tgt := 301) C dL_act_250 (by decide) ?_
                          exact J178_28 _ (by first | (simp only [aNum, h179, h200, h218, h236, reduceIte, Bool.false_eq_true]; done) | (simp only [aNum, h179, h200, h218, h236, reduceIte, Bool.false_eq_true]; rfl))
                      · refine ziload C dL_act_221 rfl ?_
                        refine zbipush (v := 6) C dL_act_223 (by decide) ?_
                        refine zishr C dL_act_225 ?_
                        refine zconst (v := 4) C dL_act_226 (by decide) ?_
                        refine zcallS C (l_low _ _ (by decide)) hy_L_low hst_L_low hl_L_115 rfl rfl (by decide) (by decide) (by omega) (by omega) rfl (by exact Nat.le_of_ble_eq_true rfl) dL_act_227 (fun v227 M hp227 => ?_)
                        obtain ⟨rfl, rfl⟩ := hp227
                        refine zgoto (tgt := 301) C dL_act_230 (by decide) ?_
                        exact J178_28 _ (by first | (simp only [aNum, h179, h200, h218, reduceIte, Bool.false_eq_true]; done) | (simp only [aNum, h179, h200, h218, reduceIte, Bool.false_eq_true]; rfl))
                    · refine ziload C dL_act_203 rfl ?_
                      refine zbipush (v := 6) C dL_act_205 (by decide) ?_
                      refine zishr C dL_act_207 ?_
                      refine zconst (v := 3) C dL_act_208 (by decide) ?_
                      refine zcallS C (l_low _ _ (by decide)) hy_L_low hst_L_low hl_L_115 rfl rfl (by decide) (by decide) (by omega) (by omega) rfl (by exact Nat.le_of_ble_eq_true rfl) dL_act_209 (fun v209 M hp209 => ?_)
                      obtain ⟨rfl, rfl⟩ := hp209
                      refine zgoto (tgt := 301) C dL_act_212 (by decide) ?_
                      exact J178_28 _ (by first | (simp only [aNum, h179, h200, reduceIte, Bool.false_eq_true]; done) | (simp only [aNum, h179, h200, reduceIte, Bool.false_eq_true]; rfl))
                  · replace h179 := b2i_n0.mp h179
                    refine ziload C dL_act_182 rfl ?_
                    refine zbipush (v := 6) C dL_act_184 (by decide) ?_
                    refine zishr C dL_act_186 ?_
                    refine zsipush (v := 130) C dL_act_187 (by decide) ?_
                    refine zcallS C (l_low _ _ (by decide)) hy_L_low hst_L_low hl_L_115 rfl rfl (by decide) (by decide) (by omega) (by omega) rfl (by exact Nat.le_of_ble_eq_true rfl) dL_act_190 (fun v190 M hp190 => ?_)
                    obtain ⟨rfl, rfl⟩ := hp190
                    refine zconst (v := 2) C dL_act_193 (by decide) ?_
                    refine zisub C dL_act_194 ?_
                    refine zgoto (tgt := 301) C dL_act_195 (by decide) ?_
                    exact J178_28 _ (by first | (simp only [aNum, h179, reduceIte, Bool.false_eq_true]; done) | (simp only [aNum, h179, reduceIte, Bool.false_eq_true]; rfl))
                · subst hx178
                  refine zistore (L1 := [_, _, _, _, _, _, _, _, _, _, _]) C dL_act_301 rfl (Nat.le_of_ble_eq_true rfl) ?_
                  refine ziload_n C dL_act_303 rfl ?_
                  refine zconst (v := 5) C dL_act_304 (by decide) ?_
                  refine zicmp_ge (tgt := 323) C dL_act_305 (by decide) (fun h305 => ?_) (fun h305 => ?_)
                  · refine ziload_n C dL_act_323 rfl ?_
                    refine zbipush (v := 7) C dL_act_324 (by decide) ?_
                    refine zicmp_ge (tgt := 371) C dL_act_326 (by decide) (fun h326 => ?_) (fun h326 => ?_)
                    · refine zaload_n C dL_act_371 rfl ?_
                      refine zconst (v := 1) C dL_act_372 (by decide) ?_
                      refine ziload C dL_act_373 rfl ?_
                      refine zjn 389 (fun r => r = aOn v) (fun J375_30 => ?_) (fun x375 hx375 => ?_)
                      · refine ziload C dL_act_375 rfl ?_
                        refine zconst (v := 4) C dL_act_377 (by decide) ?_
                        refine zishr C dL_act_378 ?_
                        refine zconst (v := 3) C dL_act_379 (by decide) ?_
                        refine ziand C dL_act_380 ?_
                        refine zif_le (tgt := 388) C dL_act_381 (by decide) (fun h381 => ?_) (fun h381 => ?_)
                        · refine zconst (v := 0) C dL_act_388 (by decide) ?_
                          exact J375_30 _ (by first | (simp only [aOn, h381, reduceIte, Bool.false_eq_true]; done) | (simp only [aOn, h381, reduceIte, Bool.false_eq_true]; rfl))
                        · refine zconst (v := 1) C dL_act_384 (by decide) ?_
                          refine zgoto (tgt := 389) C dL_act_385 (by decide) ?_
                          exact J375_30 _ (by first | (simp only [aOn, h381, reduceIte, Bool.false_eq_true]; done) | (simp only [aOn, h381, reduceIte, Bool.false_eq_true]; rfl))
                      · subst hx375
                        refine zconst (v := 0) C dL_act_389 (by decide) ?_
                        refine zconst (v := 0) C dL_act_390 (by decide) ?_
                        have hmc1 : 100 ≤ mc := by have q := hmc; rw [actT, if_neg h146, if_pos h305, if_pos h326] at q; exact q
                        have hms1 : 6000 ≤ ms := by have q := hms; rw [actT, if_neg h146, if_pos h305, if_pos h326] at q; exact q
                        refine zcallSW (np := 6) C hN (z.call (does_1 _ _ _ _ z.into hok)) hcw_does zinL (by decide) (by decide +kernel) hl_L_118 rfl rfl (by decide) (by decide) (by omega) (by omega) rfl (by exact Nat.le_of_ble_eq_true rfl) dL_act_391 (fun r M1 hr => ?_)
                        exact zend_l C hE dL_act_394 (by omega) (by omega) (by rw [actT, if_neg h146, if_pos h305, if_pos h326]; exact hr)
                    · refine zaload_n C dL_act_329 rfl ?_
                      refine zconst (v := 3) C dL_act_330 (by decide) ?_
                      refine ziload C dL_act_331 rfl ?_
                      refine zjn 343 (fun r => r = aSix v) (fun J333_31 => ?_) (fun x333 hx333 => ?_)
                      · refine ziload_n C dL_act_333 rfl ?_
                        refine zif_eq (tgt := 342) C dL_act_334 (by decide) (fun h334 => ?_) (fun h334 => ?_)
                        · replace h334 := b2i_0.mp h334
                          refine zconst (v := 4) C dL_act_342 (by decide) ?_
                          exact J333_31 _ (by first | (simp only [aSix, h334, reduceIte, Bool.false_eq_true]; done) | (simp only [aSix, h334, reduceIte, Bool.false_eq_true]; rfl))
                        · replace h334 := b2i_n0.mp h334
                          refine zbipush (v := 6) C dL_act_337 (by decide) ?_
                          refine zgoto (tgt := 343) C dL_act_339 (by decide) ?_
                          exact J333_31 _ (by first | (simp only [aSix, h334, reduceIte, Bool.false_eq_true]; done) | (simp only [aSix, h334, reduceIte, Bool.false_eq_true]; rfl))
                      · subst hx333
                        refine zcallS C (l_low _ _ six_n) hy_L_low hst_L_low hl_L_115 rfl rfl (by decide) (by decide) (by omega) (by omega) rfl (by exact Nat.le_of_ble_eq_true rfl) dL_act_343 (fun v343 M hp343 => ?_)
                        obtain ⟨rfl, rfl⟩ := hp343
                        refine ziload C dL_act_346 rfl ?_
                        refine zconst (v := 3) C dL_act_348 (by decide) ?_
                        refine zishr C dL_act_349 ?_
                        refine zjn 360 (fun r => r = aSix v) (fun J350_32 => ?_) (fun x350 hx350 => ?_)
                        · refine ziload_n C dL_act_350 rfl ?_
                          refine zif_eq (tgt := 359) C dL_act_351 (by decide) (fun h351 => ?_) (fun h351 => ?_)
                          · replace h351 := b2i_0.mp h351
                            refine zconst (v := 4) C dL_act_359 (by decide) ?_
                            exact J350_32 _ (by first | (simp only [aSix, h351, reduceIte, Bool.false_eq_true]; done) | (simp only [aSix, h351, reduceIte, Bool.false_eq_true]; rfl))
                          · replace h351 := b2i_n0.mp h351
                            refine zbipush (v := 6) C dL_act_354 (by decide) ?_
                            refine zgoto (tgt := 360) C dL_act_356 (by decide) ?_
                            exact J350_32 _ (by first | (simp only [aSix, h351, reduceIte, Bool.false_eq_true]; done) | (simp only [aSix, h351, reduceIte, Bool.false_eq_true]; rfl))
                        · subst hx350
                          refine zcallS C (l_low _ _ six_n) hy_L_low hst_L_low hl_L_115 rfl rfl (by decide) (by decide) (by omega) (by omega) rfl (by exact Nat.le_of_ble_eq_true rfl) dL_act_360 (fun v360 M hp360 => ?_)
                          obtain ⟨rfl, rfl⟩ := hp360
                          refine zconst (v := 0) C dL_act_363 (by decide) ?_
                          refine zconst (v := 0) C dL_act_364 (by decide) ?_
                          have hmc1 : 100 ≤ mc := by have q := hmc; rw [actT, if_neg h146, if_pos h305, if_neg h326] at q; exact q
                          have hms1 : 6000 ≤ ms := by have q := hms; rw [actT, if_neg h146, if_pos h305, if_neg h326] at q; exact q
                          refine zcallSW (np := 6) C hN (z.call (does_3 _ _ _ _ z.into hok)) hcw_does zinL (by decide) (by decide +kernel) hl_L_118 rfl rfl (by decide) (by decide) (by omega) (by omega) rfl (by exact Nat.le_of_ble_eq_true rfl) dL_act_365 (fun r M1 hr => ?_)
                          refine zgoto (tgt := 394) C dL_act_368 (by decide) ?_
                          exact zend_l C hE dL_act_394 (by omega) (by omega) (by rw [actT, if_neg h146, if_pos h305, if_neg h326]; exact hr)
                  · refine zaload_n C dL_act_308 rfl ?_
                    refine zconst (v := 2) C dL_act_309 (by decide) ?_
                    refine ziload C dL_act_310 rfl ?_
                    refine ziload C dL_act_312 rfl ?_
                    refine ziload C dL_act_314 rfl ?_
                    refine zconst (v := 0) C dL_act_316 (by decide) ?_
                    have hmc1 : 100 ≤ mc := by have q := hmc; rw [actT, if_neg h146, if_neg h305] at q; exact q
                    have hms1 : 6000 ≤ ms := by have q := hms; rw [actT, if_neg h146, if_neg h305] at q; exact q
                    refine zcallSW (np := 6) C hN (z.call (does_2 _ _ _ _ z.into hok)) hcw_does zinL (by decide) (by decide +kernel) hl_L_118 rfl rfl (by decide) (by decide) (by omega) (by omega) rfl (by exact Nat.le_of_ble_eq_true rfl) dL_act_317 (fun r M1 hr => ?_)
                    refine zgoto (tgt := 394) C dL_act_320 (by decide) ?_
                    exact zend_l C hE dL_act_394 (by omega) (by omega) (by rw [actT, if_neg h146, if_neg h305]; exact hr)
