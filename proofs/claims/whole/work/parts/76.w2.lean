/-! the law: what lies in the memory between two calls; one call on both sides -/
/-- the reference's object and rows, and the row 'out', at tags behind the class's -/
def X0 (g : zGh) (mad : Nat → Nat) (S : zS) (f : Nat → Int64) : zg → Option va_E := fun t =>
  if t = (14, 0) then some (zob 9 ((List.range 48).map (zfv S mad))) else if t.1 = 15 ∧ t.2 < 48 ∧ 2 ≤ (zkd t.2).1 then some (zme g S t.2) else if t = (16, 0) then some (zaj g 1 f) else none
def zLw (g : zGh) (mo : Nat) (mad : Nat → Nat) (o x : Nat) (K : zK) (S : zS) (f : Nat → Int64) (ad : zg → Nat) (M : zM) : Prop :=
  zP g K (X0 g mad S f) ad M ∧ ad (14, 0) = mo ∧ (∀ j, ad (15, j) = mad j) ∧ ad (16, 0) = o ∧ ad (0, 0) = x
theorem X0_mo {g : zGh} {mad : Nat → Nat} {S : zS} {f : Nat → Int64} : X0 g mad S f (14, 0) = some (zob 9 ((List.range 48).map (zfv S mad))) := rfl
theorem X0_row {g : zGh} {mad : Nat → Nat} {S : zS} {f : Nat → Int64} {j : Nat} (hj : j < 48) (hk : 2 ≤ (zkd j).1) : X0 g mad S f (15, j) = some (zme g S j) := by
  unfold X0
  rw [if_neg (by intro h; cases h), if_pos ⟨rfl, hj, hk⟩]
theorem X0_out {g : zGh} {mad : Nat → Nat} {S : zS} {f : Nat → Int64} : X0 g mad S f (16, 0) = some (zaj g 1 f) := rfl
theorem kva_ge {g : zGh} {K : zK} {ad : zg → Nat} {X : zg → Option va_E} {t : zg} (h : 14 ≤ t.1) : kva g K ad X t = X t := by
  obtain ⟨a, b⟩ := t
  match a, h with
  | a + 14, _ => rfl
theorem kva_lt {g : zGh} {K : zK} {ad : zg → Nat} {X Y : zg → Option va_E} {t : zg} (h : t.1 < 14) : kva g K ad X t = kva g K ad Y t := by
  obtain ⟨a, b⟩ := t
  match a, h with
  | 0, _ | 1, _ | 2, _ | 3, _ | 4, _ | 5, _ | 6, _ | 7, _ | 8, _ | 9, _ | 10, _ | 11, _ | 12, _ | 13, _ => rfl
section ZLW
variable {g : zGh} {mo : Nat} {mad : Nat → Nat} {o x : Nat} {K : zK} {S : zS} {f : Nat → Int64} {ad : zg → Nat} {M : zM}
theorem zLw.atmo (h : zLw g mo mad o x K S f ad M) : M mo = some (zob 9 ((List.range 48).map (zfv S mad))) := by
  rw [← h.2.1]
  exact zPic.at h.1 ((kva_ge (by decide)).trans X0_mo)
theorem zLw.atrow (h : zLw g mo mad o x K S f ad M) {j : Nat} (hj : j < 48) (hk : 2 ≤ (zkd j).1) : M (mad j) = some (zme g S j) := by
  rw [← h.2.2.1 j]
  exact zPic.at h.1 ((kva_ge (Nat.le_succ 14)).trans (X0_row hj hk))
theorem zLw.atout (h : zLw g mo mad o x K S f ad M) : M o = some (zaj g 1 f) := by
  rw [← h.2.2.2.1]
  exact zPic.at h.1 ((kva_ge (by decide)).trans X0_out)
theorem zLw.atx (h : zLw g mo mad o x K S f ad M) : M x = some (mainE ad K) := by
  rw [← h.2.2.2.2]
  exact h.1.main
theorem zLw.R (h : zLw g mo mad o x K S f ad M) : zR g M mo mad S M := by
  refine ⟨h.atmo, fun j hj hk => h.atrow hj hk, fun i j hi hj hki hkj e => ?_, fun _ _ _ => rfl⟩
  have := h.1.2 (15, i) (15, j) (by rw [kva_ge (Nat.le_succ 14), X0_row hi hki]; simp) (by rw [kva_ge (Nat.le_succ 14), X0_row hj hkj]; simp) (by rw [h.2.2.1, h.2.2.1]; exact e)
  exact (Prod.mk.inj this).2
/-- the reference has gone on: the class's things lie as they lay -/
theorem zLw.step (h : zLw g mo mad o x K S f ad M) {S1 : zS} {M1 : zM} (hR : zR g M mo mad S1 M1) : zLw g mo mad o x K S1 f ad M1 := by
  have hne : ∀ t, kva g K ad (X0 g mad S1 f) t ≠ none → kva g K ad (X0 g mad S f) t ≠ none := by
    intro t ht
    by_cases h14 : t.1 < 14
    · rwa [kva_lt (Y := X0 g mad S1 f) h14]
    · rw [kva_ge (by omega)] at ht ⊢
      unfold X0 at ht ⊢
      split
      · simp
      · rename_i h1
        rw [if_neg h1] at ht
        split
        · simp
        · rename_i h2
          rw [if_neg h2] at ht
          split
          · simp
          · rename_i h3
            rw [if_neg h3] at ht
            exact ht
  refine ⟨⟨fun t e ht => ?_, fun t u ht hu he => h.1.2 t u (hne t ht) (hne u hu) he⟩, h.2⟩
  by_cases e14 : t = (14, 0)
  · subst e14
    rw [kva_ge (by decide), X0_mo] at ht
    rw [h.2.1, ← ht]
    exact hR.1
  · by_cases e15 : t.1 = 15 ∧ t.2 < 48 ∧ 2 ≤ (zkd t.2).1
    · obtain ⟨a, j⟩ := t
      obtain ⟨rfl, hj, hk⟩ := e15
      rw [kva_ge (Nat.le_succ 14), X0_row hj hk] at ht
      rw [h.2.2.1, ← ht]
      exact hR.2.1 j hj hk
    · have h0 : kva g K ad (X0 g mad S f) t = some e := by
        by_cases h14 : t.1 < 14
        · rw [kva_lt (Y := X0 g mad S1 f) h14]; exact ht
        · rw [kva_ge (by omega)] at ht ⊢
          unfold X0 at ht ⊢
          rw [if_neg e14, if_neg e15] at ht ⊢
          exact ht
      rw [hR.2.2.2 (ad t) ?_ ?_]
      · exact h.1.1 t e h0
      · intro he
        exact e14 (h.1.2 t (14, 0) (by rw [h0]; simp) (by rw [kva_ge (by decide), X0_mo]; simp) (by rw [h.2.1]; exact he))
      · intro j hj hk he
        have := h.1.2 t (15, j) (by rw [h0]; simp) (by rw [kva_ge (Nat.le_succ 14), X0_row hj hk]; simp) (by rw [h.2.2.1]; exact he)
        subst this
        exact e15 ⟨rfl, hj, hk⟩
/-- something was put into 'out' -/
theorem zLw.put (h : zLw g mo mad o x K S f ad M) (f1 : Nat → Int64) : zLw g mo mad o x K S f1 ad (zup M o (zaj g 1 f1)) := by
  refine ⟨?_, h.2⟩
  rw [← h.2.2.2.1]
  refine zPic.put h.1 ((kva_ge (by decide)).trans X0_out) ((kva_ge (by decide)).trans X0_out) (fun u hu => ?_)
  by_cases h14 : u.1 < 14
  · exact kva_lt h14
  · rw [kva_ge (by omega), kva_ge (by omega)]
    unfold X0
    split
    · rfl
    · split
      · rfl
      · first | rw [if_neg hu, if_neg hu] | rfl
/-- a call of the reference -/
theorem zLw.call {α : Type} (h : zLw g mo mad o x K S f ad M) {y : MethodName} {cc : ByteArray} {maxL : Nat} {ret : Option FieldType} {fr lc : Nat} {mk : α → Option Value} {As : List Value} {P : α → zS → Prop} (hm : zMc g M mo mad y cc maxL ret fr lc mk As S P) : zCt g y cc maxL ret fr lc mk (.ref mo :: As) M 0 0 (fun v M1 => ∃ S1, P v S1 ∧ zLw g mo mad o x K S1 f ad M1) noX := by
  refine zCt.post (hm M h.R) (fun v M1 ⟨S1, hp, hR⟩ => ⟨S1, hp, h.step hR⟩)
end ZLW
theorem zCw.post {g : zGh} {y : MethodName} {cc : ByteArray} {maxL : Nat} {hh : List (Nat × Nat × Nat × Nat)} {fr lc mc ms : Nat} {As : List Value} {M : zM} {Post Post1 : Int32 → zM → Prop} (h : zCw g y cc maxL hh fr lc As M mc ms Post) (hp : ∀ v M1, Post v M1 → Post1 v M1) : zCw g y cc maxL hh fr lc As M mc ms Post1 := by
  intro p e ha hc hk s m args below hf happ hP hK
  obtain ⟨n, o, h1, h2, h3, h4⟩ := h p e ha hc hk s m args below hf happ hP hK
  refine ⟨n, o, h1, h2, h3, ?_⟩
  rcases h4 with ⟨⟨⟨v, M1, e1, e2, e3⟩, e4⟩, e5⟩ | ⟨q, e1, E, ce, L, ⟨M1, hx, e2⟩, e3⟩
  · exact Or.inl ⟨⟨⟨v, M1, e1, hp _ _ e2, e3⟩, e4⟩, e5⟩
  · exact hx.elim
theorem zCw.met {g : zGh} {y : MethodName} {cc : ByteArray} {maxL : Nat} {hh : List (Nat × Nat × Nat × Nat)} {fr lc mc ms : Nat} {As : List Value} {M : zM} {Post : Int32 → zM → Prop} (h : zCw g y cc maxL hh fr lc As M mc ms Post) : Met g.2.2.2.2 y (Cond.codeWith y cc maxL (some .int) hh :: GW) { frames := fr, cells := mc, slots := ms, locals := lc } (va_Pc As (zWN g M)) (zQ g mkI Post) mc ms (zA g) := by
  intro p e ha hc hk s m args below hf happ hP hK
  obtain ⟨n, o, h1, h2, h3, h4⟩ := h p e ha hc hk s m args below hf happ hP hK
  refine ⟨n, o, h1, h2, h3, ?_⟩
  rcases h4 with h4 | ⟨q, -, E, ce, L, ⟨M1, hx, -⟩, -⟩
  · exact h4
  · exact hx.elim
section ZCL2
variable {g : zGh} {X : zX} {own : String} {cc : ByteArray} {nL fr lc mc ms : Nat} {M : zM} {k n pc : Nat} {L : List (Option Value)} {st rest As : List Value}
variable {y : MethodName} {cc1 : ByteArray} {maxL1 fr1 lc1 mc1 ms1 np idx : Nat} {hh : List (Nat × Nat × Nat × Nat)}
theorem zcallSW {Post : Int32 → zM → Prop} (C : zC g X own cc nL fr lc mc ms) (hN : zNc X.1.2.2.2) (hM : zCw g y cc1 maxL1 hh fr1 lc1 As M mc1 ms1 Post) (hy : Cond.codeWith y cc1 maxL1 (some .int) hh ∈ GW ∧ Cond.static y ∈ GW) (hi : Cond.initialized y.cls ∈ GW) (hd0 : y.cls ≠ "java/lang/invoke/MethodHandle" ∧ y.cls ≠ "java/lang/invoke/VarHandle") (hnp : (parseMethodDescriptor y.desc).map (fun d => d.parameters.length) = some np) (hl : Cond.methodLink own idx y ∈ GW) (hn : As.length = np) (hL : L.length = nL)
    (hfr : fr1 + 1 ≤ fr) (hlc : 8 + (maxL1 + 11) + lc1 ≤ lc) (hmc : k + mc1 ≤ mc) (hms : n + ms1 ≤ ms) (hst : st = As.reverse ++ rest) (hcat : (rest.map fun v => v.category).sum ≤ 8) (hd : decode cc pc = .ok (.invokestatic idx, 3))
    (kk : ∀ (v : Int32) (M1 : zM), Post v M1 → zG g X M1 (k + mc1) (n + ms1) (pc + 3) L (.int v :: rest)) : zG g X M k n pc L st := by
  intro H locs ls hH hS hLs
  subst hst
  have hts := C.2.2.2.2.1
  have hin : ∀ w ∈ Cond.codeWith y cc1 maxL1 (some .int) hh :: GW, w ∈ GW := fun w hw => (List.mem_cons.mp hw).elim (fun e => by rw [e]; exact hy.1) id
  refine zafter (vx_runSW (As := As) (rest := rest) (Ts := GW) (n := np) ⟨C.1, C.2.1, C.2.2.1, C.2.2.2.1, C.2.2.2.2.1⟩ hM.met ⟨⟨rfl, rfl, by rw [C.2.2.2.2.2.2.2.2.1]; exact hfr, by rw [C.2.2.2.2.2.2.2.2.2.1]; exact hlc, fun w hw a' U hW => word_at hW (zGWg (hin w hw)) (hts w (hin w hw)), List.mem_cons_self⟩, hts _ hy.1, hts _ hi, hd0, fun sig h => by
    have h2 := hnp
    rw [h] at h2
    exact (Option.some.inj h2).symm, hts _ hl, hts _ hy.2⟩ ⟨zblindN, fun U hU hW => ?_⟩ rfl hn (hLs.1.trans hL) rfl (lv_room hcat) hd ⟨by rw [C.2.2.2.2.2.2.2.2.2.2.1]; exact hmc, by rw [C.2.2.2.2.2.2.2.2.2.2.2]; exact hms⟩) hS (fun v M1 H1 locs1 hp hH1 hS1 => kk v M1 hp H1 locs1 ls hH1 hS1 hLs)
  obtain ⟨h1, h2⟩ := zpc (As := As) C hH hS U hU hW
  exact ⟨h1, h2, hN.moved hW.alike⟩
/-- a word of the script -/
theorem zsldG (C : zC g X own cc nL fr lc mc ms) {b Ls i0 : Nat} {xs : Nat → Int32} {i : Int32} (hX : va_X b Ls xs X.1.2.2.2 X.1.2.2.2.heap) (hbl : b < X.1.2.2.2.heap.size) (hbA : ¬ zA g b) (hi : i = nI i0) (hlt : i0 < Ls) (hLs : Ls < 2 ^ 31) (hd : decode cc pc = .ok (.iaload, 1)) (kk : zG g X M k n (pc + 1) L (.int (xs i0) :: st)) : zG g X M k n pc L (.int i :: .ref b :: st) := by
  intro H locs ls hH hS hL
  subst hi
  refine va_sld C.1 C.2.1 hX hbl hbA hS (vp_in_nI hlt hLs) hd ?_
  rw [nI_clamp (Nat.lt_trans hlt hLs)]
  exact kk H locs ls hH hS hL
theorem zslenG (C : zC g X own cc nL fr lc mc ms) {b Ls : Nat} {xs : Nat → Int32} (hX : va_X b Ls xs X.1.2.2.2 X.1.2.2.2.heap) (hbl : b < X.1.2.2.2.heap.size) (hbA : ¬ zA g b) (hd : decode cc pc = .ok (.arraylength, 1)) (kk : zG g X M k n (pc + 1) L (.int (nI Ls) :: st)) : zG g X M k n pc L (.ref b :: st) := by
  intro H locs ls hH hS hL
  exact va_slen C.1 C.2.1 hX hbl hbA hS hd (kk H locs ls hH hS hL)
end ZCL2
abbrev cF (K : zK) : Nat := capF (kch K) (K.1 13)
/-- one call on both sides: T ties the two states after n calls -/
def lcal (T : Nat → zK → zS → Prop) (n : Nat) (K : zK) (x : Nat) (cds : List Nat) (K1 : zK) (S1 : zS) (eqv : Prop) : Prop :=
  (x = 0 → S1.1 0 = 0 ∧ eqv ∧ T (n + 1) K1 S1 ∧ cF K ≤ cF K1) ∧ (∀ j c, cds[j]? = some c → x = c → S1.1 0 = j + 1 ∧ T (n + 1) K S1)
/-- what must hold of the two states for the calls' contracts -/
def zOK (K : zK) (S : zS) : Prop :=
  (iK K ∧ iCk K ∧ (∀ j, ktl K j = none) ∧ kTB K 1000 ∧ (∀ s p, x_testify K s p = 0 → (kws K s.toNatClampNeg).1 < 40) ∧ cF K ≤ 163840) ∧
  (iB S ∧ iPs S ∧ (S.1 13 < 40 → S.2.2.1 20 (S.1 13) = 0) ∧ (∀ m, m < S.1 25 → iM S m) ∧ (∀ s, s < S.1 33 → iSu S s) ∧ (∀ p, p < S.1 13 → iT S p) ∧ iTB S 1022 ∧ ∀ k, k < S.1 13 → iPar S k)
/-- what holds at the head of the law's loop after n calls, with k cells and m slots used -/
def zLI (T : Nat → zK → zS → Prop) (g : zGh) (mo : Nat) (mad : Nat → Nat) (o x n : Nat) (M : zM) (k m : Nat) : Prop :=
  ∃ K S f ad, zLw g mo mad o x K S f ad M ∧ T n K S ∧ k ≤ 100 + 100 * n + cF K ∧ m ≤ 50000 + 6000 * n + 4 * cF K
/-- what a wrapper leaves -/
def zPst (g : zGh) (mo : Nat) (mad : Nat → Nat) (o x : Nat) (S : zS) (M : zM) (xx : Nat) (cds : List Nat) (K1 : zK) (ans : Int64) (w : Int32) (M2 : zM) : Prop :=
  (w = 0 ∧ xx = 0 ∧ ∃ f2 ad1, zLw g mo mad o x K1 S f2 ad1 M2 ∧ f2 0 = ans) ∨ (∃ j c, cds[j]? = some c ∧ j < 3 ∧ w = nI (j + 1) ∧ xx = c ∧ M2 = M)
theorem zini : Cond.initialized "MilletcourtLaw" ∈ GW := zGWin (List.mem_of_getElem? (i := 63) (by decide +kernel)) (by decide +kernel)
