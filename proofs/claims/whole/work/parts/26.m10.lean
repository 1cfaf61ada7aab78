def pendL (r : Nat → Int32) : Nat → Nat
  | 0 => 0
  | k + 1 => pendL r k + (if r k = -1 then 0 else 1)
/-- what a person has taken and what all have still to turn are together no more than B -/
def iTB (S : zS) (B : Nat) : Prop := ∀ k, k < S.1 13 → ∃ t, S.2.2.1 20 k = nI (t + 1) ∧ t + pendL (S.2.2.1 23) (S.1 13) ≤ B
def dayS (A : zS) : zS := zsN A 1 (A.1 1 + 1)
def dayL (A : zS) : Nat → zS
  | 0 => A
  | k + 1 => if (dayL A k).2.2.1 23 k = nI ((dayL A k).1 1) then turnsS (dayL A k) k else dayL A k
def dayK (A : zS) : zS := dayL (dayS A) (A.1 13)
def passL (A : zS) : Nat → zS
  | 0 => A
  | k + 1 => dayK (passL A k)
def o_pass (S : zS) (k : Int32) : zS × Int32 :=
  if rng k 1 2000 = false then (th S 1, 0) else if ¬ (nI (S.1 1) + k ≤ 30000) then (th S 2, 0)
  else (passL (th S 0) k.toNatClampNeg, nI ((passL (th S 0) k.toNatClampNeg).1 1))
def pQ (S A : zS) (B d : Nat) : Prop := A.1 13 = S.1 13 ∧ A.1 1 = S.1 1 + d ∧ A.2.2.1 15 = S.2.2.1 15 ∧ A.2.2.1 16 = S.2.2.1 16 ∧ iTB A B
theorem pend_pos {r : Nat → Int32} : ∀ {n k : Nat}, k < n → ¬ r k = -1 → 0 < pendL r n
  | n + 1, k, hk, h => by
    unfold pendL
    by_cases e : k = n
    · subst e
      rw [if_neg h]
      omega
    · have := pend_pos (n := n) (by omega) h
      omega
theorem pend_out {r : Nat → Int32} {p : Nat} {v : Int32} : ∀ {n : Nat}, n ≤ p → pendL (upd r p v) n = pendL r n
  | 0, _ => rfl
  | n + 1, h => by
    unfold pendL
    rw [pend_out (by omega), show upd r p v n = r n from if_neg (by omega)]
theorem pend_upd {r : Nat → Int32} {p : Nat} : ∀ {n : Nat}, p < n → ¬ r p = -1 → pendL (upd r p (-1)) n + 1 = pendL r n
  | n + 1, h, hr => by
    unfold pendL
    by_cases e : p = n
    · subst e
      rw [pend_out (Nat.le_refl _), if_neg hr]
      simp [upd]
    · have := pend_upd (n := n) (by omega) hr
      rw [show upd r p (-1) n = r n from if_neg (by omega)]
      omega
theorem nIm1 {n : Nat} (h : n < 2 ^ 31) : ¬ nI n = -1 := fun e => by
  have h1 := congrArg Int32.toInt e
  rw [nI_toInt h, show (-1 : Int32).toInt = -1 from rfl] at h1
  omega
theorem turnL_20 (p : Nat) (its : Int32) (T : zS) (k : Nat) : ∀ i, (turnL p its T i).2.2.1 20 k = T.2.2.1 20 k ∨ (k ≠ p ∧ k < i ∧ (turnL p its T i).2.2.1 20 k = T.2.2.1 20 k + 1)
  | 0 => Or.inl rfl
  | i + 1 => by
    have g := turnK_f p its (turnL p its T i) i
    have g5 := (turnL_f p its T i).2.2.2.2
    by_cases e : k = i
    · subst e
      have h0 := g5 k (Nat.le_refl _)
      unfold turnL turnK
      split
      · rename_i hc
        refine Or.inr ⟨hc.1, by omega, ?_⟩
        rw [← h0]
        simp [takesS, zsA_g, upd]
      · exact Or.inl h0
    · have h1 : (turnL p its T (i + 1)).2.2.1 20 k = (turnL p its T i).2.2.1 20 k := g.2.2.2.2 k e
      rw [h1]
      rcases turnL_20 p its T k i with h | ⟨a, b, c⟩
      · exact Or.inl h
      · exact Or.inr ⟨a, by omega, c⟩
theorem turn1_20 {S : zS} {p t : Nat} {its : Int32} (h : S.2.2.1 20 p = nI (t + 1)) : ((turn1 S p t its).2.2.1 20 p = nI t ∧ 1 ≤ t) ∨ (turn1 S p t its).2.2.1 20 p = nI (t + 2) := by
  unfold turn1
  split
  · rename_i hu
    refine Or.inl ⟨by simp [zsA_g, upd], ?_⟩
    unfold undoB at hu
    simp only [Bool.and_eq_true, decide_eq_true_eq] at hu
    exact hu.1
  · refine Or.inr ?_
    simp only [takesS, zsA_g, upd]
    simp [h, nI_1]
    exact if_pos rfl
theorem pQ_D {S A : zS} {B d : Nat} (h : pQ S A B d) : pQ S (dayS A) B (d + 1) := ⟨h.1, by show A.1 1 + 1 = _; rw [h.2.1]; omega, h.2.2.1, h.2.2.2.1, h.2.2.2.2⟩
theorem pQ_T {S A : zS} {B d p : Nat} (h : pQ S A B d) (hp : p < S.1 13) (hB : B ≤ 1022) (hn : ¬ A.2.2.1 23 p = -1) : pQ S (turnsS A p) B d := by
  obtain ⟨a1, a2, a3, a4, a5⟩ := h
  obtain ⟨t, et, ht⟩ := a5 p (by omega)
  have hft : fT (staysS A p) p = t := fT_eq (by omega) et
  have e : turnsS A p = turnL p (A.2.2.1 22 p) (turn1 (staysS A p) p t (A.2.2.1 22 p)) (A.1 13) := by
    show turnL p (A.2.2.1 22 p) (turn1 (staysS A p) p (fT (staysS A p) p) (A.2.2.1 22 p)) (A.1 13) = _
    rw [hft]
  rw [e]
  obtain ⟨b1, b2, b3, b4, b5⟩ := turn1_f (staysS A p) p t (A.2.2.1 22 p)
  obtain ⟨c1, c2, c3, c4, c5⟩ := turnL_f p (A.2.2.1 22 p) (turn1 (staysS A p) p t (A.2.2.1 22 p)) (A.1 13)
  have e1 := c1.trans b1
  have s23 : (staysS A p).2.2.1 23 = upd (A.2.2.1 23) p (-1) := rfl
  have e13 : (turnL p (A.2.2.1 22 p) (turn1 (staysS A p) p t (A.2.2.1 22 p)) (A.1 13)).1 13 = A.1 13 := congrFun e1 13
  refine ⟨e13.trans a1, (congrFun e1 1).trans a2, ((c4 15 (by decide) (by decide) (by decide)).trans (b4 15 (by decide) (by decide))).trans a3, ((c4 16 (by decide) (by decide) (by decide)).trans (b4 16 (by decide) (by decide))).trans a4, ?_⟩
  intro k hk
  rw [e13] at hk ⊢
  rw [(c4 23 (by decide) (by decide) (by decide)).trans (b4 23 (by decide) (by decide)), s23]
  have hpu := pend_upd (n := A.1 13) (by omega) hn
  rcases turnL_20 p (A.2.2.1 22 p) (turn1 (staysS A p) p t (A.2.2.1 22 p)) k (A.1 13) with h1 | ⟨h0, _, h1⟩
  · rw [h1]
    by_cases ek : k = p
    · subst ek
      rcases turn1_20 (S := staysS A k) (its := A.2.2.1 22 k) et with ⟨h2, h3⟩ | h2
      · exact ⟨t - 1, by rw [h2, show t - 1 + 1 = t by omega], by omega⟩
      · exact ⟨t + 1, h2, by omega⟩
    · obtain ⟨u, eu, hu⟩ := a5 k hk
      exact ⟨u, (b5 k ek).trans eu, by omega⟩
  · rw [h1]
    obtain ⟨u, eu, hu⟩ := a5 k hk
    exact ⟨u + 1, by rw [b5 k h0, show (staysS A p).2.2.1 20 k = nI (u + 1) from eu, nI_1], by omega⟩
theorem pass_le {a b : Nat} (h : nI a + nI b ≤ 30000) (ha : a < 2 ^ 30) (hb : b < 2 ^ 30) : a + b ≤ 30000 := by
  rw [nI_add, show (30000 : Int32) = nI 30000 from rfl, nI_leI (by omega) (by decide)] at h
  exact h
set_option maxRecDepth 100000 in
set_option maxHeartbeats 1000000 in
theorem m_pass {g : zGh} {M0 : zM} {mo : Nat} {ad : Nat → Nat} {S : zS} (k : Int32) {B : Nat} (hi : iB S) (hB : B ≤ 1022) (hTB : iTB S B) (hpar : ∀ k, k < S.1 13 → iPar S k) : zMc g M0 mo ad yX8_pass cX8_pass 4 (some .int) 3 70 mkI [.int k] S (fun v S1 => (S1, v) = o_pass S k) := by
  intro M hR
  refine zof [some (.ref mo), some (.int k), none, none] (by decide +kernel) rfl rfl (Nat.le_of_ble_eq_true rfl) ?_
  intro X C hE hnm
  have C : zC g X RX8 cX8_pass 4 3 70 0 0 := C
  obtain ⟨hb1, hb2, hb4, hb9, hb13, hb25, hb33⟩ := id hi
  refine zaload_n C dX8_pass_0 rfl ?_
  refine ziload_n C dX8_pass_1 rfl ?_
  refine zconst (v := 1) C dX8_pass_2 (by decide) ?_
  refine zsipush (v := 2000) C dX8_pass_3 (by decide) ?_
  refine zcallS C (m_in k 1 2000) hy_X8_in hst_X8_in hl_X8_137 rfl rfl (by decide) (by decide) (by omega) (by omega) rfl (by exact Nat.le_of_ble_eq_true rfl) dX8_pass_6 (fun v6 M hp6 => ?_)
  obtain ⟨rfl, rfl⟩ := hp6
  refine zif_ne (tgt := 16) C dX8_pass_9 (by decide) (fun h9 => ?_) (fun h9 => ?_)
  · replace h9 := b2i_n0.mp h9
    obtain ⟨d, hd1, hd2, rfl⟩ := rng_nI (b := 1) (t := 2000) h9 (by omega) (by omega)
    have ed := nI_clamp (show d < 2 ^ 31 by omega)
    have esum : nI (S.1 1) + nI d = nI (S.1 1 + d) := nI_add _ _
    refine zaload_n C dX8_pass_16 rfl ?_
    refine zmgi C hR hf_X8_154 rfl dX8_pass_17 ?_
    refine ziload_n C dX8_pass_20 rfl ?_
    refine ziadd C dX8_pass_21 ?_
    refine zsipush (v := 30000) C dX8_pass_22 (by decide) ?_
    refine zicmp_le (tgt := 32) C dX8_pass_25 (by decide) (fun h25 => ?_) (fun h25 => ?_)
    · refine zconst (v := 0) C dX8_pass_32 (by decide) ?_
      refine zcallV C (m_holds 0 (by decide) M hR) hy_X8_holds hv_X8_holds hl_X8_157 hR.1 rfl rfl rfl rfl (by decide) (by decide) (by omega) (by omega) rfl (by exact Nat.le_of_ble_eq_true rfl) dX8_pass_33 (fun v33 M hp33 => ?_)
      obtain ⟨S1, ⟨rfl, hs⟩, hR⟩ := hp33
      rw [hs] at hR
      clear hs
      refine zif_ne_t (tgt := 41) C dX8_pass_36 (by decide) (by decide) ?_
      have hop : o_pass S (nI d) = (passL (th S 0) d, nI ((passL (th S 0) d).1 1)) := by unfold o_pass; rw [show rng (nI d) 1 2000 = true from h9, ed, if_neg (by simp), if_neg (by first | exact h25 | simpa using h25)]
      have h25n : S.1 1 + d ≤ 30000 := pass_le h25 (by omega) (by omega)
      have loop : ∀ (r j : Nat), j + r = d → ∀ M A, A = passL (th S 0) j → pQ S A B j → zR g M0 mo ad A M → zG g X M 0 0 43 [some (.ref mo), some (.int (nI d)), some (.int (nI j)), none] [] := by
        intro r
        induction r with
        | zero =>
          intro j hi M A eA hA hR
          refine ziload_n C dX8_pass_43 rfl ?_
          refine ziload_n C dX8_pass_44 rfl ?_
          refine zicmp_ge (tgt := 98) C dX8_pass_45 (by decide) (fun h45 => ?_) (fun h45 => by first | exact absurd (nI_le (by omega) (by omega)) h45 | exact absurd h45 (nI_le (by omega) (by omega)))
          refine zaload_n C dX8_pass_98 rfl ?_
          refine zmgi C hR hf_X8_154 rfl dX8_pass_99 ?_
          exact zend_i C hE dX8_pass_102 (by omega) (by omega) ⟨_, by rw [hop, show d = j by omega, ← eA], hR⟩
        | succ r ih =>
          intro j hi M A eA hA hR
          have hj1 : j < d := by omega
          have loopP : ∀ (r i : Nat), i + r = S.1 13 → ∀ M D, D = dayL (dayS A) i → pQ S D B (j + 1) → zR g M0 mo ad D M → zG g X M 0 0 60 [some (.ref mo), some (.int (nI d)), some (.int (nI j)), some (.int (nI i))] [] := by
            intro r
            induction r with
            | zero =>
              intro i hi M D eD hD hR
              refine ziload_n C dX8_pass_60 rfl ?_
              refine zaload_n C dX8_pass_61 rfl ?_
              refine zmgi C hR hf_X8_145 rfl dX8_pass_62 ?_
              rw [show D.1 13 = S.1 13 from hD.1]
              refine zicmp_ge (tgt := 92) C dX8_pass_65 (by decide) (fun h65 => ?_) (fun h65 => by first | exact absurd (nI_le (by omega) (by omega)) h65 | exact absurd h65 (nI_le (by omega) (by omega)))
              refine ziinc (L1 := [_, _, _, _]) (v := nI (j + 1)) C dX8_pass_92 rfl (nI_1 j) rfl ?_
              refine zgoto (tgt := 43) C dX8_pass_95 (by decide) ?_
              refine zfor [true, true, true, false] (L1 := [_, _, _, _]) rfl ?_
              exact ih (j + 1) (by omega) M D (by rw [eD, passL, dayK, ← eA, show i = A.1 13 by rw [hA.1]; omega]) hD hR
            | succ r ihp =>
              intro i hi M D eD hD hR
              have hi2 : i < S.1 13 := by omega
              obtain ⟨t, et, ht⟩ := hD.2.2.2.2 i (by rw [hD.1]; exact hi2)
              refine ziload_n C dX8_pass_60 rfl ?_
              refine zaload_n C dX8_pass_61 rfl ?_
              refine zmgi C hR hf_X8_145 rfl dX8_pass_62 ?_
              rw [show D.1 13 = S.1 13 from hD.1]
              refine zicmp_ge (tgt := 92) C dX8_pass_65 (by decide) (fun h65 => by first | exact absurd h65 (nI_ge (by omega) (by omega)) | exact absurd (nI_ge (by omega) (by omega)) h65) (fun h65 => ?_)
              refine zaload_n C dX8_pass_68 rfl ?_
              refine zmga C hR hf_X8_64 rfl dX8_pass_69 ?_
              refine ziload_n C dX8_pass_72 rfl ?_
              refine zmia C hR rfl rfl rfl (show _ < 40 from by omega) dX8_pass_73 ?_
              refine zaload_n C dX8_pass_74 rfl ?_
              refine zmgi C hR hf_X8_154 rfl dX8_pass_75 ?_
              refine zicmp_ne (tgt := 86) C dX8_pass_78 (by decide) (fun h78 => ?_) (fun h78 => ?_)
              · replace h78 : ¬ D.2.2.1 23 i = nI (D.1 1) := h78
                refine ziinc (L1 := [_, _, _, _]) (v := nI (i + 1)) C dX8_pass_86 rfl (nI_1 i) rfl ?_
                refine zgoto (tgt := 60) C dX8_pass_89 (by decide) ?_
                exact ihp (i + 1) (by omega) M D (by rw [dayL, ← eD, if_neg h78]) hD hR
              · replace h78 : D.2.2.1 23 i = nI (D.1 1) := h78
                have hn1 : ¬ D.2.2.1 23 i = -1 := by rw [h78, hD.2.1]; exact nIm1 (by omega)
                have hpd := pend_pos (n := D.1 13) (by rw [hD.1]; exact hi2) hn1
                refine zaload_n C dX8_pass_81 rfl ?_
                refine ziload_n C dX8_pass_82 rfl ?_
                refine zcallV C (m_turns (S := D) i t (by rw [hD.1]; exact hb13) (by rw [hD.1]; exact hi2) (by omega) et (fun k hk => by obtain ⟨u, eu, hu⟩ := hD.2.2.2.2 k hk; exact ⟨u, by omega, eu⟩) (fun k hk => by have := hpar k (by rw [← hD.1]; exact hk); unfold iPar parentOf at this ⊢; rw [hD.2.2.1, hD.2.2.2.1]; exact this) M hR) hy_X8_turns hv_X8_turns hl_X8_289 hR.1 rfl rfl rfl rfl (by decide) (by decide) (by omega) (by omega) rfl (by exact Nat.le_of_ble_eq_true rfl) dX8_pass_83 (fun v83 M hp83 => ?_)
                obtain ⟨S1, hs, hR⟩ := hp83
                rw [hs] at hR
                clear hs
                refine ziinc (L1 := [_, _, _, _]) (v := nI (i + 1)) C dX8_pass_86 rfl (nI_1 i) rfl ?_
                refine zgoto (tgt := 60) C dX8_pass_89 (by decide) ?_
                exact ihp (i + 1) (by omega) M (turnsS D i) (by rw [dayL, ← eD, if_pos h78]) (pQ_T hD (by omega) (by omega) hn1) hR
          refine ziload_n C dX8_pass_43 rfl ?_
          refine ziload_n C dX8_pass_44 rfl ?_
          refine zicmp_ge (tgt := 98) C dX8_pass_45 (by decide) (fun h45 => by first | exact absurd h45 (nI_ge (by omega) (by omega)) | exact absurd (nI_ge (by omega) (by omega)) h45) (fun h45 => ?_)
          refine zaload_n C dX8_pass_48 rfl ?_
          refine zdup C dX8_pass_49 rfl ?_
          refine zmgi C hR hf_X8_154 rfl dX8_pass_50 ?_
          refine zconst (v := 1) C dX8_pass_53 (by decide) ?_
          refine ziadd C dX8_pass_54 ?_
          refine zmpi (v := A.1 1 + 1) C hR hf_X8_154 rfl rfl rfl (nI_1 (A.1 1)) dX8_pass_55 (fun M hR => ?_)
          refine zconst (v := 0) C dX8_pass_58 (by decide) ?_
          refine zistore_n (L1 := [_, _, _, _]) C dX8_pass_59 rfl (Nat.le_of_ble_eq_true rfl) ?_
          exact zcg (loopP (S.1 13) 0 (by omega) M (dayS A) rfl (pQ_D hA) hR) (by simp [zk1, nI_0])
      refine zconst (v := 0) C dX8_pass_41 (by decide) ?_
      refine zistore_n (L1 := [_, _, _, _]) C dX8_pass_42 rfl (Nat.le_of_ble_eq_true rfl) ?_
      exact zcg (loop d 0 (by omega) M (th S 0) rfl ⟨rfl, rfl, rfl, rfl, hTB⟩ hR) (by simp [zk1, nI_0])
    · refine zconst (v := 2) C dX8_pass_28 (by decide) ?_
      refine zgoto (tgt := 33) C dX8_pass_29 (by decide) ?_
      refine zcallV C (m_holds 2 (by decide) M hR) hy_X8_holds hv_X8_holds hl_X8_157 hR.1 rfl rfl rfl rfl (by decide) (by decide) (by omega) (by omega) rfl (by exact Nat.le_of_ble_eq_true rfl) dX8_pass_33 (fun v33 M hp33 => ?_)
      obtain ⟨S1, ⟨rfl, hs⟩, hR⟩ := hp33
      rw [hs] at hR
      clear hs
      refine zif_ne_f (tgt := 41) C dX8_pass_36 (by decide) (by decide) ?_
      refine zconst (v := 0) C dX8_pass_39 (by decide) ?_
      exact zend_i C hE dX8_pass_40 (by omega) (by omega) ⟨_, by simp [o_pass, rng, zsA_g, zsN_g, zsN_2, zsA_1, zsA_c, zsA_l, zsL_g, zsL_1, zsL_c, zsL_a, zsN_N, h9, ed, h25], hR⟩
  · replace h9 := b2i_0.mp h9
    refine zconst (v := 1) C dX8_pass_12 (by decide) ?_
    refine zgoto (tgt := 33) C dX8_pass_13 (by decide) ?_
    refine zcallV C (m_holds 1 (by decide) M hR) hy_X8_holds hv_X8_holds hl_X8_157 hR.1 rfl rfl rfl rfl (by decide) (by decide) (by omega) (by omega) rfl (by exact Nat.le_of_ble_eq_true rfl) dX8_pass_33 (fun v33 M hp33 => ?_)
    obtain ⟨S1, ⟨rfl, hs⟩, hR⟩ := hp33
    rw [hs] at hR
    clear hs
    refine zif_ne_f (tgt := 41) C dX8_pass_36 (by decide) (by decide) ?_
    refine zconst (v := 0) C dX8_pass_39 (by decide) ?_
    exact zend_i C hE dX8_pass_40 (by omega) (by omega) ⟨_, by simp [o_pass, rng, zsA_g, zsN_g, zsN_2, zsA_1, zsA_c, zsA_l, zsL_g, zsL_1, zsL_c, zsL_a, zsN_N, h9], hR⟩
