/-! what 'does' does: exception, state behind, answer -/
def dX (K : zK) (n : Nat) (a b c d : Int32) : Nat :=
  match n with
  | 0 => x_community K
  | 1 => x_recognise K a
  | 2 => x_decree K a b c
  | 3 => x_rule K a b
  | 4 => x_law K a b c
  | 5 => x_court K a b c d
  | 6 => x_person K a b (c - 1)
  | 7 => x_turn K a b c d
  | 8 => x_recant K a
  | 9 => x_faith K a b
  | 10 => x_marry K a b c
  | 11 => x_divorce K a
  | 12 => x_goods K a b
  | 13 => x_dies K a
  | 14 => x_sue K a b c d
  | 15 => x_appear K a
  | 16 => x_testify K a b
  | 17 => x_judge K a
  | 18 => x_appeal K a
  | 19 => x_execute K a
  | 20 => x_wins K a b
  | 21 => x_of (K.1 13) 5 a b
  | 22 => x_of (K.1 25) 4 a b
  | 23 => x_of (K.1 33) 4 a b
  | _ => x_pass K a
def dK (K : zK) (n : Nat) (a b c d : Int32) : zK :=
  match n with
  | 0 => newC K (nI (K.1 1))
  | 1 => k_recognise K a (decide (b = 1))
  | 2 => k_decree K a b c
  | 3 => k_rule K a b
  | 4 => K
  | 5 => K
  | 6 => k_person K (decide (d = 1)) a b (c - 1)
  | 7 => k_turn K a b
  | 8 => k_recant K a
  | 9 => K
  | 10 => k_marry K a b c
  | 11 => k_divorce K a (decide (b = 1))
  | 12 => k_goods K a b
  | 13 => k_dies K a.toNatClampNeg
  | 14 => k_sue K a b c d
  | 15 => k_appear K a
  | 16 => k_testify K a b (decide (c = 1))
  | 17 => k_judge K a
  | 18 => k_appeal K a
  | 19 => k_execute K a.toNatClampNeg
  | 20 => K
  | 21 => K
  | 22 => K
  | 23 => K
  | _ => psK K a.toNatClampNeg
def eA (K : zK) (n : Nat) (a b c d : Int32) : Int32 :=
  match n with
  | 0 => nI (K.1 2)
  | 1 => b2i (a_recognise K a)
  | 2 => lawK K (lixN a) b.toNatClampNeg (nI (K.1 1))
  | 3 => chN (kch K a.toNatClampNeg)
  | 4 => a_law K a b c
  | 5 => a_court K a b c d
  | 6 => nI (K.1 13)
  | 7 => nI (K.1 1) + 30
  | 8 => (kpe K a.toNatClampNeg).2.2.2.2.2.2.1
  | 9 => a_faith K a b
  | 10 => nI (K.1 25)
  | _ => b2i (dvE K a.toNatClampNeg (decide (b = 1)))
def dA (K : zK) (n : Nat) (a b c d : Int32) : Int64 :=
  match n with
  | 0 => (nI (K.1 2)).toInt64
  | 1 => (b2i (a_recognise K a)).toInt64
  | 2 => (lawK K (lixN a) b.toNatClampNeg (nI (K.1 1))).toInt64
  | 3 => (chN (kch K a.toNatClampNeg)).toInt64
  | 4 => (a_law K a b c).toInt64
  | 5 => (a_court K a b c d).toInt64
  | 6 => (nI (K.1 13)).toInt64
  | 7 => (nI (K.1 1) + 30).toInt64
  | 8 => ((kpe K a.toNatClampNeg).2.2.2.2.2.2.1).toInt64
  | 9 => (a_faith K a b).toInt64
  | 10 => (nI (K.1 25)).toInt64
  | 11 => (b2i (dvE K a.toNatClampNeg (decide (b = 1)))).toInt64
  | 12 => (kpe K a.toNatClampNeg).2.2.2.2.2.1 + b.toInt64
  | 13 => a_dies K a.toNatClampNeg
  | 14 => (nI (K.1 33)).toInt64
  | 15 => (b2i (!(ksu K a.toNatClampNeg).2.2.2.2.2.1)).toInt64
  | 16 => (nI ((kws K a.toNatClampNeg).1 + 1)).toInt64
  | 17 => (b2i (a_judge K a)).toInt64
  | 18 => (b2i (wonK K a.toNatClampNeg 0)).toInt64
  | 19 => (exeA K a.toNatClampNeg).toInt64
  | 20 => (b2i (a_wins K a b)).toInt64
  | 21 => a_ofPerson K a b
  | 22 => (a_ofMarriage K a b).toInt64
  | 23 => (a_ofSuit K a b).toInt64
  | _ => (nI (K.1 1 + a.toNatClampNeg)).toInt64
def dR (K : zK) (n : Nat) (a b c d : Int32) : Int64 := if dX K n a b c d = 0 then dA K n a b c d else -2100000000
def dS (K : zK) (n : Nat) (a b c d : Int32) : zK := if dX K n a b c d = 0 then dK K n a b c d else K
def zOk (K : zK) : Prop := iK K ∧ iCk K ∧ (∀ j, ktl K j = none) ∧ kTB K 1000 ∧ (∀ s p, x_testify K s p = 0 → (kws K s.toNatClampNeg).1 < 40) ∧ cF K ≤ 163840
/-- the picture of K1, other addresses; what is not the class's lies where it lay -/
def dM (g : zGh) (K1 : zK) (X : zg → Option va_E) (ad : zg → Nat) (M1 : zM) : Prop := ∃ ad1, zP g K1 X ad1 M1 ∧ ∀ t : zg, (t.1 = 0 ∨ 14 ≤ t.1) → ad1 t = ad t
theorem dM.o {g : zGh} {K1 : zK} {X : zg → Option va_E} {ad ad1 : zg → Nat} {M1 : zM} (h : zP g K1 X ad1 M1) (h2 : ∀ t : zg, t.1 ≠ 4 → t.1 ≠ 5 → ad1 t = ad t) : dM g K1 X ad M1 := ⟨ad1, h, fun t ht => h2 t (by omega) (by omega)⟩
theorem dM.s {g : zGh} {K1 : zK} {X : zg → Option va_E} {ad : zg → Nat} {M1 : zM} (h : zP g K1 X ad M1) : dM g K1 X ad M1 := ⟨ad, h, fun _ _ => rfl⟩
/-- how many cells a call takes, how many slots -/
def dcC (K : zK) (n : Nat) (a : Int32) : Nat := if n = 4 ∨ n = 5 ∨ n = 9 ∨ (20 ≤ n ∧ n ≤ 23) then 8 else if n < 24 then 100 else if x_pass K a = 0 then 8 + (cF (psK K a.toNatClampNeg) - cF K) else 8
def dcS (K : zK) (n : Nat) (a : Int32) : Nat := if n = 4 ∨ n = 5 ∨ n = 9 ∨ (20 ≤ n ∧ n ≤ 23) then 48 else if n < 24 then 6000 else if x_pass K a = 0 then 48 + 4 * (cF (psK K a.toNatClampNeg) - cF K) else 48
theorem exI {E : String} {n : Nat} (h : thr E n) : ¬ n = 0 := by
  intro e
  rcases h with ⟨h, -⟩ | ⟨h, -⟩ | ⟨h, -⟩ <;> omega
theorem zinL : Cond.initialized "MilletcourtLaw" ∈ GW := zGWin (List.mem_of_getElem? (i := 26) (by decide +kernel)) (by decide +kernel)
abbrev hhD : List (Nat × Nat × Nat × Nat) := [(0, 237, 238, 67), (0, 237, 244, 71), (0, 237, 250, 73)]
theorem hcw_does : Cond.codeWith yL_does cL_does 7 (some .long) hhD ∈ GW ∧ Cond.static yL_does ∈ GW := ⟨zGWin (List.mem_of_getElem? (i := 514) (by decide +kernel)) (by decide +kernel), zGWin (List.mem_of_getElem? (i := 513) (by decide +kernel)) (by decide +kernel)⟩
set_option maxRecDepth 100000 in
theorem l_bit {g : zGh} {M : zM} (q : Bool) : zCt g yL_bit cL_bit 1 (some .int) 0 0 mkI [.int (b2i q)] M 0 0 (fun v M1 => v = b2i q ∧ M1 = M) noX := by
  refine zof [some (.int (b2i q))] (by decide +kernel) rfl rfl (Nat.le_of_ble_eq_true rfl) ?_
  intro X C hE hnm
  have C : zC g X RL cL_bit 1 0 0 0 0 := C
  refine ziload_n C dL_bit_0 rfl ?_
  refine zif_eq (tgt := 8) C dL_bit_1 (by decide) (fun h1 => ?_) (fun h1 => ?_)
  · refine zconst (v := 0) C dL_bit_8 (by decide) ?_
    exact zend_i C hE dL_bit_9 (by omega) (by omega) ⟨h1.symm, rfl⟩
  · refine zconst (v := 1) C dL_bit_4 (by decide) ?_
    refine zgoto (tgt := 9) C dL_bit_5 (by decide) ?_
    refine zend_i C hE dL_bit_9 (by omega) (by omega) ⟨?_, rfl⟩
    cases q
    · exact absurd rfl h1
    · rfl
def lowI (v n : Int32) : Int32 := (v &&& 2147483647) - (v &&& 2147483647) / n * n
set_option maxRecDepth 100000 in
theorem l_low {g : zGh} {M : zM} (v n : Int32) (hn : ¬ n = 0) : zCt g yL_low cL_low 2 (some .int) 0 0 mkI [.int v, .int n] M 0 0 (fun r M1 => r = lowI v n ∧ M1 = M) noX := by
  refine zof [some (.int v), some (.int n)] (by decide +kernel) rfl rfl (Nat.le_of_ble_eq_true rfl) ?_
  intro X C hE hnm
  have C : zC g X RL cL_low 2 0 0 0 0 := C
  refine ziload_n C dL_low_0 rfl ?_
  refine zldc C hk_L_7 dL_low_1 ?_
  refine ziand C dL_low_3 ?_
  refine ziload_n C dL_low_4 rfl ?_
  refine zirem C dL_low_5 hn ?_
  exact zend_i C hE dL_low_6 (by omega) (by omega) ⟨rfl, rfl⟩
set_option maxRecDepth 100000 in
set_option maxHeartbeats 1000000 in
theorem early_0 {g : zGh} {K : zK} {X0 : zg → Option va_E} {ad : zg → Nat} {M : zM} (a b c d : Int32) (hp : zP g K X0 ad M) (hok : zOk K) : zCt g yL_early cL_early 6 (some .int) 9 200 mkI [.ref (ad (0, 0)), .int 0, .int a, .int b, .int c, .int d] M 100 6000 (fun v M1 => dX K 0 a b c d = 0 ∧ v = eA K 0 a b c d ∧ dM g (dK K 0 a b c d) X0 ad M1) (fun E M1 => thr E (dX K 0 a b c d) ∧ M1 = M) := by
  refine zof [some (.ref (ad (0, 0))), some (.int 0), some (.int a), some (.int b), some (.int c), some (.int d)] (by decide +kernel) rfl rfl (Nat.le_of_ble_eq_true rfl) ?_
  intro X C hE hnm
  have C : zC g X RL cL_early 6 9 200 100 6000 := C
  refine ziload_n C dL_early_0 rfl ?_
  refine zif_ne_f (tgt := 11) C dL_early_1 (by decide) (by decide) ?_
  refine zaload_n C dL_early_4 rfl ?_
  refine zcallVX C (K_community hp hok.1 hok.2.2.1) hy_X7_community hv_X7_community hl_L_75 hp.main rfl rfl rfl rfl (by decide) (by decide) (by omega) (by omega) rfl (by exact Nat.le_of_ble_eq_true rfl) dL_early_5 (fun E M1 hx => ?_) (fun v M1 hv => ?_)
  · exact zout C hE (by omega) (by omega) hx
  · obtain ⟨hx0, rfl, ad1, hm, ha⟩ := hv
    replace hm : dM _ _ _ ad _ := ⟨ad1, hm, ha⟩
    refine zgoto (tgt := 214) C dL_early_8 (by decide) ?_
    exact zend_i C hE dL_early_214 (by omega) (by omega) ⟨hx0, rfl, hm⟩
set_option maxRecDepth 100000 in
set_option maxHeartbeats 1000000 in
theorem early_1 {g : zGh} {K : zK} {X0 : zg → Option va_E} {ad : zg → Nat} {M : zM} (a b c d : Int32) (hp : zP g K X0 ad M) (hok : zOk K) : zCt g yL_early cL_early 6 (some .int) 9 200 mkI [.ref (ad (0, 0)), .int 1, .int a, .int b, .int c, .int d] M 100 6000 (fun v M1 => dX K 1 a b c d = 0 ∧ v = eA K 1 a b c d ∧ dM g (dK K 1 a b c d) X0 ad M1) (fun E M1 => thr E (dX K 1 a b c d) ∧ M1 = M) := by
  refine zof [some (.ref (ad (0, 0))), some (.int 1), some (.int a), some (.int b), some (.int c), some (.int d)] (by decide +kernel) rfl rfl (Nat.le_of_ble_eq_true rfl) ?_
  intro X C hE hnm
  have C : zC g X RL cL_early 6 9 200 100 6000 := C
  refine ziload_n C dL_early_0 rfl ?_
  refine zif_ne_t (tgt := 11) C dL_early_1 (by decide) (by decide) ?_
  refine ziload_n C dL_early_11 rfl ?_
  refine zconst (v := 1) C dL_early_12 (by decide) ?_
  refine zicmp_ne (tgt := 37) C dL_early_13 (by decide) (fun h => by first | exact absurd h (by decide) | exact absurd (by decide) h) (fun _ => ?_)
  refine zaload_n C dL_early_16 rfl ?_
  refine ziload_n C dL_early_17 rfl ?_
  refine zjn 28 (fun x => x = b2i (decide (b = 1))) (fun jn => ?_) (fun x hx => ?_)
  · refine ziload_n C dL_early_18 rfl ?_
    refine zconst (v := 1) C dL_early_19 (by decide) ?_
    refine zicmp_ne (tgt := 27) C dL_early_20 (by decide) (fun hq => ?_) (fun hq => ?_)
    · refine zconst (v := 0) C dL_early_27 (by decide) ?_
      exact jn _ (by rw [decide_eq_false hq]; rfl)
    · refine zconst (v := 1) C dL_early_23 (by decide) ?_
      refine zgoto (tgt := 28) C dL_early_24 (by decide) ?_
      exact jn _ (by first | (rw [decide_eq_true hq]; rfl) | (rw [decide_eq_true (Classical.not_not.mp hq)]; rfl))
  · subst hx
    refine zcallVX C (K_recognise a (decide (b = 1)) hp hok.1 hok.2.1) hy_X7_recognise hv_X7_recognise hl_L_79 hp.main rfl rfl rfl rfl (by decide) (by decide) (by omega) (by omega) rfl (by exact Nat.le_of_ble_eq_true rfl) dL_early_28 (fun E M1 hx => ?_) (fun v M1 hv => ?_)
    · exact zout C hE (by omega) (by omega) hx
    · obtain ⟨hx0, rfl, ad1, hm, ha⟩ := hv
      replace hm := dM.o hm ha
      refine zcallS C (l_bit _) hy_L_bit hst_L_bit hl_L_32 rfl rfl (by decide) (by decide) (by omega) (by omega) rfl (by exact Nat.le_of_ble_eq_true rfl) dL_early_31 (fun vb M hb => ?_)
      obtain ⟨rfl, rfl⟩ := hb
      refine zgoto (tgt := 214) C dL_early_34 (by decide) ?_
      exact zend_i C hE dL_early_214 (by omega) (by omega) ⟨hx0, rfl, hm⟩
set_option maxRecDepth 100000 in
set_option maxHeartbeats 1000000 in
theorem early_2 {g : zGh} {K : zK} {X0 : zg → Option va_E} {ad : zg → Nat} {M : zM} (a b c d : Int32) (hp : zP g K X0 ad M) (hok : zOk K) : zCt g yL_early cL_early 6 (some .int) 9 200 mkI [.ref (ad (0, 0)), .int 2, .int a, .int b, .int c, .int d] M 100 6000 (fun v M1 => dX K 2 a b c d = 0 ∧ v = eA K 2 a b c d ∧ dM g (dK K 2 a b c d) X0 ad M1) (fun E M1 => thr E (dX K 2 a b c d) ∧ M1 = M) := by
  refine zof [some (.ref (ad (0, 0))), some (.int 2), some (.int a), some (.int b), some (.int c), some (.int d)] (by decide +kernel) rfl rfl (Nat.le_of_ble_eq_true rfl) ?_
  intro X C hE hnm
  have C : zC g X RL cL_early 6 9 200 100 6000 := C
  refine ziload_n C dL_early_0 rfl ?_
  refine zif_ne_t (tgt := 11) C dL_early_1 (by decide) (by decide) ?_
  refine ziload_n C dL_early_11 rfl ?_
  refine zconst (v := 1) C dL_early_12 (by decide) ?_
  refine zicmp_ne (tgt := 37) C dL_early_13 (by decide) (fun _ => ?_) (fun h => by first | exact absurd (by decide) h | exact absurd h (by decide))
  refine ziload_n C dL_early_37 rfl ?_
  refine zconst (v := 2) C dL_early_38 (by decide) ?_
  refine zicmp_ne (tgt := 53) C dL_early_39 (by decide) (fun h => by first | exact absurd h (by decide) | exact absurd (by decide) h) (fun _ => ?_)
  refine zaload_n C dL_early_42 rfl ?_
  refine ziload_n C dL_early_43 rfl ?_
  refine ziload_n C dL_early_44 rfl ?_
  refine ziload C dL_early_45 rfl ?_
  refine zcallVX C (K_decree a b c hp hok.1 hok.2.1) hy_X7_decree hv_X7_decree hl_L_83 hp.main rfl rfl rfl rfl (by decide) (by decide) (by omega) (by omega) rfl (by exact Nat.le_of_ble_eq_true rfl) dL_early_47 (fun E M1 hx => ?_) (fun v M1 hv => ?_)
  · exact zout C hE (by omega) (by omega) hx
  · obtain ⟨hx0, rfl, ad1, hm, ha⟩ := hv
    replace hm := dM.o hm ha
    refine zgoto (tgt := 214) C dL_early_50 (by decide) ?_
    exact zend_i C hE dL_early_214 (by omega) (by omega) ⟨hx0, rfl, hm⟩
set_option maxRecDepth 100000 in
set_option maxHeartbeats 1000000 in
theorem early_3 {g : zGh} {K : zK} {X0 : zg → Option va_E} {ad : zg → Nat} {M : zM} (a b c d : Int32) (hp : zP g K X0 ad M) (hok : zOk K) : zCt g yL_early cL_early 6 (some .int) 9 200 mkI [.ref (ad (0, 0)), .int 3, .int a, .int b, .int c, .int d] M 100 6000 (fun v M1 => dX K 3 a b c d = 0 ∧ v = eA K 3 a b c d ∧ dM g (dK K 3 a b c d) X0 ad M1) (fun E M1 => thr E (dX K 3 a b c d) ∧ M1 = M) := by
  refine zof [some (.ref (ad (0, 0))), some (.int 3), some (.int a), some (.int b), some (.int c), some (.int d)] (by decide +kernel) rfl rfl (Nat.le_of_ble_eq_true rfl) ?_
  intro X C hE hnm
  have C : zC g X RL cL_early 6 9 200 100 6000 := C
  refine ziload_n C dL_early_0 rfl ?_
  refine zif_ne_t (tgt := 11) C dL_early_1 (by decide) (by decide) ?_
  refine ziload_n C dL_early_11 rfl ?_
  refine zconst (v := 1) C dL_early_12 (by decide) ?_
  refine zicmp_ne (tgt := 37) C dL_early_13 (by decide) (fun _ => ?_) (fun h => by first | exact absurd (by decide) h | exact absurd h (by decide))
  refine ziload_n C dL_early_37 rfl ?_
  refine zconst (v := 2) C dL_early_38 (by decide) ?_
  refine zicmp_ne (tgt := 53) C dL_early_39 (by decide) (fun _ => ?_) (fun h => by first | exact absurd (by decide) h | exact absurd h (by decide))
  refine ziload_n C dL_early_53 rfl ?_
  refine zconst (v := 3) C dL_early_54 (by decide) ?_
  refine zicmp_ne (tgt := 67) C dL_early_55 (by decide) (fun h => by first | exact absurd h (by decide) | exact absurd (by decide) h) (fun _ => ?_)
  refine zaload_n C dL_early_58 rfl ?_
  refine ziload_n C dL_early_59 rfl ?_
  refine ziload_n C dL_early_60 rfl ?_
  refine zcallVX C (K_rule a b hp hok.1 hok.2.1) hy_X7_rule hv_X7_rule hl_L_87 hp.main rfl rfl rfl rfl (by decide) (by decide) (by omega) (by omega) rfl (by exact Nat.le_of_ble_eq_true rfl) dL_early_61 (fun E M1 hx => ?_) (fun v M1 hv => ?_)
  · exact zout C hE (by omega) (by omega) hx
  · obtain ⟨hx0, rfl, ad1, hm, ha⟩ := hv
    replace hm := dM.o hm ha
    refine zgoto (tgt := 214) C dL_early_64 (by decide) ?_
    exact zend_i C hE dL_early_214 (by omega) (by omega) ⟨hx0, rfl, hm⟩
set_option maxRecDepth 100000 in
set_option maxHeartbeats 1000000 in
theorem early_4 {g : zGh} {K : zK} {X0 : zg → Option va_E} {ad : zg → Nat} {M : zM} (a b c d : Int32) (hp : zP g K X0 ad M) (hok : zOk K) : zCt g yL_early cL_early 6 (some .int) 9 200 mkI [.ref (ad (0, 0)), .int 4, .int a, .int b, .int c, .int d] M 8 48 (fun v M1 => dX K 4 a b c d = 0 ∧ v = eA K 4 a b c d ∧ M1 = M) (fun E M1 => thr E (dX K 4 a b c d) ∧ M1 = M) := by
  refine zof [some (.ref (ad (0, 0))), some (.int 4), some (.int a), some (.int b), some (.int c), some (.int d)] (by decide +kernel) rfl rfl (Nat.le_of_ble_eq_true rfl) ?_
  intro X C hE hnm
  have C : zC g X RL cL_early 6 9 200 8 48 := C
  refine ziload_n C dL_early_0 rfl ?_
  refine zif_ne_t (tgt := 11) C dL_early_1 (by decide) (by decide) ?_
  refine ziload_n C dL_early_11 rfl ?_
  refine zconst (v := 1) C dL_early_12 (by decide) ?_
  refine zicmp_ne (tgt := 37) C dL_early_13 (by decide) (fun _ => ?_) (fun h => by first | exact absurd (by decide) h | exact absurd h (by decide))
  refine ziload_n C dL_early_37 rfl ?_
  refine zconst (v := 2) C dL_early_38 (by decide) ?_
  refine zicmp_ne (tgt := 53) C dL_early_39 (by decide) (fun _ => ?_) (fun h => by first | exact absurd (by decide) h | exact absurd h (by decide))
  refine ziload_n C dL_early_53 rfl ?_
  refine zconst (v := 3) C dL_early_54 (by decide) ?_
  refine zicmp_ne (tgt := 67) C dL_early_55 (by decide) (fun _ => ?_) (fun h => by first | exact absurd (by decide) h | exact absurd h (by decide))
  refine ziload_n C dL_early_67 rfl ?_
  refine zconst (v := 4) C dL_early_68 (by decide) ?_
  refine zicmp_ne (tgt := 83) C dL_early_69 (by decide) (fun h => by first | exact absurd h (by decide) | exact absurd (by decide) h) (fun _ => ?_)
  refine zaload_n C dL_early_72 rfl ?_
  refine ziload_n C dL_early_73 rfl ?_
  refine ziload_n C dL_early_74 rfl ?_
  refine ziload C dL_early_75 rfl ?_
  refine zcallVX C (K_law a b c hp hok.1) hy_X7_law hv_X7_law hl_L_90 hp.main rfl rfl rfl rfl (by decide) (by decide) (by omega) (by omega) rfl (by exact Nat.le_of_ble_eq_true rfl) dL_early_77 (fun E M1 hx => ?_) (fun v M1 hv => ?_)
  · exact zout C hE (by omega) (by omega) hx
  · obtain ⟨hx0, rfl, hm⟩ := hv
    refine zgoto (tgt := 214) C dL_early_80 (by decide) ?_
    exact zend_i C hE dL_early_214 (by omega) (by omega) ⟨hx0, rfl, hm⟩
set_option maxRecDepth 100000 in
set_option maxHeartbeats 1000000 in
theorem early_5 {g : zGh} {K : zK} {X0 : zg → Option va_E} {ad : zg → Nat} {M : zM} (a b c d : Int32) (hp : zP g K X0 ad M) (hok : zOk K) : zCt g yL_early cL_early 6 (some .int) 9 200 mkI [.ref (ad (0, 0)), .int 5, .int a, .int b, .int c, .int d] M 8 48 (fun v M1 => dX K 5 a b c d = 0 ∧ v = eA K 5 a b c d ∧ M1 = M) (fun E M1 => thr E (dX K 5 a b c d) ∧ M1 = M) := by
  refine zof [some (.ref (ad (0, 0))), some (.int 5), some (.int a), some (.int b), some (.int c), some (.int d)] (by decide +kernel) rfl rfl (Nat.le_of_ble_eq_true rfl) ?_
  intro X C hE hnm
  have C : zC g X RL cL_early 6 9 200 8 48 := C
  refine ziload_n C dL_early_0 rfl ?_
  refine zif_ne_t (tgt := 11) C dL_early_1 (by decide) (by decide) ?_
  refine ziload_n C dL_early_11 rfl ?_
  refine zconst (v := 1) C dL_early_12 (by decide) ?_
  refine zicmp_ne (tgt := 37) C dL_early_13 (by decide) (fun _ => ?_) (fun h => by first | exact absurd (by decide) h | exact absurd h (by decide))
  refine ziload_n C dL_early_37 rfl ?_
  refine zconst (v := 2) C dL_early_38 (by decide) ?_
  refine zicmp_ne (tgt := 53) C dL_early_39 (by decide) (fun _ => ?_) (fun h => by first | exact absurd (by decide) h | exact absurd h (by decide))
  refine ziload_n C dL_early_53 rfl ?_
  refine zconst (v := 3) C dL_early_54 (by decide) ?_
  refine zicmp_ne (tgt := 67) C dL_early_55 (by decide) (fun _ => ?_) (fun h => by first | exact absurd (by decide) h | exact absurd h (by decide))
  refine ziload_n C dL_early_67 rfl ?_
  refine zconst (v := 4) C dL_early_68 (by decide) ?_
  refine zicmp_ne (tgt := 83) C dL_early_69 (by decide) (fun _ => ?_) (fun h => by first | exact absurd (by decide) h | exact absurd h (by decide))
  refine ziload_n C dL_early_83 rfl ?_
  refine zconst (v := 5) C dL_early_84 (by decide) ?_
  refine zicmp_ne (tgt := 101) C dL_early_85 (by decide) (fun h => by first | exact absurd h (by decide) | exact absurd (by decide) h) (fun _ => ?_)
  refine zaload_n C dL_early_88 rfl ?_
  refine ziload_n C dL_early_89 rfl ?_
  refine ziload_n C dL_early_90 rfl ?_
  refine ziload C dL_early_91 rfl ?_
  refine ziload C dL_early_93 rfl ?_
  refine zcallVX C (K_court a b c d hp hok.1) hy_X7_court hv_X7_court hl_L_93 hp.main rfl rfl rfl rfl (by decide) (by decide) (by omega) (by omega) rfl (by exact Nat.le_of_ble_eq_true rfl) dL_early_95 (fun E M1 hx => ?_) (fun v M1 hv => ?_)
  · exact zout C hE (by omega) (by omega) hx
  · obtain ⟨hx0, rfl, hm⟩ := hv
    refine zgoto (tgt := 214) C dL_early_98 (by decide) ?_
    exact zend_i C hE dL_early_214 (by omega) (by omega) ⟨hx0, rfl, hm⟩
set_option maxRecDepth 100000 in
set_option maxHeartbeats 1000000 in
theorem early_6 {g : zGh} {K : zK} {X0 : zg → Option va_E} {ad : zg → Nat} {M : zM} (a b c d : Int32) (hp : zP g K X0 ad M) (hok : zOk K) : zCt g yL_early cL_early 6 (some .int) 9 200 mkI [.ref (ad (0, 0)), .int 6, .int a, .int b, .int c, .int d] M 100 6000 (fun v M1 => dX K 6 a b c d = 0 ∧ v = eA K 6 a b c d ∧ dM g (dK K 6 a b c d) X0 ad M1) (fun E M1 => thr E (dX K 6 a b c d) ∧ M1 = M) := by
  refine zof [some (.ref (ad (0, 0))), some (.int 6), some (.int a), some (.int b), some (.int c), some (.int d)] (by decide +kernel) rfl rfl (Nat.le_of_ble_eq_true rfl) ?_
  intro X C hE hnm
  have C : zC g X RL cL_early 6 9 200 100 6000 := C
  refine ziload_n C dL_early_0 rfl ?_
  refine zif_ne_t (tgt := 11) C dL_early_1 (by decide) (by decide) ?_
  refine ziload_n C dL_early_11 rfl ?_
  refine zconst (v := 1) C dL_early_12 (by decide) ?_
  refine zicmp_ne (tgt := 37) C dL_early_13 (by decide) (fun _ => ?_) (fun h => by first | exact absurd (by decide) h | exact absurd h (by decide))
  refine ziload_n C dL_early_37 rfl ?_
  refine zconst (v := 2) C dL_early_38 (by decide) ?_
  refine zicmp_ne (tgt := 53) C dL_early_39 (by decide) (fun _ => ?_) (fun h => by first | exact absurd (by decide) h | exact absurd h (by decide))
  refine ziload_n C dL_early_53 rfl ?_
  refine zconst (v := 3) C dL_early_54 (by decide) ?_
  refine zicmp_ne (tgt := 67) C dL_early_55 (by decide) (fun _ => ?_) (fun h => by first | exact absurd (by decide) h | exact absurd h (by decide))
  refine ziload_n C dL_early_67 rfl ?_
  refine zconst (v := 4) C dL_early_68 (by decide) ?_
  refine zicmp_ne (tgt := 83) C dL_early_69 (by decide) (fun _ => ?_) (fun h => by first | exact absurd (by decide) h | exact absurd h (by decide))
  refine ziload_n C dL_early_83 rfl ?_
  refine zconst (v := 5) C dL_early_84 (by decide) ?_
  refine zicmp_ne (tgt := 101) C dL_early_85 (by decide) (fun _ => ?_) (fun h => by first | exact absurd (by decide) h | exact absurd h (by decide))
  refine ziload_n C dL_early_101 rfl ?_
  refine zbipush (v := 6) C dL_early_102 (by decide) ?_
  refine zicmp_ne (tgt := 131) C dL_early_104 (by decide) (fun h => by first | exact absurd h (by decide) | exact absurd (by decide) h) (fun _ => ?_)
  refine zaload_n C dL_early_107 rfl ?_
  refine zjn 119 (fun x => x = b2i (decide (d = 1))) (fun jn => ?_) (fun x hx => ?_)
  · refine ziload C dL_early_108 rfl ?_
    refine zconst (v := 1) C dL_early_110 (by decide) ?_
    refine zicmp_ne (tgt := 118) C dL_early_111 (by decide) (fun hq => ?_) (fun hq => ?_)
    · refine zconst (v := 0) C dL_early_118 (by decide) ?_
      exact jn _ (by rw [decide_eq_false hq]; rfl)
    · refine zconst (v := 1) C dL_early_114 (by decide) ?_
      refine zgoto (tgt := 119) C dL_early_115 (by decide) ?_
      exact jn _ (by first | (rw [decide_eq_true hq]; rfl) | (rw [decide_eq_true (Classical.not_not.mp hq)]; rfl))
  · subst hx
    refine ziload_n C dL_early_119 rfl ?_
    refine ziload_n C dL_early_120 rfl ?_
    refine ziload C dL_early_121 rfl ?_
    refine zconst (v := 1) C dL_early_123 (by decide) ?_
    refine zisub C dL_early_124 ?_
    refine zcallVX C (K_person (decide (d = 1)) a b (c - 1) hp hok.1 hok.2.2.1) hy_X7_person hv_X7_person hl_L_96 hp.main rfl rfl rfl rfl (by decide) (by decide) (by omega) (by omega) rfl (by exact Nat.le_of_ble_eq_true rfl) dL_early_125 (fun E M1 hx => ?_) (fun v M1 hv => ?_)
    · exact zout C hE (by omega) (by omega) hx
    · obtain ⟨hx0, rfl, ad1, hm, ha⟩ := hv
      replace hm : dM _ _ _ ad _ := ⟨ad1, hm, ha⟩
      refine zgoto (tgt := 214) C dL_early_128 (by decide) ?_
      exact zend_i C hE dL_early_214 (by omega) (by omega) ⟨hx0, rfl, hm⟩
set_option maxRecDepth 100000 in
set_option maxHeartbeats 1000000 in
theorem early_7 {g : zGh} {K : zK} {X0 : zg → Option va_E} {ad : zg → Nat} {M : zM} (a b c d : Int32) (hp : zP g K X0 ad M) (hok : zOk K) : zCt g yL_early cL_early 6 (some .int) 9 200 mkI [.ref (ad (0, 0)), .int 7, .int a, .int b, .int c, .int d] M 100 6000 (fun v M1 => dX K 7 a b c d = 0 ∧ v = eA K 7 a b c d ∧ dM g (dK K 7 a b c d) X0 ad M1) (fun E M1 => thr E (dX K 7 a b c d) ∧ M1 = M) := by
  refine zof [some (.ref (ad (0, 0))), some (.int 7), some (.int a), some (.int b), some (.int c), some (.int d)] (by decide +kernel) rfl rfl (Nat.le_of_ble_eq_true rfl) ?_
  intro X C hE hnm
  have C : zC g X RL cL_early 6 9 200 100 6000 := C
  refine ziload_n C dL_early_0 rfl ?_
  refine zif_ne_t (tgt := 11) C dL_early_1 (by decide) (by decide) ?_
  refine ziload_n C dL_early_11 rfl ?_
  refine zconst (v := 1) C dL_early_12 (by decide) ?_
  refine zicmp_ne (tgt := 37) C dL_early_13 (by decide) (fun _ => ?_) (fun h => by first | exact absurd (by decide) h | exact absurd h (by decide))
  refine ziload_n C dL_early_37 rfl ?_
  refine zconst (v := 2) C dL_early_38 (by decide) ?_
  refine zicmp_ne (tgt := 53) C dL_early_39 (by decide) (fun _ => ?_) (fun h => by first | exact absurd (by decide) h | exact absurd h (by decide))
  refine ziload_n C dL_early_53 rfl ?_
  refine zconst (v := 3) C dL_early_54 (by decide) ?_
  refine zicmp_ne (tgt := 67) C dL_early_55 (by decide) (fun _ => ?_) (fun h => by first | exact absurd (by decide) h | exact absurd h (by decide))
  refine ziload_n C dL_early_67 rfl ?_
  refine zconst (v := 4) C dL_early_68 (by decide) ?_
  refine zicmp_ne (tgt := 83) C dL_early_69 (by decide) (fun _ => ?_) (fun h => by first | exact absurd (by decide) h | exact absurd h (by decide))
  refine ziload_n C dL_early_83 rfl ?_
  refine zconst (v := 5) C dL_early_84 (by decide) ?_
  refine zicmp_ne (tgt := 101) C dL_early_85 (by decide) (fun _ => ?_) (fun h => by first | exact absurd (by decide) h | exact absurd h (by decide))
  refine ziload_n C dL_early_101 rfl ?_
  refine zbipush (v := 6) C dL_early_102 (by decide) ?_
  refine zicmp_ne (tgt := 131) C dL_early_104 (by decide) (fun _ => ?_) (fun h => by first | exact absurd (by decide) h | exact absurd h (by decide))
  refine ziload_n C dL_early_131 rfl ?_
  refine zbipush (v := 7) C dL_early_132 (by decide) ?_
  refine zicmp_ne (tgt := 150) C dL_early_134 (by decide) (fun h => by first | exact absurd h (by decide) | exact absurd (by decide) h) (fun _ => ?_)
  refine zaload_n C dL_early_137 rfl ?_
  refine ziload_n C dL_early_138 rfl ?_
  refine ziload_n C dL_early_139 rfl ?_
  refine ziload C dL_early_140 rfl ?_
  refine ziload C dL_early_142 rfl ?_
  refine zcallVX C (K_turn a b c d hp hok.1) hy_X7_turn hv_X7_turn hl_L_100 hp.main rfl rfl rfl rfl (by decide) (by decide) (by omega) (by omega) rfl (by exact Nat.le_of_ble_eq_true rfl) dL_early_144 (fun E M1 hx => ?_) (fun v M1 hv => ?_)
  · exact zout C hE (by omega) (by omega) hx
  · obtain ⟨hx0, rfl, hm⟩ := hv
    replace hm := dM.s hm
    refine zgoto (tgt := 214) C dL_early_147 (by decide) ?_
    exact zend_i C hE dL_early_214 (by omega) (by omega) ⟨hx0, rfl, hm⟩
set_option maxRecDepth 100000 in
set_option maxHeartbeats 1000000 in
theorem early_8 {g : zGh} {K : zK} {X0 : zg → Option va_E} {ad : zg → Nat} {M : zM} (a b c d : Int32) (hp : zP g K X0 ad M) (hok : zOk K) : zCt g yL_early cL_early 6 (some .int) 9 200 mkI [.ref (ad (0, 0)), .int 8, .int a, .int b, .int c, .int d] M 100 6000 (fun v M1 => dX K 8 a b c d = 0 ∧ v = eA K 8 a b c d ∧ dM g (dK K 8 a b c d) X0 ad M1) (fun E M1 => thr E (dX K 8 a b c d) ∧ M1 = M) := by
  refine zof [some (.ref (ad (0, 0))), some (.int 8), some (.int a), some (.int b), some (.int c), some (.int d)] (by decide +kernel) rfl rfl (Nat.le_of_ble_eq_true rfl) ?_
  intro X C hE hnm
  have C : zC g X RL cL_early 6 9 200 100 6000 := C
  refine ziload_n C dL_early_0 rfl ?_
  refine zif_ne_t (tgt := 11) C dL_early_1 (by decide) (by decide) ?_
  refine ziload_n C dL_early_11 rfl ?_
  refine zconst (v := 1) C dL_early_12 (by decide) ?_
  refine zicmp_ne (tgt := 37) C dL_early_13 (by decide) (fun _ => ?_) (fun h => by first | exact absurd (by decide) h | exact absurd h (by decide))
  refine ziload_n C dL_early_37 rfl ?_
  refine zconst (v := 2) C dL_early_38 (by decide) ?_
  refine zicmp_ne (tgt := 53) C dL_early_39 (by decide) (fun _ => ?_) (fun h => by first | exact absurd (by decide) h | exact absurd h (by decide))
  refine ziload_n C dL_early_53 rfl ?_
  refine zconst (v := 3) C dL_early_54 (by decide) ?_
  refine zicmp_ne (tgt := 67) C dL_early_55 (by decide) (fun _ => ?_) (fun h => by first | exact absurd (by decide) h | exact absurd h (by decide))
  refine ziload_n C dL_early_67 rfl ?_
  refine zconst (v := 4) C dL_early_68 (by decide) ?_
  refine zicmp_ne (tgt := 83) C dL_early_69 (by decide) (fun _ => ?_) (fun h => by first | exact absurd (by decide) h | exact absurd h (by decide))
  refine ziload_n C dL_early_83 rfl ?_
  refine zconst (v := 5) C dL_early_84 (by decide) ?_
  refine zicmp_ne (tgt := 101) C dL_early_85 (by decide) (fun _ => ?_) (fun h => by first | exact absurd (by decide) h | exact absurd h (by decide))
  refine ziload_n C dL_early_101 rfl ?_
  refine zbipush (v := 6) C dL_early_102 (by decide) ?_
  refine zicmp_ne (tgt := 131) C dL_early_104 (by decide) (fun _ => ?_) (fun h => by first | exact absurd (by decide) h | exact absurd h (by decide))
  refine ziload_n C dL_early_131 rfl ?_
  refine zbipush (v := 7) C dL_early_132 (by decide) ?_
  refine zicmp_ne (tgt := 150) C dL_early_134 (by decide) (fun _ => ?_) (fun h => by first | exact absurd (by decide) h | exact absurd h (by decide))
  refine ziload_n C dL_early_150 rfl ?_
  refine zbipush (v := 8) C dL_early_151 (by decide) ?_
  refine zicmp_ne (tgt := 164) C dL_early_153 (by decide) (fun h => by first | exact absurd h (by decide) | exact absurd (by decide) h) (fun _ => ?_)
  refine zaload_n C dL_early_156 rfl ?_
  refine ziload_n C dL_early_157 rfl ?_
  refine zcallVX C (K_recant a hp hok.1) hy_X7_recant hv_X7_recant hl_L_103 hp.main rfl rfl rfl rfl (by decide) (by decide) (by omega) (by omega) rfl (by exact Nat.le_of_ble_eq_true rfl) dL_early_158 (fun E M1 hx => ?_) (fun v M1 hv => ?_)
  · exact zout C hE (by omega) (by omega) hx
  · obtain ⟨hx0, rfl, hm⟩ := hv
    replace hm := dM.s hm
    refine zgoto (tgt := 214) C dL_early_161 (by decide) ?_
    exact zend_i C hE dL_early_214 (by omega) (by omega) ⟨hx0, rfl, hm⟩
set_option maxRecDepth 100000 in
set_option maxHeartbeats 1000000 in
theorem early_9 {g : zGh} {K : zK} {X0 : zg → Option va_E} {ad : zg → Nat} {M : zM} (a b c d : Int32) (hp : zP g K X0 ad M) (hok : zOk K) : zCt g yL_early cL_early 6 (some .int) 9 200 mkI [.ref (ad (0, 0)), .int 9, .int a, .int b, .int c, .int d] M 8 48 (fun v M1 => dX K 9 a b c d = 0 ∧ v = eA K 9 a b c d ∧ M1 = M) (fun E M1 => thr E (dX K 9 a b c d) ∧ M1 = M) := by
  refine zof [some (.ref (ad (0, 0))), some (.int 9), some (.int a), some (.int b), some (.int c), some (.int d)] (by decide +kernel) rfl rfl (Nat.le_of_ble_eq_true rfl) ?_
  intro X C hE hnm
  have C : zC g X RL cL_early 6 9 200 8 48 := C
  refine ziload_n C dL_early_0 rfl ?_
  refine zif_ne_t (tgt := 11) C dL_early_1 (by decide) (by decide) ?_
  refine ziload_n C dL_early_11 rfl ?_
  refine zconst (v := 1) C dL_early_12 (by decide) ?_
  refine zicmp_ne (tgt := 37) C dL_early_13 (by decide) (fun _ => ?_) (fun h => by first | exact absurd (by decide) h | exact absurd h (by decide))
  refine ziload_n C dL_early_37 rfl ?_
  refine zconst (v := 2) C dL_early_38 (by decide) ?_
  refine zicmp_ne (tgt := 53) C dL_early_39 (by decide) (fun _ => ?_) (fun h => by first | exact absurd (by decide) h | exact absurd h (by decide))
  refine ziload_n C dL_early_53 rfl ?_
  refine zconst (v := 3) C dL_early_54 (by decide) ?_
  refine zicmp_ne (tgt := 67) C dL_early_55 (by decide) (fun _ => ?_) (fun h => by first | exact absurd (by decide) h | exact absurd h (by decide))
  refine ziload_n C dL_early_67 rfl ?_
  refine zconst (v := 4) C dL_early_68 (by decide) ?_
  refine zicmp_ne (tgt := 83) C dL_early_69 (by decide) (fun _ => ?_) (fun h => by first | exact absurd (by decide) h | exact absurd h (by decide))
  refine ziload_n C dL_early_83 rfl ?_
  refine zconst (v := 5) C dL_early_84 (by decide) ?_
  refine zicmp_ne (tgt := 101) C dL_early_85 (by decide) (fun _ => ?_) (fun h => by first | exact absurd (by decide) h | exact absurd h (by decide))
  refine ziload_n C dL_early_101 rfl ?_
  refine zbipush (v := 6) C dL_early_102 (by decide) ?_
  refine zicmp_ne (tgt := 131) C dL_early_104 (by decide) (fun _ => ?_) (fun h => by first | exact absurd (by decide) h | exact absurd h (by decide))
  refine ziload_n C dL_early_131 rfl ?_
  refine zbipush (v := 7) C dL_early_132 (by decide) ?_
  refine zicmp_ne (tgt := 150) C dL_early_134 (by decide) (fun _ => ?_) (fun h => by first | exact absurd (by decide) h | exact absurd h (by decide))
  refine ziload_n C dL_early_150 rfl ?_
  refine zbipush (v := 8) C dL_early_151 (by decide) ?_
  refine zicmp_ne (tgt := 164) C dL_early_153 (by decide) (fun _ => ?_) (fun h => by first | exact absurd (by decide) h | exact absurd h (by decide))
  refine ziload_n C dL_early_164 rfl ?_
  refine zbipush (v := 9) C dL_early_165 (by decide) ?_
  refine zicmp_ne (tgt := 179) C dL_early_167 (by decide) (fun h => by first | exact absurd h (by decide) | exact absurd (by decide) h) (fun _ => ?_)
  refine zaload_n C dL_early_170 rfl ?_
  refine ziload_n C dL_early_171 rfl ?_
  refine ziload_n C dL_early_172 rfl ?_
  refine zcallVX C (K_faith a b hp hok.1) hy_X7_faith hv_X7_faith hl_L_106 hp.main rfl rfl rfl rfl (by decide) (by decide) (by omega) (by omega) rfl (by exact Nat.le_of_ble_eq_true rfl) dL_early_173 (fun E M1 hx => ?_) (fun v M1 hv => ?_)
  · exact zout C hE (by omega) (by omega) hx
  · obtain ⟨hx0, rfl, hm⟩ := hv
    refine zgoto (tgt := 214) C dL_early_176 (by decide) ?_
    exact zend_i C hE dL_early_214 (by omega) (by omega) ⟨hx0, rfl, hm⟩
set_option maxRecDepth 100000 in
set_option maxHeartbeats 1000000 in
theorem early_10 {g : zGh} {K : zK} {X0 : zg → Option va_E} {ad : zg → Nat} {M : zM} (a b c d : Int32) (hp : zP g K X0 ad M) (hok : zOk K) : zCt g yL_early cL_early 6 (some .int) 9 200 mkI [.ref (ad (0, 0)), .int 10, .int a, .int b, .int c, .int d] M 100 6000 (fun v M1 => dX K 10 a b c d = 0 ∧ v = eA K 10 a b c d ∧ dM g (dK K 10 a b c d) X0 ad M1) (fun E M1 => thr E (dX K 10 a b c d) ∧ M1 = M) := by
  refine zof [some (.ref (ad (0, 0))), some (.int 10), some (.int a), some (.int b), some (.int c), some (.int d)] (by decide +kernel) rfl rfl (Nat.le_of_ble_eq_true rfl) ?_
  intro X C hE hnm
  have C : zC g X RL cL_early 6 9 200 100 6000 := C
  refine ziload_n C dL_early_0 rfl ?_
  refine zif_ne_t (tgt := 11) C dL_early_1 (by decide) (by decide) ?_
  refine ziload_n C dL_early_11 rfl ?_
  refine zconst (v := 1) C dL_early_12 (by decide) ?_
  refine zicmp_ne (tgt := 37) C dL_early_13 (by decide) (fun _ => ?_) (fun h => by first | exact absurd (by decide) h | exact absurd h (by decide))
  refine ziload_n C dL_early_37 rfl ?_
  refine zconst (v := 2) C dL_early_38 (by decide) ?_
  refine zicmp_ne (tgt := 53) C dL_early_39 (by decide) (fun _ => ?_) (fun h => by first | exact absurd (by decide) h | exact absurd h (by decide))
  refine ziload_n C dL_early_53 rfl ?_
  refine zconst (v := 3) C dL_early_54 (by decide) ?_
  refine zicmp_ne (tgt := 67) C dL_early_55 (by decide) (fun _ => ?_) (fun h => by first | exact absurd (by decide) h | exact absurd h (by decide))
  refine ziload_n C dL_early_67 rfl ?_
  refine zconst (v := 4) C dL_early_68 (by decide) ?_
  refine zicmp_ne (tgt := 83) C dL_early_69 (by decide) (fun _ => ?_) (fun h => by first | exact absurd (by decide) h | exact absurd h (by decide))
  refine ziload_n C dL_early_83 rfl ?_
  refine zconst (v := 5) C dL_early_84 (by decide) ?_
  refine zicmp_ne (tgt := 101) C dL_early_85 (by decide) (fun _ => ?_) (fun h => by first | exact absurd (by decide) h | exact absurd h (by decide))
  refine ziload_n C dL_early_101 rfl ?_
  refine zbipush (v := 6) C dL_early_102 (by decide) ?_
  refine zicmp_ne (tgt := 131) C dL_early_104 (by decide) (fun _ => ?_) (fun h => by first | exact absurd (by decide) h | exact absurd h (by decide))
  refine ziload_n C dL_early_131 rfl ?_
  refine zbipush (v := 7) C dL_early_132 (by decide) ?_
  refine zicmp_ne (tgt := 150) C dL_early_134 (by decide) (fun _ => ?_) (fun h => by first | exact absurd (by decide) h | exact absurd h (by decide))
  refine ziload_n C dL_early_150 rfl ?_
  refine zbipush (v := 8) C dL_early_151 (by decide) ?_
  refine zicmp_ne (tgt := 164) C dL_early_153 (by decide) (fun _ => ?_) (fun h => by first | exact absurd (by decide) h | exact absurd h (by decide))
  refine ziload_n C dL_early_164 rfl ?_
  refine zbipush (v := 9) C dL_early_165 (by decide) ?_
  refine zicmp_ne (tgt := 179) C dL_early_167 (by decide) (fun _ => ?_) (fun h => by first | exact absurd (by decide) h | exact absurd h (by decide))
  refine ziload_n C dL_early_179 rfl ?_
  refine zbipush (v := 10) C dL_early_180 (by decide) ?_
  refine zicmp_ne (tgt := 196) C dL_early_182 (by decide) (fun h => by first | exact absurd h (by decide) | exact absurd (by decide) h) (fun _ => ?_)
  refine zaload_n C dL_early_185 rfl ?_
  refine ziload_n C dL_early_186 rfl ?_
  refine ziload_n C dL_early_187 rfl ?_
  refine ziload C dL_early_188 rfl ?_
  refine zcallVX C (K_marry a b c hp hok.1 hok.2.2.1) hy_X7_marry hv_X7_marry hl_L_109 hp.main rfl rfl rfl rfl (by decide) (by decide) (by omega) (by omega) rfl (by exact Nat.le_of_ble_eq_true rfl) dL_early_190 (fun E M1 hx => ?_) (fun v M1 hv => ?_)
  · exact zout C hE (by omega) (by omega) hx
  · obtain ⟨hx0, rfl, ad1, hm, ha⟩ := hv
    replace hm : dM _ _ _ ad _ := ⟨ad1, hm, ha⟩
    refine zgoto (tgt := 214) C dL_early_193 (by decide) ?_
    exact zend_i C hE dL_early_214 (by omega) (by omega) ⟨hx0, rfl, hm⟩
set_option maxRecDepth 100000 in
set_option maxHeartbeats 1000000 in
theorem early_11 {g : zGh} {K : zK} {X0 : zg → Option va_E} {ad : zg → Nat} {M : zM} (a b c d : Int32) (hp : zP g K X0 ad M) (hok : zOk K) : zCt g yL_early cL_early 6 (some .int) 9 200 mkI [.ref (ad (0, 0)), .int 11, .int a, .int b, .int c, .int d] M 100 6000 (fun v M1 => dX K 11 a b c d = 0 ∧ v = eA K 11 a b c d ∧ dM g (dK K 11 a b c d) X0 ad M1) (fun E M1 => thr E (dX K 11 a b c d) ∧ M1 = M) := by
  refine zof [some (.ref (ad (0, 0))), some (.int 11), some (.int a), some (.int b), some (.int c), some (.int d)] (by decide +kernel) rfl rfl (Nat.le_of_ble_eq_true rfl) ?_
  intro X C hE hnm
  have C : zC g X RL cL_early 6 9 200 100 6000 := C
  refine ziload_n C dL_early_0 rfl ?_
  refine zif_ne_t (tgt := 11) C dL_early_1 (by decide) (by decide) ?_
  refine ziload_n C dL_early_11 rfl ?_
  refine zconst (v := 1) C dL_early_12 (by decide) ?_
  refine zicmp_ne (tgt := 37) C dL_early_13 (by decide) (fun _ => ?_) (fun h => by first | exact absurd (by decide) h | exact absurd h (by decide))
  refine ziload_n C dL_early_37 rfl ?_
  refine zconst (v := 2) C dL_early_38 (by decide) ?_
  refine zicmp_ne (tgt := 53) C dL_early_39 (by decide) (fun _ => ?_) (fun h => by first | exact absurd (by decide) h | exact absurd h (by decide))
  refine ziload_n C dL_early_53 rfl ?_
  refine zconst (v := 3) C dL_early_54 (by decide) ?_
  refine zicmp_ne (tgt := 67) C dL_early_55 (by decide) (fun _ => ?_) (fun h => by first | exact absurd (by decide) h | exact absurd h (by decide))
  refine ziload_n C dL_early_67 rfl ?_
  refine zconst (v := 4) C dL_early_68 (by decide) ?_
  refine zicmp_ne (tgt := 83) C dL_early_69 (by decide) (fun _ => ?_) (fun h => by first | exact absurd (by decide) h | exact absurd h (by decide))
  refine ziload_n C dL_early_83 rfl ?_
  refine zconst (v := 5) C dL_early_84 (by decide) ?_
  refine zicmp_ne (tgt := 101) C dL_early_85 (by decide) (fun _ => ?_) (fun h => by first | exact absurd (by decide) h | exact absurd h (by decide))
  refine ziload_n C dL_early_101 rfl ?_
  refine zbipush (v := 6) C dL_early_102 (by decide) ?_
  refine zicmp_ne (tgt := 131) C dL_early_104 (by decide) (fun _ => ?_) (fun h => by first | exact absurd (by decide) h | exact absurd h (by decide))
  refine ziload_n C dL_early_131 rfl ?_
  refine zbipush (v := 7) C dL_early_132 (by decide) ?_
  refine zicmp_ne (tgt := 150) C dL_early_134 (by decide) (fun _ => ?_) (fun h => by first | exact absurd (by decide) h | exact absurd h (by decide))
  refine ziload_n C dL_early_150 rfl ?_
  refine zbipush (v := 8) C dL_early_151 (by decide) ?_
  refine zicmp_ne (tgt := 164) C dL_early_153 (by decide) (fun _ => ?_) (fun h => by first | exact absurd (by decide) h | exact absurd h (by decide))
  refine ziload_n C dL_early_164 rfl ?_
  refine zbipush (v := 9) C dL_early_165 (by decide) ?_
  refine zicmp_ne (tgt := 179) C dL_early_167 (by decide) (fun _ => ?_) (fun h => by first | exact absurd (by decide) h | exact absurd h (by decide))
  refine ziload_n C dL_early_179 rfl ?_
  refine zbipush (v := 10) C dL_early_180 (by decide) ?_
  refine zicmp_ne (tgt := 196) C dL_early_182 (by decide) (fun _ => ?_) (fun h => by first | exact absurd (by decide) h | exact absurd h (by decide))
  refine zaload_n C dL_early_196 rfl ?_
  refine ziload_n C dL_early_197 rfl ?_
  refine zjn 208 (fun x => x = b2i (decide (b = 1))) (fun jn => ?_) (fun x hx => ?_)
  · refine ziload_n C dL_early_198 rfl ?_
    refine zconst (v := 1) C dL_early_199 (by decide) ?_
    refine zicmp_ne (tgt := 207) C dL_early_200 (by decide) (fun hq => ?_) (fun hq => ?_)
    · refine zconst (v := 0) C dL_early_207 (by decide) ?_
      exact jn _ (by rw [decide_eq_false hq]; rfl)
    · refine zconst (v := 1) C dL_early_203 (by decide) ?_
      refine zgoto (tgt := 208) C dL_early_204 (by decide) ?_
      exact jn _ (by first | (rw [decide_eq_true hq]; rfl) | (rw [decide_eq_true (Classical.not_not.mp hq)]; rfl))
  · subst hx
    refine zcallVX C (K_divorce a (decide (b = 1)) hp hok.1) hy_X7_divorce hv_X7_divorce hl_L_112 hp.main rfl rfl rfl rfl (by decide) (by decide) (by omega) (by omega) rfl (by exact Nat.le_of_ble_eq_true rfl) dL_early_208 (fun E M1 hx => ?_) (fun v M1 hv => ?_)
    · exact zout C hE (by omega) (by omega) hx
    · obtain ⟨hx0, rfl, hm⟩ := hv
      replace hm := dM.s hm
      refine zcallS C (l_bit _) hy_L_bit hst_L_bit hl_L_32 rfl rfl (by decide) (by decide) (by omega) (by omega) rfl (by exact Nat.le_of_ble_eq_true rfl) dL_early_211 (fun vb M hb => ?_)
      obtain ⟨rfl, rfl⟩ := hb
      exact zend_i C hE dL_early_214 (by omega) (by omega) ⟨hx0, rfl, hm⟩
set_option maxRecDepth 100000 in
set_option maxHeartbeats 1000000 in
theorem K_passX {g : zGh} {K : zK} {X : zg → Option va_E} {ad : zg → Nat} {M : zM} (d : Int32) (hp : zP g K X ad M) (hi : iK K) (hx0 : ¬ x_pass K d = 0) : zCt g yX7_pass cX7_pass 3 (some .int) 7 153 mkI [.ref (ad (0, 0)), .int d] M 8 48 (fun v M1 => False) (fun E M1 => thr E (x_pass K d) ∧ M1 = M) := by
  refine zof [some (.ref (ad (0, 0))), some (.int d), none] (by decide +kernel) rfl rfl (Nat.le_of_ble_eq_true rfl) ?_
  intro Z C hE hnm
  have C : zC g Z RX7 cX7_pass 3 7 153 8 48 := C
  obtain ⟨⟨hb1, h2, h4, h9, h13, h25, h33⟩, ⟨hch, hf⟩, ⟨hma, hsu, hpa⟩, hwp, hwi, hsc⟩ := hi
  have hw64 : ∀ s, (kws K s).1 ≤ 64 := fun s => Nat.le_trans (hwi s) (by decide)
  refine ziload_n C dX7_pass_0 rfl ?_
  refine zconst (v := 1) C dX7_pass_1 (by decide) ?_
  refine zsipush (v := 2000) C dX7_pass_2 (by decide) ?_
  refine zcallSX C (k_needWithin _ _ _) hy_X7_needWithin hst_X7_needWithin hl_X7_102 rfl rfl (by decide) (by decide) (by omega) (by omega) rfl (by exact Nat.le_of_ble_eq_true rfl) dX7_pass_5 (fun E M1 hx => zout C hE (by omega) (by omega) (by obtain ⟨e, hz, hm⟩ := hx; subst e; subst hm; exact ⟨thr2 (by simp [x_pass, hz]), rfl⟩)) (fun v5 M hp5 => ?_)
  obtain ⟨w5, rfl⟩ := hp5
  obtain ⟨dn, hd1, hd2, rfl⟩ := days_of w5
  have edn : (nI dn).toNatClampNeg = dn := nI_clamp (by omega)
  refine ziload_n C dX7_pass_8 rfl ?_
  refine zsipush (v := 30000) C dX7_pass_9 (by decide) ?_
  refine zaload_n C dX7_pass_12 rfl ?_
  refine zget C hf_X7_51 hp.main (by rfl) dX7_pass_13 ?_
  refine zisub C dX7_pass_16 ?_
  refine zicmp_le (tgt := 31) C dX7_pass_17 (by decide) (fun h17 => ?_) (fun h17 => ?_)
  · exact absurd (by rw [x_pass, w5, decide_eq_true h17]; rfl) hx0
  · exact zthrowW C hE ht_X7_388_66 rfl (by decide) (by exact Nat.le_of_ble_eq_true rfl) (by omega) (by omega) dX7_pass_20 dX7_pass_23 dX7_pass_24 dX7_pass_27 dX7_pass_30 ⟨thr3 (by rw [x_pass, w5, decide_eq_false h17]; rfl), rfl⟩
set_option maxRecDepth 100000 in
set_option maxHeartbeats 1000000 in
theorem does_0 {g : zGh} {K : zK} {X0 : zg → Option va_E} {ad : zg → Nat} {M : zM} (a b c d : Int32) (hp : zP g K X0 ad M) (hok : zOk K) : zCv g yL_does cL_does 7 (some .long) hhD 10 225 mkL [.ref (ad (0, 0)), .int 0, .int a, .int b, .int c, .int d] M 100 6000 (fun v M1 => (dX K 0 a b c d = 0 ∧ v = dA K 0 a b c d ∧ dM g (dK K 0 a b c d) X0 ad M1) ∨ (¬ dX K 0 a b c d = 0 ∧ v = -2100000000 ∧ M1 = M)) := by
  refine zofv [some (.ref (ad (0, 0))), some (.int 0), some (.int a), some (.int b), some (.int c), some (.int d), none] (by decide +kernel) rfl rfl (Nat.le_of_ble_eq_true rfl) ?_
  intro X C hE
  have C : zC g X RL cL_does 7 10 225 100 6000 := C
  refine ziload_n C dL_does_0 rfl ?_
  refine zbipush (v := 12) C dL_does_1 (by decide) ?_
  refine zicmp_ge (tgt := 21) C dL_does_3 (by decide) (fun h => by first | exact absurd h (by decide) | exact absurd (by decide) h) (fun _ => ?_)
  refine zaload_n C dL_does_6 rfl ?_
  refine ziload_n C dL_does_7 rfl ?_
  refine ziload_n C dL_does_8 rfl ?_
  refine ziload_n C dL_does_9 rfl ?_
  refine ziload C dL_does_10 rfl ?_
  refine ziload C dL_does_12 rfl ?_
  refine zcallSX C (early_0 a b c d hp hok) hy_L_early hst_L_early hl_L_8 rfl rfl (by decide) (by decide) (by omega) (by omega) rfl (by exact Nat.le_of_ble_eq_true rfl) dL_does_14 (fun E M1 hx => ?_) (fun v M1 hv => ?_)
  · obtain ⟨hth, hM1⟩ := hx
    have hn0 := exI hth
    rcases hth with ⟨-, rfl⟩ | ⟨-, rfl⟩ | ⟨-, rfl⟩
    · refine zcatch (E := eIO) C hE [] (0, 237, 238, 67) [(0, 237, 244, 71), (0, 237, 250, 73)] rfl (fun z hz => absurd hz List.not_mem_nil) (by decide) (by decide) (by decide) hc_L_67 (fun q => ?_)
      refine zastore (L1 := [_, _, _, _, _, _, _]) C dL_does_238 rfl (Nat.le_of_ble_eq_true rfl) ?_
      refine zldc2 C hk_L_69 dL_does_240 ?_
      exact zend_lv C hE dL_does_243 (by omega) (by omega) (Or.inr ⟨hn0, rfl, hM1⟩)
    · refine zcatch (E := eIA) C hE [(0, 237, 238, 67)] (0, 237, 244, 71) [(0, 237, 250, 73)] rfl (List.forall_mem_cons.mpr ⟨⟨by decide, eIO, by decide, by decide, hc_L_67⟩, fun z hz => absurd hz List.not_mem_nil⟩) (by decide) (by decide) (by decide) hc_L_71 (fun q => ?_)
      refine zastore (L1 := [_, _, _, _, _, _, _]) C dL_does_244 rfl (Nat.le_of_ble_eq_true rfl) ?_
      refine zldc2 C hk_L_69 dL_does_246 ?_
      exact zend_lv C hE dL_does_249 (by omega) (by omega) (Or.inr ⟨hn0, rfl, hM1⟩)
    · refine zcatch (E := eIS) C hE [(0, 237, 238, 67), (0, 237, 244, 71)] (0, 237, 250, 73) [] rfl (List.forall_mem_cons.mpr ⟨⟨by decide, eIO, by decide, by decide, hc_L_67⟩, List.forall_mem_cons.mpr ⟨⟨by decide, eIA, by decide, by decide, hc_L_71⟩, fun z hz => absurd hz List.not_mem_nil⟩⟩) (by decide) (by decide) (by decide) hc_L_73 (fun q => ?_)
      refine zastore (L1 := [_, _, _, _, _, _, _]) C dL_does_250 rfl (Nat.le_of_ble_eq_true rfl) ?_
      refine zldc2 C hk_L_69 dL_does_252 ?_
      exact zend_lv C hE dL_does_255 (by omega) (by omega) (Or.inr ⟨hn0, rfl, hM1⟩)
  · obtain ⟨hx0, rfl, hm⟩ := hv
    refine zi2l C dL_does_17 ?_
    refine zgoto (tgt := 237) C dL_does_18 (by decide) ?_
    exact zend_lv C hE dL_does_237 (by omega) (by omega) (Or.inl ⟨hx0, rfl, hm⟩)
set_option maxRecDepth 100000 in
set_option maxHeartbeats 1000000 in
theorem does_1 {g : zGh} {K : zK} {X0 : zg → Option va_E} {ad : zg → Nat} {M : zM} (a b c d : Int32) (hp : zP g K X0 ad M) (hok : zOk K) : zCv g yL_does cL_does 7 (some .long) hhD 10 225 mkL [.ref (ad (0, 0)), .int 1, .int a, .int b, .int c, .int d] M 100 6000 (fun v M1 => (dX K 1 a b c d = 0 ∧ v = dA K 1 a b c d ∧ dM g (dK K 1 a b c d) X0 ad M1) ∨ (¬ dX K 1 a b c d = 0 ∧ v = -2100000000 ∧ M1 = M)) := by
  refine zofv [some (.ref (ad (0, 0))), some (.int 1), some (.int a), some (.int b), some (.int c), some (.int d), none] (by decide +kernel) rfl rfl (Nat.le_of_ble_eq_true rfl) ?_
  intro X C hE
  have C : zC g X RL cL_does 7 10 225 100 6000 := C
  refine ziload_n C dL_does_0 rfl ?_
  refine zbipush (v := 12) C dL_does_1 (by decide) ?_
  refine zicmp_ge (tgt := 21) C dL_does_3 (by decide) (fun h => by first | exact absurd h (by decide) | exact absurd (by decide) h) (fun _ => ?_)
  refine zaload_n C dL_does_6 rfl ?_
  refine ziload_n C dL_does_7 rfl ?_
  refine ziload_n C dL_does_8 rfl ?_
  refine ziload_n C dL_does_9 rfl ?_
  refine ziload C dL_does_10 rfl ?_
  refine ziload C dL_does_12 rfl ?_
  refine zcallSX C (early_1 a b c d hp hok) hy_L_early hst_L_early hl_L_8 rfl rfl (by decide) (by decide) (by omega) (by omega) rfl (by exact Nat.le_of_ble_eq_true rfl) dL_does_14 (fun E M1 hx => ?_) (fun v M1 hv => ?_)
  · obtain ⟨hth, hM1⟩ := hx
    have hn0 := exI hth
    rcases hth with ⟨-, rfl⟩ | ⟨-, rfl⟩ | ⟨-, rfl⟩
    · refine zcatch (E := eIO) C hE [] (0, 237, 238, 67) [(0, 237, 244, 71), (0, 237, 250, 73)] rfl (fun z hz => absurd hz List.not_mem_nil) (by decide) (by decide) (by decide) hc_L_67 (fun q => ?_)
      refine zastore (L1 := [_, _, _, _, _, _, _]) C dL_does_238 rfl (Nat.le_of_ble_eq_true rfl) ?_
      refine zldc2 C hk_L_69 dL_does_240 ?_
      exact zend_lv C hE dL_does_243 (by omega) (by omega) (Or.inr ⟨hn0, rfl, hM1⟩)
    · refine zcatch (E := eIA) C hE [(0, 237, 238, 67)] (0, 237, 244, 71) [(0, 237, 250, 73)] rfl (List.forall_mem_cons.mpr ⟨⟨by decide, eIO, by decide, by decide, hc_L_67⟩, fun z hz => absurd hz List.not_mem_nil⟩) (by decide) (by decide) (by decide) hc_L_71 (fun q => ?_)
      refine zastore (L1 := [_, _, _, _, _, _, _]) C dL_does_244 rfl (Nat.le_of_ble_eq_true rfl) ?_
      refine zldc2 C hk_L_69 dL_does_246 ?_
      exact zend_lv C hE dL_does_249 (by omega) (by omega) (Or.inr ⟨hn0, rfl, hM1⟩)
    · refine zcatch (E := eIS) C hE [(0, 237, 238, 67), (0, 237, 244, 71)] (0, 237, 250, 73) [] rfl (List.forall_mem_cons.mpr ⟨⟨by decide, eIO, by decide, by decide, hc_L_67⟩, List.forall_mem_cons.mpr ⟨⟨by decide, eIA, by decide, by decide, hc_L_71⟩, fun z hz => absurd hz List.not_mem_nil⟩⟩) (by decide) (by decide) (by decide) hc_L_73 (fun q => ?_)
      refine zastore (L1 := [_, _, _, _, _, _, _]) C dL_does_250 rfl (Nat.le_of_ble_eq_true rfl) ?_
      refine zldc2 C hk_L_69 dL_does_252 ?_
      exact zend_lv C hE dL_does_255 (by omega) (by omega) (Or.inr ⟨hn0, rfl, hM1⟩)
  · obtain ⟨hx0, rfl, hm⟩ := hv
    refine zi2l C dL_does_17 ?_
    refine zgoto (tgt := 237) C dL_does_18 (by decide) ?_
    exact zend_lv C hE dL_does_237 (by omega) (by omega) (Or.inl ⟨hx0, rfl, hm⟩)
set_option maxRecDepth 100000 in
set_option maxHeartbeats 1000000 in
theorem does_2 {g : zGh} {K : zK} {X0 : zg → Option va_E} {ad : zg → Nat} {M : zM} (a b c d : Int32) (hp : zP g K X0 ad M) (hok : zOk K) : zCv g yL_does cL_does 7 (some .long) hhD 10 225 mkL [.ref (ad (0, 0)), .int 2, .int a, .int b, .int c, .int d] M 100 6000 (fun v M1 => (dX K 2 a b c d = 0 ∧ v = dA K 2 a b c d ∧ dM g (dK K 2 a b c d) X0 ad M1) ∨ (¬ dX K 2 a b c d = 0 ∧ v = -2100000000 ∧ M1 = M)) := by
  refine zofv [some (.ref (ad (0, 0))), some (.int 2), some (.int a), some (.int b), some (.int c), some (.int d), none] (by decide +kernel) rfl rfl (Nat.le_of_ble_eq_true rfl) ?_
  intro X C hE
  have C : zC g X RL cL_does 7 10 225 100 6000 := C
  refine ziload_n C dL_does_0 rfl ?_
  refine zbipush (v := 12) C dL_does_1 (by decide) ?_
  refine zicmp_ge (tgt := 21) C dL_does_3 (by decide) (fun h => by first | exact absurd h (by decide) | exact absurd (by decide) h) (fun _ => ?_)
  refine zaload_n C dL_does_6 rfl ?_
  refine ziload_n C dL_does_7 rfl ?_
  refine ziload_n C dL_does_8 rfl ?_
  refine ziload_n C dL_does_9 rfl ?_
  refine ziload C dL_does_10 rfl ?_
  refine ziload C dL_does_12 rfl ?_
  refine zcallSX C (early_2 a b c d hp hok) hy_L_early hst_L_early hl_L_8 rfl rfl (by decide) (by decide) (by omega) (by omega) rfl (by exact Nat.le_of_ble_eq_true rfl) dL_does_14 (fun E M1 hx => ?_) (fun v M1 hv => ?_)
  · obtain ⟨hth, hM1⟩ := hx
    have hn0 := exI hth
    rcases hth with ⟨-, rfl⟩ | ⟨-, rfl⟩ | ⟨-, rfl⟩
    · refine zcatch (E := eIO) C hE [] (0, 237, 238, 67) [(0, 237, 244, 71), (0, 237, 250, 73)] rfl (fun z hz => absurd hz List.not_mem_nil) (by decide) (by decide) (by decide) hc_L_67 (fun q => ?_)
      refine zastore (L1 := [_, _, _, _, _, _, _]) C dL_does_238 rfl (Nat.le_of_ble_eq_true rfl) ?_
      refine zldc2 C hk_L_69 dL_does_240 ?_
      exact zend_lv C hE dL_does_243 (by omega) (by omega) (Or.inr ⟨hn0, rfl, hM1⟩)
    · refine zcatch (E := eIA) C hE [(0, 237, 238, 67)] (0, 237, 244, 71) [(0, 237, 250, 73)] rfl (List.forall_mem_cons.mpr ⟨⟨by decide, eIO, by decide, by decide, hc_L_67⟩, fun z hz => absurd hz List.not_mem_nil⟩) (by decide) (by decide) (by decide) hc_L_71 (fun q => ?_)
      refine zastore (L1 := [_, _, _, _, _, _, _]) C dL_does_244 rfl (Nat.le_of_ble_eq_true rfl) ?_
      refine zldc2 C hk_L_69 dL_does_246 ?_
      exact zend_lv C hE dL_does_249 (by omega) (by omega) (Or.inr ⟨hn0, rfl, hM1⟩)
    · refine zcatch (E := eIS) C hE [(0, 237, 238, 67), (0, 237, 244, 71)] (0, 237, 250, 73) [] rfl (List.forall_mem_cons.mpr ⟨⟨by decide, eIO, by decide, by decide, hc_L_67⟩, List.forall_mem_cons.mpr ⟨⟨by decide, eIA, by decide, by decide, hc_L_71⟩, fun z hz => absurd hz List.not_mem_nil⟩⟩) (by decide) (by decide) (by decide) hc_L_73 (fun q => ?_)
      refine zastore (L1 := [_, _, _, _, _, _, _]) C dL_does_250 rfl (Nat.le_of_ble_eq_true rfl) ?_
      refine zldc2 C hk_L_69 dL_does_252 ?_
      exact zend_lv C hE dL_does_255 (by omega) (by omega) (Or.inr ⟨hn0, rfl, hM1⟩)
  · obtain ⟨hx0, rfl, hm⟩ := hv
    refine zi2l C dL_does_17 ?_
    refine zgoto (tgt := 237) C dL_does_18 (by decide) ?_
    exact zend_lv C hE dL_does_237 (by omega) (by omega) (Or.inl ⟨hx0, rfl, hm⟩)
set_option maxRecDepth 100000 in
set_option maxHeartbeats 1000000 in
theorem does_3 {g : zGh} {K : zK} {X0 : zg → Option va_E} {ad : zg → Nat} {M : zM} (a b c d : Int32) (hp : zP g K X0 ad M) (hok : zOk K) : zCv g yL_does cL_does 7 (some .long) hhD 10 225 mkL [.ref (ad (0, 0)), .int 3, .int a, .int b, .int c, .int d] M 100 6000 (fun v M1 => (dX K 3 a b c d = 0 ∧ v = dA K 3 a b c d ∧ dM g (dK K 3 a b c d) X0 ad M1) ∨ (¬ dX K 3 a b c d = 0 ∧ v = -2100000000 ∧ M1 = M)) := by
  refine zofv [some (.ref (ad (0, 0))), some (.int 3), some (.int a), some (.int b), some (.int c), some (.int d), none] (by decide +kernel) rfl rfl (Nat.le_of_ble_eq_true rfl) ?_
  intro X C hE
  have C : zC g X RL cL_does 7 10 225 100 6000 := C
  refine ziload_n C dL_does_0 rfl ?_
  refine zbipush (v := 12) C dL_does_1 (by decide) ?_
  refine zicmp_ge (tgt := 21) C dL_does_3 (by decide) (fun h => by first | exact absurd h (by decide) | exact absurd (by decide) h) (fun _ => ?_)
  refine zaload_n C dL_does_6 rfl ?_
  refine ziload_n C dL_does_7 rfl ?_
  refine ziload_n C dL_does_8 rfl ?_
  refine ziload_n C dL_does_9 rfl ?_
  refine ziload C dL_does_10 rfl ?_
  refine ziload C dL_does_12 rfl ?_
  refine zcallSX C (early_3 a b c d hp hok) hy_L_early hst_L_early hl_L_8 rfl rfl (by decide) (by decide) (by omega) (by omega) rfl (by exact Nat.le_of_ble_eq_true rfl) dL_does_14 (fun E M1 hx => ?_) (fun v M1 hv => ?_)
  · obtain ⟨hth, hM1⟩ := hx
    have hn0 := exI hth
    rcases hth with ⟨-, rfl⟩ | ⟨-, rfl⟩ | ⟨-, rfl⟩
    · refine zcatch (E := eIO) C hE [] (0, 237, 238, 67) [(0, 237, 244, 71), (0, 237, 250, 73)] rfl (fun z hz => absurd hz List.not_mem_nil) (by decide) (by decide) (by decide) hc_L_67 (fun q => ?_)
      refine zastore (L1 := [_, _, _, _, _, _, _]) C dL_does_238 rfl (Nat.le_of_ble_eq_true rfl) ?_
      refine zldc2 C hk_L_69 dL_does_240 ?_
      exact zend_lv C hE dL_does_243 (by omega) (by omega) (Or.inr ⟨hn0, rfl, hM1⟩)
    · refine zcatch (E := eIA) C hE [(0, 237, 238, 67)] (0, 237, 244, 71) [(0, 237, 250, 73)] rfl (List.forall_mem_cons.mpr ⟨⟨by decide, eIO, by decide, by decide, hc_L_67⟩, fun z hz => absurd hz List.not_mem_nil⟩) (by decide) (by decide) (by decide) hc_L_71 (fun q => ?_)
      refine zastore (L1 := [_, _, _, _, _, _, _]) C dL_does_244 rfl (Nat.le_of_ble_eq_true rfl) ?_
      refine zldc2 C hk_L_69 dL_does_246 ?_
      exact zend_lv C hE dL_does_249 (by omega) (by omega) (Or.inr ⟨hn0, rfl, hM1⟩)
    · refine zcatch (E := eIS) C hE [(0, 237, 238, 67), (0, 237, 244, 71)] (0, 237, 250, 73) [] rfl (List.forall_mem_cons.mpr ⟨⟨by decide, eIO, by decide, by decide, hc_L_67⟩, List.forall_mem_cons.mpr ⟨⟨by decide, eIA, by decide, by decide, hc_L_71⟩, fun z hz => absurd hz List.not_mem_nil⟩⟩) (by decide) (by decide) (by decide) hc_L_73 (fun q => ?_)
      refine zastore (L1 := [_, _, _, _, _, _, _]) C dL_does_250 rfl (Nat.le_of_ble_eq_true rfl) ?_
      refine zldc2 C hk_L_69 dL_does_252 ?_
      exact zend_lv C hE dL_does_255 (by omega) (by omega) (Or.inr ⟨hn0, rfl, hM1⟩)
  · obtain ⟨hx0, rfl, hm⟩ := hv
    refine zi2l C dL_does_17 ?_
    refine zgoto (tgt := 237) C dL_does_18 (by decide) ?_
    exact zend_lv C hE dL_does_237 (by omega) (by omega) (Or.inl ⟨hx0, rfl, hm⟩)
set_option maxRecDepth 100000 in
set_option maxHeartbeats 1000000 in
theorem does_4 {g : zGh} {K : zK} {X0 : zg → Option va_E} {ad : zg → Nat} {M : zM} (a b c d : Int32) (hp : zP g K X0 ad M) (hok : zOk K) : zCv g yL_does cL_does 7 (some .long) hhD 10 225 mkL [.ref (ad (0, 0)), .int 4, .int a, .int b, .int c, .int d] M 8 48 (fun v M1 => v = dR K 4 a b c d ∧ M1 = M) := by
  refine zofv [some (.ref (ad (0, 0))), some (.int 4), some (.int a), some (.int b), some (.int c), some (.int d), none] (by decide +kernel) rfl rfl (Nat.le_of_ble_eq_true rfl) ?_
  intro X C hE
  have C : zC g X RL cL_does 7 10 225 8 48 := C
  refine ziload_n C dL_does_0 rfl ?_
  refine zbipush (v := 12) C dL_does_1 (by decide) ?_
  refine zicmp_ge (tgt := 21) C dL_does_3 (by decide) (fun h => by first | exact absurd h (by decide) | exact absurd (by decide) h) (fun _ => ?_)
  refine zaload_n C dL_does_6 rfl ?_
  refine ziload_n C dL_does_7 rfl ?_
  refine ziload_n C dL_does_8 rfl ?_
  refine ziload_n C dL_does_9 rfl ?_
  refine ziload C dL_does_10 rfl ?_
  refine ziload C dL_does_12 rfl ?_
  refine zcallSX C (early_4 a b c d hp hok) hy_L_early hst_L_early hl_L_8 rfl rfl (by decide) (by decide) (by omega) (by omega) rfl (by exact Nat.le_of_ble_eq_true rfl) dL_does_14 (fun E M1 hx => ?_) (fun v M1 hv => ?_)
  · obtain ⟨hth, hM1⟩ := hx
    have hn0 := exI hth
    rcases hth with ⟨-, rfl⟩ | ⟨-, rfl⟩ | ⟨-, rfl⟩
    · refine zcatch (E := eIO) C hE [] (0, 237, 238, 67) [(0, 237, 244, 71), (0, 237, 250, 73)] rfl (fun z hz => absurd hz List.not_mem_nil) (by decide) (by decide) (by decide) hc_L_67 (fun q => ?_)
      refine zastore (L1 := [_, _, _, _, _, _, _]) C dL_does_238 rfl (Nat.le_of_ble_eq_true rfl) ?_
      refine zldc2 C hk_L_69 dL_does_240 ?_
      exact zend_lv C hE dL_does_243 (by omega) (by omega) ⟨(by rw [dR, if_neg (show ¬ dX K 4 a b c d = 0 from hn0)]), hM1⟩
    · refine zcatch (E := eIA) C hE [(0, 237, 238, 67)] (0, 237, 244, 71) [(0, 237, 250, 73)] rfl (List.forall_mem_cons.mpr ⟨⟨by decide, eIO, by decide, by decide, hc_L_67⟩, fun z hz => absurd hz List.not_mem_nil⟩) (by decide) (by decide) (by decide) hc_L_71 (fun q => ?_)
      refine zastore (L1 := [_, _, _, _, _, _, _]) C dL_does_244 rfl (Nat.le_of_ble_eq_true rfl) ?_
      refine zldc2 C hk_L_69 dL_does_246 ?_
      exact zend_lv C hE dL_does_249 (by omega) (by omega) ⟨(by rw [dR, if_neg (show ¬ dX K 4 a b c d = 0 from hn0)]), hM1⟩
    · refine zcatch (E := eIS) C hE [(0, 237, 238, 67), (0, 237, 244, 71)] (0, 237, 250, 73) [] rfl (List.forall_mem_cons.mpr ⟨⟨by decide, eIO, by decide, by decide, hc_L_67⟩, List.forall_mem_cons.mpr ⟨⟨by decide, eIA, by decide, by decide, hc_L_71⟩, fun z hz => absurd hz List.not_mem_nil⟩⟩) (by decide) (by decide) (by decide) hc_L_73 (fun q => ?_)
      refine zastore (L1 := [_, _, _, _, _, _, _]) C dL_does_250 rfl (Nat.le_of_ble_eq_true rfl) ?_
      refine zldc2 C hk_L_69 dL_does_252 ?_
      exact zend_lv C hE dL_does_255 (by omega) (by omega) ⟨(by rw [dR, if_neg (show ¬ dX K 4 a b c d = 0 from hn0)]), hM1⟩
  · obtain ⟨hx0, rfl, hm⟩ := hv
    refine zi2l C dL_does_17 ?_
    refine zgoto (tgt := 237) C dL_does_18 (by decide) ?_
    exact zend_lv C hE dL_does_237 (by omega) (by omega) ⟨(by rw [dR, if_pos (show dX K 4 a b c d = 0 from hx0)]; rfl), hm⟩
set_option maxRecDepth 100000 in
set_option maxHeartbeats 1000000 in
theorem does_5 {g : zGh} {K : zK} {X0 : zg → Option va_E} {ad : zg → Nat} {M : zM} (a b c d : Int32) (hp : zP g K X0 ad M) (hok : zOk K) : zCv g yL_does cL_does 7 (some .long) hhD 10 225 mkL [.ref (ad (0, 0)), .int 5, .int a, .int b, .int c, .int d] M 8 48 (fun v M1 => v = dR K 5 a b c d ∧ M1 = M) := by
  refine zofv [some (.ref (ad (0, 0))), some (.int 5), some (.int a), some (.int b), some (.int c), some (.int d), none] (by decide +kernel) rfl rfl (Nat.le_of_ble_eq_true rfl) ?_
  intro X C hE
  have C : zC g X RL cL_does 7 10 225 8 48 := C
  refine ziload_n C dL_does_0 rfl ?_
  refine zbipush (v := 12) C dL_does_1 (by decide) ?_
  refine zicmp_ge (tgt := 21) C dL_does_3 (by decide) (fun h => by first | exact absurd h (by decide) | exact absurd (by decide) h) (fun _ => ?_)
  refine zaload_n C dL_does_6 rfl ?_
  refine ziload_n C dL_does_7 rfl ?_
  refine ziload_n C dL_does_8 rfl ?_
  refine ziload_n C dL_does_9 rfl ?_
  refine ziload C dL_does_10 rfl ?_
  refine ziload C dL_does_12 rfl ?_
  refine zcallSX C (early_5 a b c d hp hok) hy_L_early hst_L_early hl_L_8 rfl rfl (by decide) (by decide) (by omega) (by omega) rfl (by exact Nat.le_of_ble_eq_true rfl) dL_does_14 (fun E M1 hx => ?_) (fun v M1 hv => ?_)
  · obtain ⟨hth, hM1⟩ := hx
    have hn0 := exI hth
    rcases hth with ⟨-, rfl⟩ | ⟨-, rfl⟩ | ⟨-, rfl⟩
    · refine zcatch (E := eIO) C hE [] (0, 237, 238, 67) [(0, 237, 244, 71), (0, 237, 250, 73)] rfl (fun z hz => absurd hz List.not_mem_nil) (by decide) (by decide) (by decide) hc_L_67 (fun q => ?_)
      refine zastore (L1 := [_, _, _, _, _, _, _]) C dL_does_238 rfl (Nat.le_of_ble_eq_true rfl) ?_
      refine zldc2 C hk_L_69 dL_does_240 ?_
      exact zend_lv C hE dL_does_243 (by omega) (by omega) ⟨(by rw [dR, if_neg (show ¬ dX K 5 a b c d = 0 from hn0)]), hM1⟩
    · refine zcatch (E := eIA) C hE [(0, 237, 238, 67)] (0, 237, 244, 71) [(0, 237, 250, 73)] rfl (List.forall_mem_cons.mpr ⟨⟨by decide, eIO, by decide, by decide, hc_L_67⟩, fun z hz => absurd hz List.not_mem_nil⟩) (by decide) (by decide) (by decide) hc_L_71 (fun q => ?_)
      refine zastore (L1 := [_, _, _, _, _, _, _]) C dL_does_244 rfl (Nat.le_of_ble_eq_true rfl) ?_
      refine zldc2 C hk_L_69 dL_does_246 ?_
      exact zend_lv C hE dL_does_249 (by omega) (by omega) ⟨(by rw [dR, if_neg (show ¬ dX K 5 a b c d = 0 from hn0)]), hM1⟩
    · refine zcatch (E := eIS) C hE [(0, 237, 238, 67), (0, 237, 244, 71)] (0, 237, 250, 73) [] rfl (List.forall_mem_cons.mpr ⟨⟨by decide, eIO, by decide, by decide, hc_L_67⟩, List.forall_mem_cons.mpr ⟨⟨by decide, eIA, by decide, by decide, hc_L_71⟩, fun z hz => absurd hz List.not_mem_nil⟩⟩) (by decide) (by decide) (by decide) hc_L_73 (fun q => ?_)
      refine zastore (L1 := [_, _, _, _, _, _, _]) C dL_does_250 rfl (Nat.le_of_ble_eq_true rfl) ?_
      refine zldc2 C hk_L_69 dL_does_252 ?_
      exact zend_lv C hE dL_does_255 (by omega) (by omega) ⟨(by rw [dR, if_neg (show ¬ dX K 5 a b c d = 0 from hn0)]), hM1⟩
  · obtain ⟨hx0, rfl, hm⟩ := hv
    refine zi2l C dL_does_17 ?_
    refine zgoto (tgt := 237) C dL_does_18 (by decide) ?_
    exact zend_lv C hE dL_does_237 (by omega) (by omega) ⟨(by rw [dR, if_pos (show dX K 5 a b c d = 0 from hx0)]; rfl), hm⟩
set_option maxRecDepth 100000 in
set_option maxHeartbeats 1000000 in
theorem does_6 {g : zGh} {K : zK} {X0 : zg → Option va_E} {ad : zg → Nat} {M : zM} (a b c d : Int32) (hp : zP g K X0 ad M) (hok : zOk K) : zCv g yL_does cL_does 7 (some .long) hhD 10 225 mkL [.ref (ad (0, 0)), .int 6, .int a, .int b, .int c, .int d] M 100 6000 (fun v M1 => (dX K 6 a b c d = 0 ∧ v = dA K 6 a b c d ∧ dM g (dK K 6 a b c d) X0 ad M1) ∨ (¬ dX K 6 a b c d = 0 ∧ v = -2100000000 ∧ M1 = M)) := by
  refine zofv [some (.ref (ad (0, 0))), some (.int 6), some (.int a), some (.int b), some (.int c), some (.int d), none] (by decide +kernel) rfl rfl (Nat.le_of_ble_eq_true rfl) ?_
  intro X C hE
  have C : zC g X RL cL_does 7 10 225 100 6000 := C
  refine ziload_n C dL_does_0 rfl ?_
  refine zbipush (v := 12) C dL_does_1 (by decide) ?_
  refine zicmp_ge (tgt := 21) C dL_does_3 (by decide) (fun h => by first | exact absurd h (by decide) | exact absurd (by decide) h) (fun _ => ?_)
  refine zaload_n C dL_does_6 rfl ?_
  refine ziload_n C dL_does_7 rfl ?_
  refine ziload_n C dL_does_8 rfl ?_
  refine ziload_n C dL_does_9 rfl ?_
  refine ziload C dL_does_10 rfl ?_
  refine ziload C dL_does_12 rfl ?_
  refine zcallSX C (early_6 a b c d hp hok) hy_L_early hst_L_early hl_L_8 rfl rfl (by decide) (by decide) (by omega) (by omega) rfl (by exact Nat.le_of_ble_eq_true rfl) dL_does_14 (fun E M1 hx => ?_) (fun v M1 hv => ?_)
  · obtain ⟨hth, hM1⟩ := hx
    have hn0 := exI hth
    rcases hth with ⟨-, rfl⟩ | ⟨-, rfl⟩ | ⟨-, rfl⟩
    · refine zcatch (E := eIO) C hE [] (0, 237, 238, 67) [(0, 237, 244, 71), (0, 237, 250, 73)] rfl (fun z hz => absurd hz List.not_mem_nil) (by decide) (by decide) (by decide) hc_L_67 (fun q => ?_)
      refine zastore (L1 := [_, _, _, _, _, _, _]) C dL_does_238 rfl (Nat.le_of_ble_eq_true rfl) ?_
      refine zldc2 C hk_L_69 dL_does_240 ?_
      exact zend_lv C hE dL_does_243 (by omega) (by omega) (Or.inr ⟨hn0, rfl, hM1⟩)
    · refine zcatch (E := eIA) C hE [(0, 237, 238, 67)] (0, 237, 244, 71) [(0, 237, 250, 73)] rfl (List.forall_mem_cons.mpr ⟨⟨by decide, eIO, by decide, by decide, hc_L_67⟩, fun z hz => absurd hz List.not_mem_nil⟩) (by decide) (by decide) (by decide) hc_L_71 (fun q => ?_)
      refine zastore (L1 := [_, _, _, _, _, _, _]) C dL_does_244 rfl (Nat.le_of_ble_eq_true rfl) ?_
      refine zldc2 C hk_L_69 dL_does_246 ?_
      exact zend_lv C hE dL_does_249 (by omega) (by omega) (Or.inr ⟨hn0, rfl, hM1⟩)
    · refine zcatch (E := eIS) C hE [(0, 237, 238, 67), (0, 237, 244, 71)] (0, 237, 250, 73) [] rfl (List.forall_mem_cons.mpr ⟨⟨by decide, eIO, by decide, by decide, hc_L_67⟩, List.forall_mem_cons.mpr ⟨⟨by decide, eIA, by decide, by decide, hc_L_71⟩, fun z hz => absurd hz List.not_mem_nil⟩⟩) (by decide) (by decide) (by decide) hc_L_73 (fun q => ?_)
      refine zastore (L1 := [_, _, _, _, _, _, _]) C dL_does_250 rfl (Nat.le_of_ble_eq_true rfl) ?_
      refine zldc2 C hk_L_69 dL_does_252 ?_
      exact zend_lv C hE dL_does_255 (by omega) (by omega) (Or.inr ⟨hn0, rfl, hM1⟩)
  · obtain ⟨hx0, rfl, hm⟩ := hv
    refine zi2l C dL_does_17 ?_
    refine zgoto (tgt := 237) C dL_does_18 (by decide) ?_
    exact zend_lv C hE dL_does_237 (by omega) (by omega) (Or.inl ⟨hx0, rfl, hm⟩)
set_option maxRecDepth 100000 in
set_option maxHeartbeats 1000000 in
theorem does_7 {g : zGh} {K : zK} {X0 : zg → Option va_E} {ad : zg → Nat} {M : zM} (a b c d : Int32) (hp : zP g K X0 ad M) (hok : zOk K) : zCv g yL_does cL_does 7 (some .long) hhD 10 225 mkL [.ref (ad (0, 0)), .int 7, .int a, .int b, .int c, .int d] M 100 6000 (fun v M1 => (dX K 7 a b c d = 0 ∧ v = dA K 7 a b c d ∧ dM g (dK K 7 a b c d) X0 ad M1) ∨ (¬ dX K 7 a b c d = 0 ∧ v = -2100000000 ∧ M1 = M)) := by
  refine zofv [some (.ref (ad (0, 0))), some (.int 7), some (.int a), some (.int b), some (.int c), some (.int d), none] (by decide +kernel) rfl rfl (Nat.le_of_ble_eq_true rfl) ?_
  intro X C hE
  have C : zC g X RL cL_does 7 10 225 100 6000 := C
  refine ziload_n C dL_does_0 rfl ?_
  refine zbipush (v := 12) C dL_does_1 (by decide) ?_
  refine zicmp_ge (tgt := 21) C dL_does_3 (by decide) (fun h => by first | exact absurd h (by decide) | exact absurd (by decide) h) (fun _ => ?_)
  refine zaload_n C dL_does_6 rfl ?_
  refine ziload_n C dL_does_7 rfl ?_
  refine ziload_n C dL_does_8 rfl ?_
  refine ziload_n C dL_does_9 rfl ?_
  refine ziload C dL_does_10 rfl ?_
  refine ziload C dL_does_12 rfl ?_
  refine zcallSX C (early_7 a b c d hp hok) hy_L_early hst_L_early hl_L_8 rfl rfl (by decide) (by decide) (by omega) (by omega) rfl (by exact Nat.le_of_ble_eq_true rfl) dL_does_14 (fun E M1 hx => ?_) (fun v M1 hv => ?_)
  · obtain ⟨hth, hM1⟩ := hx
    have hn0 := exI hth
    rcases hth with ⟨-, rfl⟩ | ⟨-, rfl⟩ | ⟨-, rfl⟩
    · refine zcatch (E := eIO) C hE [] (0, 237, 238, 67) [(0, 237, 244, 71), (0, 237, 250, 73)] rfl (fun z hz => absurd hz List.not_mem_nil) (by decide) (by decide) (by decide) hc_L_67 (fun q => ?_)
      refine zastore (L1 := [_, _, _, _, _, _, _]) C dL_does_238 rfl (Nat.le_of_ble_eq_true rfl) ?_
      refine zldc2 C hk_L_69 dL_does_240 ?_
      exact zend_lv C hE dL_does_243 (by omega) (by omega) (Or.inr ⟨hn0, rfl, hM1⟩)
    · refine zcatch (E := eIA) C hE [(0, 237, 238, 67)] (0, 237, 244, 71) [(0, 237, 250, 73)] rfl (List.forall_mem_cons.mpr ⟨⟨by decide, eIO, by decide, by decide, hc_L_67⟩, fun z hz => absurd hz List.not_mem_nil⟩) (by decide) (by decide) (by decide) hc_L_71 (fun q => ?_)
      refine zastore (L1 := [_, _, _, _, _, _, _]) C dL_does_244 rfl (Nat.le_of_ble_eq_true rfl) ?_
      refine zldc2 C hk_L_69 dL_does_246 ?_
      exact zend_lv C hE dL_does_249 (by omega) (by omega) (Or.inr ⟨hn0, rfl, hM1⟩)
    · refine zcatch (E := eIS) C hE [(0, 237, 238, 67), (0, 237, 244, 71)] (0, 237, 250, 73) [] rfl (List.forall_mem_cons.mpr ⟨⟨by decide, eIO, by decide, by decide, hc_L_67⟩, List.forall_mem_cons.mpr ⟨⟨by decide, eIA, by decide, by decide, hc_L_71⟩, fun z hz => absurd hz List.not_mem_nil⟩⟩) (by decide) (by decide) (by decide) hc_L_73 (fun q => ?_)
      refine zastore (L1 := [_, _, _, _, _, _, _]) C dL_does_250 rfl (Nat.le_of_ble_eq_true rfl) ?_
      refine zldc2 C hk_L_69 dL_does_252 ?_
      exact zend_lv C hE dL_does_255 (by omega) (by omega) (Or.inr ⟨hn0, rfl, hM1⟩)
  · obtain ⟨hx0, rfl, hm⟩ := hv
    refine zi2l C dL_does_17 ?_
    refine zgoto (tgt := 237) C dL_does_18 (by decide) ?_
    exact zend_lv C hE dL_does_237 (by omega) (by omega) (Or.inl ⟨hx0, rfl, hm⟩)
set_option maxRecDepth 100000 in
set_option maxHeartbeats 1000000 in
theorem does_8 {g : zGh} {K : zK} {X0 : zg → Option va_E} {ad : zg → Nat} {M : zM} (a b c d : Int32) (hp : zP g K X0 ad M) (hok : zOk K) : zCv g yL_does cL_does 7 (some .long) hhD 10 225 mkL [.ref (ad (0, 0)), .int 8, .int a, .int b, .int c, .int d] M 100 6000 (fun v M1 => (dX K 8 a b c d = 0 ∧ v = dA K 8 a b c d ∧ dM g (dK K 8 a b c d) X0 ad M1) ∨ (¬ dX K 8 a b c d = 0 ∧ v = -2100000000 ∧ M1 = M)) := by
  refine zofv [some (.ref (ad (0, 0))), some (.int 8), some (.int a), some (.int b), some (.int c), some (.int d), none] (by decide +kernel) rfl rfl (Nat.le_of_ble_eq_true rfl) ?_
  intro X C hE
  have C : zC g X RL cL_does 7 10 225 100 6000 := C
  refine ziload_n C dL_does_0 rfl ?_
  refine zbipush (v := 12) C dL_does_1 (by decide) ?_
  refine zicmp_ge (tgt := 21) C dL_does_3 (by decide) (fun h => by first | exact absurd h (by decide) | exact absurd (by decide) h) (fun _ => ?_)
  refine zaload_n C dL_does_6 rfl ?_
  refine ziload_n C dL_does_7 rfl ?_
  refine ziload_n C dL_does_8 rfl ?_
  refine ziload_n C dL_does_9 rfl ?_
  refine ziload C dL_does_10 rfl ?_
  refine ziload C dL_does_12 rfl ?_
  refine zcallSX C (early_8 a b c d hp hok) hy_L_early hst_L_early hl_L_8 rfl rfl (by decide) (by decide) (by omega) (by omega) rfl (by exact Nat.le_of_ble_eq_true rfl) dL_does_14 (fun E M1 hx => ?_) (fun v M1 hv => ?_)
  · obtain ⟨hth, hM1⟩ := hx
    have hn0 := exI hth
    rcases hth with ⟨-, rfl⟩ | ⟨-, rfl⟩ | ⟨-, rfl⟩
    · refine zcatch (E := eIO) C hE [] (0, 237, 238, 67) [(0, 237, 244, 71), (0, 237, 250, 73)] rfl (fun z hz => absurd hz List.not_mem_nil) (by decide) (by decide) (by decide) hc_L_67 (fun q => ?_)
      refine zastore (L1 := [_, _, _, _, _, _, _]) C dL_does_238 rfl (Nat.le_of_ble_eq_true rfl) ?_
      refine zldc2 C hk_L_69 dL_does_240 ?_
      exact zend_lv C hE dL_does_243 (by omega) (by omega) (Or.inr ⟨hn0, rfl, hM1⟩)
    · refine zcatch (E := eIA) C hE [(0, 237, 238, 67)] (0, 237, 244, 71) [(0, 237, 250, 73)] rfl (List.forall_mem_cons.mpr ⟨⟨by decide, eIO, by decide, by decide, hc_L_67⟩, fun z hz => absurd hz List.not_mem_nil⟩) (by decide) (by decide) (by decide) hc_L_71 (fun q => ?_)
      refine zastore (L1 := [_, _, _, _, _, _, _]) C dL_does_244 rfl (Nat.le_of_ble_eq_true rfl) ?_
      refine zldc2 C hk_L_69 dL_does_246 ?_
      exact zend_lv C hE dL_does_249 (by omega) (by omega) (Or.inr ⟨hn0, rfl, hM1⟩)
    · refine zcatch (E := eIS) C hE [(0, 237, 238, 67), (0, 237, 244, 71)] (0, 237, 250, 73) [] rfl (List.forall_mem_cons.mpr ⟨⟨by decide, eIO, by decide, by decide, hc_L_67⟩, List.forall_mem_cons.mpr ⟨⟨by decide, eIA, by decide, by decide, hc_L_71⟩, fun z hz => absurd hz List.not_mem_nil⟩⟩) (by decide) (by decide) (by decide) hc_L_73 (fun q => ?_)
      refine zastore (L1 := [_, _, _, _, _, _, _]) C dL_does_250 rfl (Nat.le_of_ble_eq_true rfl) ?_
      refine zldc2 C hk_L_69 dL_does_252 ?_
      exact zend_lv C hE dL_does_255 (by omega) (by omega) (Or.inr ⟨hn0, rfl, hM1⟩)
  · obtain ⟨hx0, rfl, hm⟩ := hv
    refine zi2l C dL_does_17 ?_
    refine zgoto (tgt := 237) C dL_does_18 (by decide) ?_
    exact zend_lv C hE dL_does_237 (by omega) (by omega) (Or.inl ⟨hx0, rfl, hm⟩)
set_option maxRecDepth 100000 in
set_option maxHeartbeats 1000000 in
theorem does_9 {g : zGh} {K : zK} {X0 : zg → Option va_E} {ad : zg → Nat} {M : zM} (a b c d : Int32) (hp : zP g K X0 ad M) (hok : zOk K) : zCv g yL_does cL_does 7 (some .long) hhD 10 225 mkL [.ref (ad (0, 0)), .int 9, .int a, .int b, .int c, .int d] M 8 48 (fun v M1 => v = dR K 9 a b c d ∧ M1 = M) := by
  refine zofv [some (.ref (ad (0, 0))), some (.int 9), some (.int a), some (.int b), some (.int c), some (.int d), none] (by decide +kernel) rfl rfl (Nat.le_of_ble_eq_true rfl) ?_
  intro X C hE
  have C : zC g X RL cL_does 7 10 225 8 48 := C
  refine ziload_n C dL_does_0 rfl ?_
  refine zbipush (v := 12) C dL_does_1 (by decide) ?_
  refine zicmp_ge (tgt := 21) C dL_does_3 (by decide) (fun h => by first | exact absurd h (by decide) | exact absurd (by decide) h) (fun _ => ?_)
  refine zaload_n C dL_does_6 rfl ?_
  refine ziload_n C dL_does_7 rfl ?_
  refine ziload_n C dL_does_8 rfl ?_
  refine ziload_n C dL_does_9 rfl ?_
  refine ziload C dL_does_10 rfl ?_
  refine ziload C dL_does_12 rfl ?_
  refine zcallSX C (early_9 a b c d hp hok) hy_L_early hst_L_early hl_L_8 rfl rfl (by decide) (by decide) (by omega) (by omega) rfl (by exact Nat.le_of_ble_eq_true rfl) dL_does_14 (fun E M1 hx => ?_) (fun v M1 hv => ?_)
  · obtain ⟨hth, hM1⟩ := hx
    have hn0 := exI hth
    rcases hth with ⟨-, rfl⟩ | ⟨-, rfl⟩ | ⟨-, rfl⟩
    · refine zcatch (E := eIO) C hE [] (0, 237, 238, 67) [(0, 237, 244, 71), (0, 237, 250, 73)] rfl (fun z hz => absurd hz List.not_mem_nil) (by decide) (by decide) (by decide) hc_L_67 (fun q => ?_)
      refine zastore (L1 := [_, _, _, _, _, _, _]) C dL_does_238 rfl (Nat.le_of_ble_eq_true rfl) ?_
      refine zldc2 C hk_L_69 dL_does_240 ?_
      exact zend_lv C hE dL_does_243 (by omega) (by omega) ⟨(by rw [dR, if_neg (show ¬ dX K 9 a b c d = 0 from hn0)]), hM1⟩
    · refine zcatch (E := eIA) C hE [(0, 237, 238, 67)] (0, 237, 244, 71) [(0, 237, 250, 73)] rfl (List.forall_mem_cons.mpr ⟨⟨by decide, eIO, by decide, by decide, hc_L_67⟩, fun z hz => absurd hz List.not_mem_nil⟩) (by decide) (by decide) (by decide) hc_L_71 (fun q => ?_)
      refine zastore (L1 := [_, _, _, _, _, _, _]) C dL_does_244 rfl (Nat.le_of_ble_eq_true rfl) ?_
      refine zldc2 C hk_L_69 dL_does_246 ?_
      exact zend_lv C hE dL_does_249 (by omega) (by omega) ⟨(by rw [dR, if_neg (show ¬ dX K 9 a b c d = 0 from hn0)]), hM1⟩
    · refine zcatch (E := eIS) C hE [(0, 237, 238, 67), (0, 237, 244, 71)] (0, 237, 250, 73) [] rfl (List.forall_mem_cons.mpr ⟨⟨by decide, eIO, by decide, by decide, hc_L_67⟩, List.forall_mem_cons.mpr ⟨⟨by decide, eIA, by decide, by decide, hc_L_71⟩, fun z hz => absurd hz List.not_mem_nil⟩⟩) (by decide) (by decide) (by decide) hc_L_73 (fun q => ?_)
      refine zastore (L1 := [_, _, _, _, _, _, _]) C dL_does_250 rfl (Nat.le_of_ble_eq_true rfl) ?_
      refine zldc2 C hk_L_69 dL_does_252 ?_
      exact zend_lv C hE dL_does_255 (by omega) (by omega) ⟨(by rw [dR, if_neg (show ¬ dX K 9 a b c d = 0 from hn0)]), hM1⟩
  · obtain ⟨hx0, rfl, hm⟩ := hv
    refine zi2l C dL_does_17 ?_
    refine zgoto (tgt := 237) C dL_does_18 (by decide) ?_
    exact zend_lv C hE dL_does_237 (by omega) (by omega) ⟨(by rw [dR, if_pos (show dX K 9 a b c d = 0 from hx0)]; rfl), hm⟩
set_option maxRecDepth 100000 in
set_option maxHeartbeats 1000000 in
theorem does_10 {g : zGh} {K : zK} {X0 : zg → Option va_E} {ad : zg → Nat} {M : zM} (a b c d : Int32) (hp : zP g K X0 ad M) (hok : zOk K) : zCv g yL_does cL_does 7 (some .long) hhD 10 225 mkL [.ref (ad (0, 0)), .int 10, .int a, .int b, .int c, .int d] M 100 6000 (fun v M1 => (dX K 10 a b c d = 0 ∧ v = dA K 10 a b c d ∧ dM g (dK K 10 a b c d) X0 ad M1) ∨ (¬ dX K 10 a b c d = 0 ∧ v = -2100000000 ∧ M1 = M)) := by
  refine zofv [some (.ref (ad (0, 0))), some (.int 10), some (.int a), some (.int b), some (.int c), some (.int d), none] (by decide +kernel) rfl rfl (Nat.le_of_ble_eq_true rfl) ?_
  intro X C hE
  have C : zC g X RL cL_does 7 10 225 100 6000 := C
  refine ziload_n C dL_does_0 rfl ?_
  refine zbipush (v := 12) C dL_does_1 (by decide) ?_
  refine zicmp_ge (tgt := 21) C dL_does_3 (by decide) (fun h => by first | exact absurd h (by decide) | exact absurd (by decide) h) (fun _ => ?_)
  refine zaload_n C dL_does_6 rfl ?_
  refine ziload_n C dL_does_7 rfl ?_
  refine ziload_n C dL_does_8 rfl ?_
  refine ziload_n C dL_does_9 rfl ?_
  refine ziload C dL_does_10 rfl ?_
  refine ziload C dL_does_12 rfl ?_
  refine zcallSX C (early_10 a b c d hp hok) hy_L_early hst_L_early hl_L_8 rfl rfl (by decide) (by decide) (by omega) (by omega) rfl (by exact Nat.le_of_ble_eq_true rfl) dL_does_14 (fun E M1 hx => ?_) (fun v M1 hv => ?_)
  · obtain ⟨hth, hM1⟩ := hx
    have hn0 := exI hth
    rcases hth with ⟨-, rfl⟩ | ⟨-, rfl⟩ | ⟨-, rfl⟩
    · refine zcatch (E := eIO) C hE [] (0, 237, 238, 67) [(0, 237, 244, 71), (0, 237, 250, 73)] rfl (fun z hz => absurd hz List.not_mem_nil) (by decide) (by decide) (by decide) hc_L_67 (fun q => ?_)
      refine zastore (L1 := [_, _, _, _, _, _, _]) C dL_does_238 rfl (Nat.le_of_ble_eq_true rfl) ?_
      refine zldc2 C hk_L_69 dL_does_240 ?_
      exact zend_lv C hE dL_does_243 (by omega) (by omega) (Or.inr ⟨hn0, rfl, hM1⟩)
    · refine zcatch (E := eIA) C hE [(0, 237, 238, 67)] (0, 237, 244, 71) [(0, 237, 250, 73)] rfl (List.forall_mem_cons.mpr ⟨⟨by decide, eIO, by decide, by decide, hc_L_67⟩, fun z hz => absurd hz List.not_mem_nil⟩) (by decide) (by decide) (by decide) hc_L_71 (fun q => ?_)
      refine zastore (L1 := [_, _, _, _, _, _, _]) C dL_does_244 rfl (Nat.le_of_ble_eq_true rfl) ?_
      refine zldc2 C hk_L_69 dL_does_246 ?_
      exact zend_lv C hE dL_does_249 (by omega) (by omega) (Or.inr ⟨hn0, rfl, hM1⟩)
    · refine zcatch (E := eIS) C hE [(0, 237, 238, 67), (0, 237, 244, 71)] (0, 237, 250, 73) [] rfl (List.forall_mem_cons.mpr ⟨⟨by decide, eIO, by decide, by decide, hc_L_67⟩, List.forall_mem_cons.mpr ⟨⟨by decide, eIA, by decide, by decide, hc_L_71⟩, fun z hz => absurd hz List.not_mem_nil⟩⟩) (by decide) (by decide) (by decide) hc_L_73 (fun q => ?_)
      refine zastore (L1 := [_, _, _, _, _, _, _]) C dL_does_250 rfl (Nat.le_of_ble_eq_true rfl) ?_
      refine zldc2 C hk_L_69 dL_does_252 ?_
      exact zend_lv C hE dL_does_255 (by omega) (by omega) (Or.inr ⟨hn0, rfl, hM1⟩)
  · obtain ⟨hx0, rfl, hm⟩ := hv
    refine zi2l C dL_does_17 ?_
    refine zgoto (tgt := 237) C dL_does_18 (by decide) ?_
    exact zend_lv C hE dL_does_237 (by omega) (by omega) (Or.inl ⟨hx0, rfl, hm⟩)
set_option maxRecDepth 100000 in
set_option maxHeartbeats 1000000 in
theorem does_11 {g : zGh} {K : zK} {X0 : zg → Option va_E} {ad : zg → Nat} {M : zM} (a b c d : Int32) (hp : zP g K X0 ad M) (hok : zOk K) : zCv g yL_does cL_does 7 (some .long) hhD 10 225 mkL [.ref (ad (0, 0)), .int 11, .int a, .int b, .int c, .int d] M 100 6000 (fun v M1 => (dX K 11 a b c d = 0 ∧ v = dA K 11 a b c d ∧ dM g (dK K 11 a b c d) X0 ad M1) ∨ (¬ dX K 11 a b c d = 0 ∧ v = -2100000000 ∧ M1 = M)) := by
  refine zofv [some (.ref (ad (0, 0))), some (.int 11), some (.int a), some (.int b), some (.int c), some (.int d), none] (by decide +kernel) rfl rfl (Nat.le_of_ble_eq_true rfl) ?_
  intro X C hE
  have C : zC g X RL cL_does 7 10 225 100 6000 := C
  refine ziload_n C dL_does_0 rfl ?_
  refine zbipush (v := 12) C dL_does_1 (by decide) ?_
  refine zicmp_ge (tgt := 21) C dL_does_3 (by decide) (fun h => by first | exact absurd h (by decide) | exact absurd (by decide) h) (fun _ => ?_)
  refine zaload_n C dL_does_6 rfl ?_
  refine ziload_n C dL_does_7 rfl ?_
  refine ziload_n C dL_does_8 rfl ?_
  refine ziload_n C dL_does_9 rfl ?_
  refine ziload C dL_does_10 rfl ?_
  refine ziload C dL_does_12 rfl ?_
  refine zcallSX C (early_11 a b c d hp hok) hy_L_early hst_L_early hl_L_8 rfl rfl (by decide) (by decide) (by omega) (by omega) rfl (by exact Nat.le_of_ble_eq_true rfl) dL_does_14 (fun E M1 hx => ?_) (fun v M1 hv => ?_)
  · obtain ⟨hth, hM1⟩ := hx
    have hn0 := exI hth
    rcases hth with ⟨-, rfl⟩ | ⟨-, rfl⟩ | ⟨-, rfl⟩
    · refine zcatch (E := eIO) C hE [] (0, 237, 238, 67) [(0, 237, 244, 71), (0, 237, 250, 73)] rfl (fun z hz => absurd hz List.not_mem_nil) (by decide) (by decide) (by decide) hc_L_67 (fun q => ?_)
      refine zastore (L1 := [_, _, _, _, _, _, _]) C dL_does_238 rfl (Nat.le_of_ble_eq_true rfl) ?_
      refine zldc2 C hk_L_69 dL_does_240 ?_
      exact zend_lv C hE dL_does_243 (by omega) (by omega) (Or.inr ⟨hn0, rfl, hM1⟩)
    · refine zcatch (E := eIA) C hE [(0, 237, 238, 67)] (0, 237, 244, 71) [(0, 237, 250, 73)] rfl (List.forall_mem_cons.mpr ⟨⟨by decide, eIO, by decide, by decide, hc_L_67⟩, fun z hz => absurd hz List.not_mem_nil⟩) (by decide) (by decide) (by decide) hc_L_71 (fun q => ?_)
      refine zastore (L1 := [_, _, _, _, _, _, _]) C dL_does_244 rfl (Nat.le_of_ble_eq_true rfl) ?_
      refine zldc2 C hk_L_69 dL_does_246 ?_
      exact zend_lv C hE dL_does_249 (by omega) (by omega) (Or.inr ⟨hn0, rfl, hM1⟩)
    · refine zcatch (E := eIS) C hE [(0, 237, 238, 67), (0, 237, 244, 71)] (0, 237, 250, 73) [] rfl (List.forall_mem_cons.mpr ⟨⟨by decide, eIO, by decide, by decide, hc_L_67⟩, List.forall_mem_cons.mpr ⟨⟨by decide, eIA, by decide, by decide, hc_L_71⟩, fun z hz => absurd hz List.not_mem_nil⟩⟩) (by decide) (by decide) (by decide) hc_L_73 (fun q => ?_)
      refine zastore (L1 := [_, _, _, _, _, _, _]) C dL_does_250 rfl (Nat.le_of_ble_eq_true rfl) ?_
      refine zldc2 C hk_L_69 dL_does_252 ?_
      exact zend_lv C hE dL_does_255 (by omega) (by omega) (Or.inr ⟨hn0, rfl, hM1⟩)
  · obtain ⟨hx0, rfl, hm⟩ := hv
    refine zi2l C dL_does_17 ?_
    refine zgoto (tgt := 237) C dL_does_18 (by decide) ?_
    exact zend_lv C hE dL_does_237 (by omega) (by omega) (Or.inl ⟨hx0, rfl, hm⟩)
set_option maxRecDepth 100000 in
set_option maxHeartbeats 1000000 in
theorem does_12 {g : zGh} {K : zK} {X0 : zg → Option va_E} {ad : zg → Nat} {M : zM} (a b c d : Int32) (hp : zP g K X0 ad M) (hok : zOk K) : zCv g yL_does cL_does 7 (some .long) hhD 10 225 mkL [.ref (ad (0, 0)), .int 12, .int a, .int b, .int c, .int d] M 100 6000 (fun v M1 => (dX K 12 a b c d = 0 ∧ v = dA K 12 a b c d ∧ dM g (dK K 12 a b c d) X0 ad M1) ∨ (¬ dX K 12 a b c d = 0 ∧ v = -2100000000 ∧ M1 = M)) := by
  refine zofv [some (.ref (ad (0, 0))), some (.int 12), some (.int a), some (.int b), some (.int c), some (.int d), none] (by decide +kernel) rfl rfl (Nat.le_of_ble_eq_true rfl) ?_
  intro X C hE
  have C : zC g X RL cL_does 7 10 225 100 6000 := C
  refine ziload_n C dL_does_0 rfl ?_
  refine zbipush (v := 12) C dL_does_1 (by decide) ?_
  refine zicmp_ge (tgt := 21) C dL_does_3 (by decide) (fun _ => ?_) (fun h => by first | exact absurd (by decide) h | exact absurd h (by decide))
  refine ziload_n C dL_does_21 rfl ?_
  refine zbipush (v := 12) C dL_does_22 (by decide) ?_
  refine zicmp_ne (tgt := 36) C dL_does_24 (by decide) (fun h => by first | exact absurd h (by decide) | exact absurd (by decide) h) (fun _ => ?_)
  refine zaload_n C dL_does_27 rfl ?_
  refine ziload_n C dL_does_28 rfl ?_
  refine ziload_n C dL_does_29 rfl ?_
  refine zcallVX C (K_goods a b hp hok.1) hy_X7_goods hv_X7_goods hl_L_14 hp.main rfl rfl rfl rfl (by decide) (by decide) (by omega) (by omega) rfl (by exact Nat.le_of_ble_eq_true rfl) dL_does_30 (fun E M1 hx => ?_) (fun v M1 hv => ?_)
  · obtain ⟨hth, hM1⟩ := hx
    have hn0 := exI hth
    rcases hth with ⟨-, rfl⟩ | ⟨-, rfl⟩ | ⟨-, rfl⟩
    · refine zcatch (E := eIO) C hE [] (0, 237, 238, 67) [(0, 237, 244, 71), (0, 237, 250, 73)] rfl (fun z hz => absurd hz List.not_mem_nil) (by decide) (by decide) (by decide) hc_L_67 (fun q => ?_)
      refine zastore (L1 := [_, _, _, _, _, _, _]) C dL_does_238 rfl (Nat.le_of_ble_eq_true rfl) ?_
      refine zldc2 C hk_L_69 dL_does_240 ?_
      exact zend_lv C hE dL_does_243 (by omega) (by omega) (Or.inr ⟨hn0, rfl, hM1⟩)
    · refine zcatch (E := eIA) C hE [(0, 237, 238, 67)] (0, 237, 244, 71) [(0, 237, 250, 73)] rfl (List.forall_mem_cons.mpr ⟨⟨by decide, eIO, by decide, by decide, hc_L_67⟩, fun z hz => absurd hz List.not_mem_nil⟩) (by decide) (by decide) (by decide) hc_L_71 (fun q => ?_)
      refine zastore (L1 := [_, _, _, _, _, _, _]) C dL_does_244 rfl (Nat.le_of_ble_eq_true rfl) ?_
      refine zldc2 C hk_L_69 dL_does_246 ?_
      exact zend_lv C hE dL_does_249 (by omega) (by omega) (Or.inr ⟨hn0, rfl, hM1⟩)
    · refine zcatch (E := eIS) C hE [(0, 237, 238, 67), (0, 237, 244, 71)] (0, 237, 250, 73) [] rfl (List.forall_mem_cons.mpr ⟨⟨by decide, eIO, by decide, by decide, hc_L_67⟩, List.forall_mem_cons.mpr ⟨⟨by decide, eIA, by decide, by decide, hc_L_71⟩, fun z hz => absurd hz List.not_mem_nil⟩⟩) (by decide) (by decide) (by decide) hc_L_73 (fun q => ?_)
      refine zastore (L1 := [_, _, _, _, _, _, _]) C dL_does_250 rfl (Nat.le_of_ble_eq_true rfl) ?_
      refine zldc2 C hk_L_69 dL_does_252 ?_
      exact zend_lv C hE dL_does_255 (by omega) (by omega) (Or.inr ⟨hn0, rfl, hM1⟩)
  · obtain ⟨hx0, rfl, hm⟩ := hv
    replace hm := dM.s hm
    refine zgoto (tgt := 237) C dL_does_33 (by decide) ?_
    exact zend_lv C hE dL_does_237 (by omega) (by omega) (Or.inl ⟨hx0, rfl, hm⟩)
set_option maxRecDepth 100000 in
set_option maxHeartbeats 1000000 in
theorem does_13 {g : zGh} {K : zK} {X0 : zg → Option va_E} {ad : zg → Nat} {M : zM} (a b c d : Int32) (hp : zP g K X0 ad M) (hok : zOk K) : zCv g yL_does cL_does 7 (some .long) hhD 10 225 mkL [.ref (ad (0, 0)), .int 13, .int a, .int b, .int c, .int d] M 100 6000 (fun v M1 => (dX K 13 a b c d = 0 ∧ v = dA K 13 a b c d ∧ dM g (dK K 13 a b c d) X0 ad M1) ∨ (¬ dX K 13 a b c d = 0 ∧ v = -2100000000 ∧ M1 = M)) := by
  refine zofv [some (.ref (ad (0, 0))), some (.int 13), some (.int a), some (.int b), some (.int c), some (.int d), none] (by decide +kernel) rfl rfl (Nat.le_of_ble_eq_true rfl) ?_
  intro X C hE
  have C : zC g X RL cL_does 7 10 225 100 6000 := C
  refine ziload_n C dL_does_0 rfl ?_
  refine zbipush (v := 12) C dL_does_1 (by decide) ?_
  refine zicmp_ge (tgt := 21) C dL_does_3 (by decide) (fun _ => ?_) (fun h => by first | exact absurd (by decide) h | exact absurd h (by decide))
  refine ziload_n C dL_does_21 rfl ?_
  refine zbipush (v := 12) C dL_does_22 (by decide) ?_
  refine zicmp_ne (tgt := 36) C dL_does_24 (by decide) (fun _ => ?_) (fun h => by first | exact absurd (by decide) h | exact absurd h (by decide))
  refine ziload_n C dL_does_36 rfl ?_
  refine zbipush (v := 13) C dL_does_37 (by decide) ?_
  refine zicmp_ne (tgt := 50) C dL_does_39 (by decide) (fun h => by first | exact absurd h (by decide) | exact absurd (by decide) h) (fun _ => ?_)
  refine zaload_n C dL_does_42 rfl ?_
  refine ziload_n C dL_does_43 rfl ?_
  refine zcallVX C (K_dies a hp hok.1 hok.2.2.1) hy_X7_dies hv_X7_dies hl_L_20 hp.main rfl rfl rfl rfl (by decide) (by decide) (by omega) (by omega) rfl (by exact Nat.le_of_ble_eq_true rfl) dL_does_44 (fun E M1 hx => ?_) (fun v M1 hv => ?_)
  · obtain ⟨hth, hM1⟩ := hx
    have hn0 := exI hth
    rcases hth with ⟨-, rfl⟩ | ⟨-, rfl⟩ | ⟨-, rfl⟩
    · refine zcatch (E := eIO) C hE [] (0, 237, 238, 67) [(0, 237, 244, 71), (0, 237, 250, 73)] rfl (fun z hz => absurd hz List.not_mem_nil) (by decide) (by decide) (by decide) hc_L_67 (fun q => ?_)
      refine zastore (L1 := [_, _, _, _, _, _, _]) C dL_does_238 rfl (Nat.le_of_ble_eq_true rfl) ?_
      refine zldc2 C hk_L_69 dL_does_240 ?_
      exact zend_lv C hE dL_does_243 (by omega) (by omega) (Or.inr ⟨hn0, rfl, hM1⟩)
    · refine zcatch (E := eIA) C hE [(0, 237, 238, 67)] (0, 237, 244, 71) [(0, 237, 250, 73)] rfl (List.forall_mem_cons.mpr ⟨⟨by decide, eIO, by decide, by decide, hc_L_67⟩, fun z hz => absurd hz List.not_mem_nil⟩) (by decide) (by decide) (by decide) hc_L_71 (fun q => ?_)
      refine zastore (L1 := [_, _, _, _, _, _, _]) C dL_does_244 rfl (Nat.le_of_ble_eq_true rfl) ?_
      refine zldc2 C hk_L_69 dL_does_246 ?_
      exact zend_lv C hE dL_does_249 (by omega) (by omega) (Or.inr ⟨hn0, rfl, hM1⟩)
    · refine zcatch (E := eIS) C hE [(0, 237, 238, 67), (0, 237, 244, 71)] (0, 237, 250, 73) [] rfl (List.forall_mem_cons.mpr ⟨⟨by decide, eIO, by decide, by decide, hc_L_67⟩, List.forall_mem_cons.mpr ⟨⟨by decide, eIA, by decide, by decide, hc_L_71⟩, fun z hz => absurd hz List.not_mem_nil⟩⟩) (by decide) (by decide) (by decide) hc_L_73 (fun q => ?_)
      refine zastore (L1 := [_, _, _, _, _, _, _]) C dL_does_250 rfl (Nat.le_of_ble_eq_true rfl) ?_
      refine zldc2 C hk_L_69 dL_does_252 ?_
      exact zend_lv C hE dL_does_255 (by omega) (by omega) (Or.inr ⟨hn0, rfl, hM1⟩)
  · obtain ⟨hx0, rfl, ad1, hm, ha⟩ := hv
    replace hm : dM _ _ _ ad _ := ⟨ad1, hm, ha⟩
    refine zgoto (tgt := 237) C dL_does_47 (by decide) ?_
    exact zend_lv C hE dL_does_237 (by omega) (by omega) (Or.inl ⟨hx0, rfl, hm⟩)
set_option maxRecDepth 100000 in
set_option maxHeartbeats 1000000 in
theorem does_14 {g : zGh} {K : zK} {X0 : zg → Option va_E} {ad : zg → Nat} {M : zM} (a b c d : Int32) (hp : zP g K X0 ad M) (hok : zOk K) : zCv g yL_does cL_does 7 (some .long) hhD 10 225 mkL [.ref (ad (0, 0)), .int 14, .int a, .int b, .int c, .int d] M 100 6000 (fun v M1 => (dX K 14 a b c d = 0 ∧ v = dA K 14 a b c d ∧ dM g (dK K 14 a b c d) X0 ad M1) ∨ (¬ dX K 14 a b c d = 0 ∧ v = -2100000000 ∧ M1 = M)) := by
  refine zofv [some (.ref (ad (0, 0))), some (.int 14), some (.int a), some (.int b), some (.int c), some (.int d), none] (by decide +kernel) rfl rfl (Nat.le_of_ble_eq_true rfl) ?_
  intro X C hE
  have C : zC g X RL cL_does 7 10 225 100 6000 := C
  refine ziload_n C dL_does_0 rfl ?_
  refine zbipush (v := 12) C dL_does_1 (by decide) ?_
  refine zicmp_ge (tgt := 21) C dL_does_3 (by decide) (fun _ => ?_) (fun h => by first | exact absurd (by decide) h | exact absurd h (by decide))
  refine ziload_n C dL_does_21 rfl ?_
  refine zbipush (v := 12) C dL_does_22 (by decide) ?_
  refine zicmp_ne (tgt := 36) C dL_does_24 (by decide) (fun _ => ?_) (fun h => by first | exact absurd (by decide) h | exact absurd h (by decide))
  refine ziload_n C dL_does_36 rfl ?_
  refine zbipush (v := 13) C dL_does_37 (by decide) ?_
  refine zicmp_ne (tgt := 50) C dL_does_39 (by decide) (fun _ => ?_) (fun h => by first | exact absurd (by decide) h | exact absurd h (by decide))
  refine ziload_n C dL_does_50 rfl ?_
  refine zbipush (v := 14) C dL_does_51 (by decide) ?_
  refine zicmp_ne (tgt := 70) C dL_does_53 (by decide) (fun h => by first | exact absurd h (by decide) | exact absurd (by decide) h) (fun _ => ?_)
  refine zaload_n C dL_does_56 rfl ?_
  refine ziload_n C dL_does_57 rfl ?_
  refine ziload_n C dL_does_58 rfl ?_
  refine ziload C dL_does_59 rfl ?_
  refine ziload C dL_does_61 rfl ?_
  refine zcallVX C (K_sue a b c d hp hok.1 hok.2.2.1) hy_X7_sue hv_X7_sue hl_L_24 hp.main rfl rfl rfl rfl (by decide) (by decide) (by omega) (by omega) rfl (by exact Nat.le_of_ble_eq_true rfl) dL_does_63 (fun E M1 hx => ?_) (fun v M1 hv => ?_)
  · obtain ⟨hth, hM1⟩ := hx
    have hn0 := exI hth
    rcases hth with ⟨-, rfl⟩ | ⟨-, rfl⟩ | ⟨-, rfl⟩
    · refine zcatch (E := eIO) C hE [] (0, 237, 238, 67) [(0, 237, 244, 71), (0, 237, 250, 73)] rfl (fun z hz => absurd hz List.not_mem_nil) (by decide) (by decide) (by decide) hc_L_67 (fun q => ?_)
      refine zastore (L1 := [_, _, _, _, _, _, _]) C dL_does_238 rfl (Nat.le_of_ble_eq_true rfl) ?_
      refine zldc2 C hk_L_69 dL_does_240 ?_
      exact zend_lv C hE dL_does_243 (by omega) (by omega) (Or.inr ⟨hn0, rfl, hM1⟩)
    · refine zcatch (E := eIA) C hE [(0, 237, 238, 67)] (0, 237, 244, 71) [(0, 237, 250, 73)] rfl (List.forall_mem_cons.mpr ⟨⟨by decide, eIO, by decide, by decide, hc_L_67⟩, fun z hz => absurd hz List.not_mem_nil⟩) (by decide) (by decide) (by decide) hc_L_71 (fun q => ?_)
      refine zastore (L1 := [_, _, _, _, _, _, _]) C dL_does_244 rfl (Nat.le_of_ble_eq_true rfl) ?_
      refine zldc2 C hk_L_69 dL_does_246 ?_
      exact zend_lv C hE dL_does_249 (by omega) (by omega) (Or.inr ⟨hn0, rfl, hM1⟩)
    · refine zcatch (E := eIS) C hE [(0, 237, 238, 67), (0, 237, 244, 71)] (0, 237, 250, 73) [] rfl (List.forall_mem_cons.mpr ⟨⟨by decide, eIO, by decide, by decide, hc_L_67⟩, List.forall_mem_cons.mpr ⟨⟨by decide, eIA, by decide, by decide, hc_L_71⟩, fun z hz => absurd hz List.not_mem_nil⟩⟩) (by decide) (by decide) (by decide) hc_L_73 (fun q => ?_)
      refine zastore (L1 := [_, _, _, _, _, _, _]) C dL_does_250 rfl (Nat.le_of_ble_eq_true rfl) ?_
      refine zldc2 C hk_L_69 dL_does_252 ?_
      exact zend_lv C hE dL_does_255 (by omega) (by omega) (Or.inr ⟨hn0, rfl, hM1⟩)
  · obtain ⟨hx0, rfl, ad1, hm, ha⟩ := hv
    replace hm : dM _ _ _ ad _ := ⟨ad1, hm, ha⟩
    refine zi2l C dL_does_66 ?_
    refine zgoto (tgt := 237) C dL_does_67 (by decide) ?_
    exact zend_lv C hE dL_does_237 (by omega) (by omega) (Or.inl ⟨hx0, rfl, hm⟩)
set_option maxRecDepth 100000 in
set_option maxHeartbeats 1000000 in
theorem does_15 {g : zGh} {K : zK} {X0 : zg → Option va_E} {ad : zg → Nat} {M : zM} (a b c d : Int32) (hp : zP g K X0 ad M) (hok : zOk K) : zCv g yL_does cL_does 7 (some .long) hhD 10 225 mkL [.ref (ad (0, 0)), .int 15, .int a, .int b, .int c, .int d] M 100 6000 (fun v M1 => (dX K 15 a b c d = 0 ∧ v = dA K 15 a b c d ∧ dM g (dK K 15 a b c d) X0 ad M1) ∨ (¬ dX K 15 a b c d = 0 ∧ v = -2100000000 ∧ M1 = M)) := by
  refine zofv [some (.ref (ad (0, 0))), some (.int 15), some (.int a), some (.int b), some (.int c), some (.int d), none] (by decide +kernel) rfl rfl (Nat.le_of_ble_eq_true rfl) ?_
  intro X C hE
  have C : zC g X RL cL_does 7 10 225 100 6000 := C
  refine ziload_n C dL_does_0 rfl ?_
  refine zbipush (v := 12) C dL_does_1 (by decide) ?_
  refine zicmp_ge (tgt := 21) C dL_does_3 (by decide) (fun _ => ?_) (fun h => by first | exact absurd (by decide) h | exact absurd h (by decide))
  refine ziload_n C dL_does_21 rfl ?_
  refine zbipush (v := 12) C dL_does_22 (by decide) ?_
  refine zicmp_ne (tgt := 36) C dL_does_24 (by decide) (fun _ => ?_) (fun h => by first | exact absurd (by decide) h | exact absurd h (by decide))
  refine ziload_n C dL_does_36 rfl ?_
  refine zbipush (v := 13) C dL_does_37 (by decide) ?_
  refine zicmp_ne (tgt := 50) C dL_does_39 (by decide) (fun _ => ?_) (fun h => by first | exact absurd (by decide) h | exact absurd h (by decide))
  refine ziload_n C dL_does_50 rfl ?_
  refine zbipush (v := 14) C dL_does_51 (by decide) ?_
  refine zicmp_ne (tgt := 70) C dL_does_53 (by decide) (fun _ => ?_) (fun h => by first | exact absurd (by decide) h | exact absurd h (by decide))
  refine ziload_n C dL_does_70 rfl ?_
  refine zbipush (v := 15) C dL_does_71 (by decide) ?_
  refine zicmp_ne (tgt := 88) C dL_does_73 (by decide) (fun h => by first | exact absurd h (by decide) | exact absurd (by decide) h) (fun _ => ?_)
  refine zaload_n C dL_does_76 rfl ?_
  refine ziload_n C dL_does_77 rfl ?_
  refine zcallVX C (K_appear a hp hok.1) hy_X7_appear hv_X7_appear hl_L_28 hp.main rfl rfl rfl rfl (by decide) (by decide) (by omega) (by omega) rfl (by exact Nat.le_of_ble_eq_true rfl) dL_does_78 (fun E M1 hx => ?_) (fun v M1 hv => ?_)
  · obtain ⟨hth, hM1⟩ := hx
    have hn0 := exI hth
    rcases hth with ⟨-, rfl⟩ | ⟨-, rfl⟩ | ⟨-, rfl⟩
    · refine zcatch (E := eIO) C hE [] (0, 237, 238, 67) [(0, 237, 244, 71), (0, 237, 250, 73)] rfl (fun z hz => absurd hz List.not_mem_nil) (by decide) (by decide) (by decide) hc_L_67 (fun q => ?_)
      refine zastore (L1 := [_, _, _, _, _, _, _]) C dL_does_238 rfl (Nat.le_of_ble_eq_true rfl) ?_
      refine zldc2 C hk_L_69 dL_does_240 ?_
      exact zend_lv C hE dL_does_243 (by omega) (by omega) (Or.inr ⟨hn0, rfl, hM1⟩)
    · refine zcatch (E := eIA) C hE [(0, 237, 238, 67)] (0, 237, 244, 71) [(0, 237, 250, 73)] rfl (List.forall_mem_cons.mpr ⟨⟨by decide, eIO, by decide, by decide, hc_L_67⟩, fun z hz => absurd hz List.not_mem_nil⟩) (by decide) (by decide) (by decide) hc_L_71 (fun q => ?_)
      refine zastore (L1 := [_, _, _, _, _, _, _]) C dL_does_244 rfl (Nat.le_of_ble_eq_true rfl) ?_
      refine zldc2 C hk_L_69 dL_does_246 ?_
      exact zend_lv C hE dL_does_249 (by omega) (by omega) (Or.inr ⟨hn0, rfl, hM1⟩)
    · refine zcatch (E := eIS) C hE [(0, 237, 238, 67), (0, 237, 244, 71)] (0, 237, 250, 73) [] rfl (List.forall_mem_cons.mpr ⟨⟨by decide, eIO, by decide, by decide, hc_L_67⟩, List.forall_mem_cons.mpr ⟨⟨by decide, eIA, by decide, by decide, hc_L_71⟩, fun z hz => absurd hz List.not_mem_nil⟩⟩) (by decide) (by decide) (by decide) hc_L_73 (fun q => ?_)
      refine zastore (L1 := [_, _, _, _, _, _, _]) C dL_does_250 rfl (Nat.le_of_ble_eq_true rfl) ?_
      refine zldc2 C hk_L_69 dL_does_252 ?_
      exact zend_lv C hE dL_does_255 (by omega) (by omega) (Or.inr ⟨hn0, rfl, hM1⟩)
  · obtain ⟨hx0, rfl, hm⟩ := hv
    replace hm := dM.s hm
    refine zcallS C (l_bit _) hy_L_bit hst_L_bit hl_L_32 rfl rfl (by decide) (by decide) (by omega) (by omega) rfl (by exact Nat.le_of_ble_eq_true rfl) dL_does_81 (fun vb M hb => ?_)
    obtain ⟨rfl, rfl⟩ := hb
    refine zi2l C dL_does_84 ?_
    refine zgoto (tgt := 237) C dL_does_85 (by decide) ?_
    exact zend_lv C hE dL_does_237 (by omega) (by omega) (Or.inl ⟨hx0, rfl, hm⟩)
set_option maxRecDepth 100000 in
set_option maxHeartbeats 1000000 in
theorem does_16 {g : zGh} {K : zK} {X0 : zg → Option va_E} {ad : zg → Nat} {M : zM} (a b c d : Int32) (hp : zP g K X0 ad M) (hok : zOk K) : zCv g yL_does cL_does 7 (some .long) hhD 10 225 mkL [.ref (ad (0, 0)), .int 16, .int a, .int b, .int c, .int d] M 100 6000 (fun v M1 => (dX K 16 a b c d = 0 ∧ v = dA K 16 a b c d ∧ dM g (dK K 16 a b c d) X0 ad M1) ∨ (¬ dX K 16 a b c d = 0 ∧ v = -2100000000 ∧ M1 = M)) := by
  refine zofv [some (.ref (ad (0, 0))), some (.int 16), some (.int a), some (.int b), some (.int c), some (.int d), none] (by decide +kernel) rfl rfl (Nat.le_of_ble_eq_true rfl) ?_
  intro X C hE
  have C : zC g X RL cL_does 7 10 225 100 6000 := C
  refine ziload_n C dL_does_0 rfl ?_
  refine zbipush (v := 12) C dL_does_1 (by decide) ?_
  refine zicmp_ge (tgt := 21) C dL_does_3 (by decide) (fun _ => ?_) (fun h => by first | exact absurd (by decide) h | exact absurd h (by decide))
  refine ziload_n C dL_does_21 rfl ?_
  refine zbipush (v := 12) C dL_does_22 (by decide) ?_
  refine zicmp_ne (tgt := 36) C dL_does_24 (by decide) (fun _ => ?_) (fun h => by first | exact absurd (by decide) h | exact absurd h (by decide))
  refine ziload_n C dL_does_36 rfl ?_
  refine zbipush (v := 13) C dL_does_37 (by decide) ?_
  refine zicmp_ne (tgt := 50) C dL_does_39 (by decide) (fun _ => ?_) (fun h => by first | exact absurd (by decide) h | exact absurd h (by decide))
  refine ziload_n C dL_does_50 rfl ?_
  refine zbipush (v := 14) C dL_does_51 (by decide) ?_
  refine zicmp_ne (tgt := 70) C dL_does_53 (by decide) (fun _ => ?_) (fun h => by first | exact absurd (by decide) h | exact absurd h (by decide))
  refine ziload_n C dL_does_70 rfl ?_
  refine zbipush (v := 15) C dL_does_71 (by decide) ?_
  refine zicmp_ne (tgt := 88) C dL_does_73 (by decide) (fun _ => ?_) (fun h => by first | exact absurd (by decide) h | exact absurd h (by decide))
  refine ziload_n C dL_does_88 rfl ?_
  refine zbipush (v := 16) C dL_does_89 (by decide) ?_
  refine zicmp_ne (tgt := 115) C dL_does_91 (by decide) (fun h => by first | exact absurd h (by decide) | exact absurd (by decide) h) (fun _ => ?_)
  refine zaload_n C dL_does_94 rfl ?_
  refine ziload_n C dL_does_95 rfl ?_
  refine ziload_n C dL_does_96 rfl ?_
  refine zjn 108 (fun x => x = b2i (decide (c = 1))) (fun jn => ?_) (fun x hx => ?_)
  · refine ziload C dL_does_97 rfl ?_
    refine zconst (v := 1) C dL_does_99 (by decide) ?_
    refine zicmp_ne (tgt := 107) C dL_does_100 (by decide) (fun hq => ?_) (fun hq => ?_)
    · refine zconst (v := 0) C dL_does_107 (by decide) ?_
      exact jn _ (by rw [decide_eq_false hq]; rfl)
    · refine zconst (v := 1) C dL_does_103 (by decide) ?_
      refine zgoto (tgt := 108) C dL_does_104 (by decide) ?_
      exact jn _ (by first | (rw [decide_eq_true hq]; rfl) | (rw [decide_eq_true (Classical.not_not.mp hq)]; rfl))
  · subst hx
    refine zcallVX C (K_testify a b (decide (c = 1)) hp hok.1 hok.2.2.1 (hok.2.2.2.2.1 _ _)) hy_X7_testify hv_X7_testify hl_L_36 hp.main rfl rfl rfl rfl (by decide) (by decide) (by omega) (by omega) rfl (by exact Nat.le_of_ble_eq_true rfl) dL_does_108 (fun E M1 hx => ?_) (fun v M1 hv => ?_)
    · obtain ⟨hth, hM1⟩ := hx
      have hn0 := exI hth
      rcases hth with ⟨-, rfl⟩ | ⟨-, rfl⟩ | ⟨-, rfl⟩
      · refine zcatch (E := eIO) C hE [] (0, 237, 238, 67) [(0, 237, 244, 71), (0, 237, 250, 73)] rfl (fun z hz => absurd hz List.not_mem_nil) (by decide) (by decide) (by decide) hc_L_67 (fun q => ?_)
        refine zastore (L1 := [_, _, _, _, _, _, _]) C dL_does_238 rfl (Nat.le_of_ble_eq_true rfl) ?_
        refine zldc2 C hk_L_69 dL_does_240 ?_
        exact zend_lv C hE dL_does_243 (by omega) (by omega) (Or.inr ⟨hn0, rfl, hM1⟩)
      · refine zcatch (E := eIA) C hE [(0, 237, 238, 67)] (0, 237, 244, 71) [(0, 237, 250, 73)] rfl (List.forall_mem_cons.mpr ⟨⟨by decide, eIO, by decide, by decide, hc_L_67⟩, fun z hz => absurd hz List.not_mem_nil⟩) (by decide) (by decide) (by decide) hc_L_71 (fun q => ?_)
        refine zastore (L1 := [_, _, _, _, _, _, _]) C dL_does_244 rfl (Nat.le_of_ble_eq_true rfl) ?_
        refine zldc2 C hk_L_69 dL_does_246 ?_
        exact zend_lv C hE dL_does_249 (by omega) (by omega) (Or.inr ⟨hn0, rfl, hM1⟩)
      · refine zcatch (E := eIS) C hE [(0, 237, 238, 67), (0, 237, 244, 71)] (0, 237, 250, 73) [] rfl (List.forall_mem_cons.mpr ⟨⟨by decide, eIO, by decide, by decide, hc_L_67⟩, List.forall_mem_cons.mpr ⟨⟨by decide, eIA, by decide, by decide, hc_L_71⟩, fun z hz => absurd hz List.not_mem_nil⟩⟩) (by decide) (by decide) (by decide) hc_L_73 (fun q => ?_)
        refine zastore (L1 := [_, _, _, _, _, _, _]) C dL_does_250 rfl (Nat.le_of_ble_eq_true rfl) ?_
        refine zldc2 C hk_L_69 dL_does_252 ?_
        exact zend_lv C hE dL_does_255 (by omega) (by omega) (Or.inr ⟨hn0, rfl, hM1⟩)
    · obtain ⟨hx0, rfl, ad1, hm, ha⟩ := hv
      replace hm : dM _ _ _ ad _ := ⟨ad1, hm, ha⟩
      refine zi2l C dL_does_111 ?_
      refine zgoto (tgt := 237) C dL_does_112 (by decide) ?_
      exact zend_lv C hE dL_does_237 (by omega) (by omega) (Or.inl ⟨hx0, rfl, hm⟩)
set_option maxRecDepth 100000 in
set_option maxHeartbeats 1000000 in
theorem does_17 {g : zGh} {K : zK} {X0 : zg → Option va_E} {ad : zg → Nat} {M : zM} (a b c d : Int32) (hp : zP g K X0 ad M) (hok : zOk K) : zCv g yL_does cL_does 7 (some .long) hhD 10 225 mkL [.ref (ad (0, 0)), .int 17, .int a, .int b, .int c, .int d] M 100 6000 (fun v M1 => (dX K 17 a b c d = 0 ∧ v = dA K 17 a b c d ∧ dM g (dK K 17 a b c d) X0 ad M1) ∨ (¬ dX K 17 a b c d = 0 ∧ v = -2100000000 ∧ M1 = M)) := by
  refine zofv [some (.ref (ad (0, 0))), some (.int 17), some (.int a), some (.int b), some (.int c), some (.int d), none] (by decide +kernel) rfl rfl (Nat.le_of_ble_eq_true rfl) ?_
  intro X C hE
  have C : zC g X RL cL_does 7 10 225 100 6000 := C
  refine ziload_n C dL_does_0 rfl ?_
  refine zbipush (v := 12) C dL_does_1 (by decide) ?_
  refine zicmp_ge (tgt := 21) C dL_does_3 (by decide) (fun _ => ?_) (fun h => by first | exact absurd (by decide) h | exact absurd h (by decide))
  refine ziload_n C dL_does_21 rfl ?_
  refine zbipush (v := 12) C dL_does_22 (by decide) ?_
  refine zicmp_ne (tgt := 36) C dL_does_24 (by decide) (fun _ => ?_) (fun h => by first | exact absurd (by decide) h | exact absurd h (by decide))
  refine ziload_n C dL_does_36 rfl ?_
  refine zbipush (v := 13) C dL_does_37 (by decide) ?_
  refine zicmp_ne (tgt := 50) C dL_does_39 (by decide) (fun _ => ?_) (fun h => by first | exact absurd (by decide) h | exact absurd h (by decide))
  refine ziload_n C dL_does_50 rfl ?_
  refine zbipush (v := 14) C dL_does_51 (by decide) ?_
  refine zicmp_ne (tgt := 70) C dL_does_53 (by decide) (fun _ => ?_) (fun h => by first | exact absurd (by decide) h | exact absurd h (by decide))
  refine ziload_n C dL_does_70 rfl ?_
  refine zbipush (v := 15) C dL_does_71 (by decide) ?_
  refine zicmp_ne (tgt := 88) C dL_does_73 (by decide) (fun _ => ?_) (fun h => by first | exact absurd (by decide) h | exact absurd h (by decide))
  refine ziload_n C dL_does_88 rfl ?_
  refine zbipush (v := 16) C dL_does_89 (by decide) ?_
  refine zicmp_ne (tgt := 115) C dL_does_91 (by decide) (fun _ => ?_) (fun h => by first | exact absurd (by decide) h | exact absurd h (by decide))
  refine ziload_n C dL_does_115 rfl ?_
  refine zbipush (v := 17) C dL_does_116 (by decide) ?_
  refine zicmp_ne (tgt := 133) C dL_does_118 (by decide) (fun h => by first | exact absurd h (by decide) | exact absurd (by decide) h) (fun _ => ?_)
  refine zaload_n C dL_does_121 rfl ?_
  refine ziload_n C dL_does_122 rfl ?_
  refine zcallVX C (K_judge a hp hok.1) hy_X7_judge hv_X7_judge hl_L_40 hp.main rfl rfl rfl rfl (by decide) (by decide) (by omega) (by omega) rfl (by exact Nat.le_of_ble_eq_true rfl) dL_does_123 (fun E M1 hx => ?_) (fun v M1 hv => ?_)
  · obtain ⟨hth, hM1⟩ := hx
    have hn0 := exI hth
    rcases hth with ⟨-, rfl⟩ | ⟨-, rfl⟩ | ⟨-, rfl⟩
    · refine zcatch (E := eIO) C hE [] (0, 237, 238, 67) [(0, 237, 244, 71), (0, 237, 250, 73)] rfl (fun z hz => absurd hz List.not_mem_nil) (by decide) (by decide) (by decide) hc_L_67 (fun q => ?_)
      refine zastore (L1 := [_, _, _, _, _, _, _]) C dL_does_238 rfl (Nat.le_of_ble_eq_true rfl) ?_
      refine zldc2 C hk_L_69 dL_does_240 ?_
      exact zend_lv C hE dL_does_243 (by omega) (by omega) (Or.inr ⟨hn0, rfl, hM1⟩)
    · refine zcatch (E := eIA) C hE [(0, 237, 238, 67)] (0, 237, 244, 71) [(0, 237, 250, 73)] rfl (List.forall_mem_cons.mpr ⟨⟨by decide, eIO, by decide, by decide, hc_L_67⟩, fun z hz => absurd hz List.not_mem_nil⟩) (by decide) (by decide) (by decide) hc_L_71 (fun q => ?_)
      refine zastore (L1 := [_, _, _, _, _, _, _]) C dL_does_244 rfl (Nat.le_of_ble_eq_true rfl) ?_
      refine zldc2 C hk_L_69 dL_does_246 ?_
      exact zend_lv C hE dL_does_249 (by omega) (by omega) (Or.inr ⟨hn0, rfl, hM1⟩)
    · refine zcatch (E := eIS) C hE [(0, 237, 238, 67), (0, 237, 244, 71)] (0, 237, 250, 73) [] rfl (List.forall_mem_cons.mpr ⟨⟨by decide, eIO, by decide, by decide, hc_L_67⟩, List.forall_mem_cons.mpr ⟨⟨by decide, eIA, by decide, by decide, hc_L_71⟩, fun z hz => absurd hz List.not_mem_nil⟩⟩) (by decide) (by decide) (by decide) hc_L_73 (fun q => ?_)
      refine zastore (L1 := [_, _, _, _, _, _, _]) C dL_does_250 rfl (Nat.le_of_ble_eq_true rfl) ?_
      refine zldc2 C hk_L_69 dL_does_252 ?_
      exact zend_lv C hE dL_does_255 (by omega) (by omega) (Or.inr ⟨hn0, rfl, hM1⟩)
  · obtain ⟨hx0, rfl, hm⟩ := hv
    replace hm := dM.s hm
    refine zcallS C (l_bit _) hy_L_bit hst_L_bit hl_L_32 rfl rfl (by decide) (by decide) (by omega) (by omega) rfl (by exact Nat.le_of_ble_eq_true rfl) dL_does_126 (fun vb M hb => ?_)
    obtain ⟨rfl, rfl⟩ := hb
    refine zi2l C dL_does_129 ?_
    refine zgoto (tgt := 237) C dL_does_130 (by decide) ?_
    exact zend_lv C hE dL_does_237 (by omega) (by omega) (Or.inl ⟨hx0, rfl, hm⟩)
set_option maxRecDepth 100000 in
set_option maxHeartbeats 1000000 in
theorem does_18 {g : zGh} {K : zK} {X0 : zg → Option va_E} {ad : zg → Nat} {M : zM} (a b c d : Int32) (hp : zP g K X0 ad M) (hok : zOk K) : zCv g yL_does cL_does 7 (some .long) hhD 10 225 mkL [.ref (ad (0, 0)), .int 18, .int a, .int b, .int c, .int d] M 100 6000 (fun v M1 => (dX K 18 a b c d = 0 ∧ v = dA K 18 a b c d ∧ dM g (dK K 18 a b c d) X0 ad M1) ∨ (¬ dX K 18 a b c d = 0 ∧ v = -2100000000 ∧ M1 = M)) := by
  refine zofv [some (.ref (ad (0, 0))), some (.int 18), some (.int a), some (.int b), some (.int c), some (.int d), none] (by decide +kernel) rfl rfl (Nat.le_of_ble_eq_true rfl) ?_
  intro X C hE
  have C : zC g X RL cL_does 7 10 225 100 6000 := C
  refine ziload_n C dL_does_0 rfl ?_
  refine zbipush (v := 12) C dL_does_1 (by decide) ?_
  refine zicmp_ge (tgt := 21) C dL_does_3 (by decide) (fun _ => ?_) (fun h => by first | exact absurd (by decide) h | exact absurd h (by decide))
  refine ziload_n C dL_does_21 rfl ?_
  refine zbipush (v := 12) C dL_does_22 (by decide) ?_
  refine zicmp_ne (tgt := 36) C dL_does_24 (by decide) (fun _ => ?_) (fun h => by first | exact absurd (by decide) h | exact absurd h (by decide))
  refine ziload_n C dL_does_36 rfl ?_
  refine zbipush (v := 13) C dL_does_37 (by decide) ?_
  refine zicmp_ne (tgt := 50) C dL_does_39 (by decide) (fun _ => ?_) (fun h => by first | exact absurd (by decide) h | exact absurd h (by decide))
  refine ziload_n C dL_does_50 rfl ?_
  refine zbipush (v := 14) C dL_does_51 (by decide) ?_
  refine zicmp_ne (tgt := 70) C dL_does_53 (by decide) (fun _ => ?_) (fun h => by first | exact absurd (by decide) h | exact absurd h (by decide))
  refine ziload_n C dL_does_70 rfl ?_
  refine zbipush (v := 15) C dL_does_71 (by decide) ?_
  refine zicmp_ne (tgt := 88) C dL_does_73 (by decide) (fun _ => ?_) (fun h => by first | exact absurd (by decide) h | exact absurd h (by decide))
  refine ziload_n C dL_does_88 rfl ?_
  refine zbipush (v := 16) C dL_does_89 (by decide) ?_
  refine zicmp_ne (tgt := 115) C dL_does_91 (by decide) (fun _ => ?_) (fun h => by first | exact absurd (by decide) h | exact absurd h (by decide))
  refine ziload_n C dL_does_115 rfl ?_
  refine zbipush (v := 17) C dL_does_116 (by decide) ?_
  refine zicmp_ne (tgt := 133) C dL_does_118 (by decide) (fun _ => ?_) (fun h => by first | exact absurd (by decide) h | exact absurd h (by decide))
  refine ziload_n C dL_does_133 rfl ?_
  refine zbipush (v := 18) C dL_does_134 (by decide) ?_
  refine zicmp_ne (tgt := 151) C dL_does_136 (by decide) (fun h => by first | exact absurd h (by decide) | exact absurd (by decide) h) (fun _ => ?_)
  refine zaload_n C dL_does_139 rfl ?_
  refine ziload_n C dL_does_140 rfl ?_
  refine zcallVX C (K_appeal a hp hok.1) hy_X7_appeal hv_X7_appeal hl_L_43 hp.main rfl rfl rfl rfl (by decide) (by decide) (by omega) (by omega) rfl (by exact Nat.le_of_ble_eq_true rfl) dL_does_141 (fun E M1 hx => ?_) (fun v M1 hv => ?_)
  · obtain ⟨hth, hM1⟩ := hx
    have hn0 := exI hth
    rcases hth with ⟨-, rfl⟩ | ⟨-, rfl⟩ | ⟨-, rfl⟩
    · refine zcatch (E := eIO) C hE [] (0, 237, 238, 67) [(0, 237, 244, 71), (0, 237, 250, 73)] rfl (fun z hz => absurd hz List.not_mem_nil) (by decide) (by decide) (by decide) hc_L_67 (fun q => ?_)
      refine zastore (L1 := [_, _, _, _, _, _, _]) C dL_does_238 rfl (Nat.le_of_ble_eq_true rfl) ?_
      refine zldc2 C hk_L_69 dL_does_240 ?_
      exact zend_lv C hE dL_does_243 (by omega) (by omega) (Or.inr ⟨hn0, rfl, hM1⟩)
    · refine zcatch (E := eIA) C hE [(0, 237, 238, 67)] (0, 237, 244, 71) [(0, 237, 250, 73)] rfl (List.forall_mem_cons.mpr ⟨⟨by decide, eIO, by decide, by decide, hc_L_67⟩, fun z hz => absurd hz List.not_mem_nil⟩) (by decide) (by decide) (by decide) hc_L_71 (fun q => ?_)
      refine zastore (L1 := [_, _, _, _, _, _, _]) C dL_does_244 rfl (Nat.le_of_ble_eq_true rfl) ?_
      refine zldc2 C hk_L_69 dL_does_246 ?_
      exact zend_lv C hE dL_does_249 (by omega) (by omega) (Or.inr ⟨hn0, rfl, hM1⟩)
    · refine zcatch (E := eIS) C hE [(0, 237, 238, 67), (0, 237, 244, 71)] (0, 237, 250, 73) [] rfl (List.forall_mem_cons.mpr ⟨⟨by decide, eIO, by decide, by decide, hc_L_67⟩, List.forall_mem_cons.mpr ⟨⟨by decide, eIA, by decide, by decide, hc_L_71⟩, fun z hz => absurd hz List.not_mem_nil⟩⟩) (by decide) (by decide) (by decide) hc_L_73 (fun q => ?_)
      refine zastore (L1 := [_, _, _, _, _, _, _]) C dL_does_250 rfl (Nat.le_of_ble_eq_true rfl) ?_
      refine zldc2 C hk_L_69 dL_does_252 ?_
      exact zend_lv C hE dL_does_255 (by omega) (by omega) (Or.inr ⟨hn0, rfl, hM1⟩)
  · obtain ⟨hx0, rfl, hm⟩ := hv
    replace hm := dM.s hm
    refine zcallS C (l_bit _) hy_L_bit hst_L_bit hl_L_32 rfl rfl (by decide) (by decide) (by omega) (by omega) rfl (by exact Nat.le_of_ble_eq_true rfl) dL_does_144 (fun vb M hb => ?_)
    obtain ⟨rfl, rfl⟩ := hb
    refine zi2l C dL_does_147 ?_
    refine zgoto (tgt := 237) C dL_does_148 (by decide) ?_
    exact zend_lv C hE dL_does_237 (by omega) (by omega) (Or.inl ⟨hx0, rfl, hm⟩)
set_option maxRecDepth 100000 in
set_option maxHeartbeats 1000000 in
theorem does_19 {g : zGh} {K : zK} {X0 : zg → Option va_E} {ad : zg → Nat} {M : zM} (a b c d : Int32) (hp : zP g K X0 ad M) (hok : zOk K) : zCv g yL_does cL_does 7 (some .long) hhD 10 225 mkL [.ref (ad (0, 0)), .int 19, .int a, .int b, .int c, .int d] M 100 6000 (fun v M1 => (dX K 19 a b c d = 0 ∧ v = dA K 19 a b c d ∧ dM g (dK K 19 a b c d) X0 ad M1) ∨ (¬ dX K 19 a b c d = 0 ∧ v = -2100000000 ∧ M1 = M)) := by
  refine zofv [some (.ref (ad (0, 0))), some (.int 19), some (.int a), some (.int b), some (.int c), some (.int d), none] (by decide +kernel) rfl rfl (Nat.le_of_ble_eq_true rfl) ?_
  intro X C hE
  have C : zC g X RL cL_does 7 10 225 100 6000 := C
  refine ziload_n C dL_does_0 rfl ?_
  refine zbipush (v := 12) C dL_does_1 (by decide) ?_
  refine zicmp_ge (tgt := 21) C dL_does_3 (by decide) (fun _ => ?_) (fun h => by first | exact absurd (by decide) h | exact absurd h (by decide))
  refine ziload_n C dL_does_21 rfl ?_
  refine zbipush (v := 12) C dL_does_22 (by decide) ?_
  refine zicmp_ne (tgt := 36) C dL_does_24 (by decide) (fun _ => ?_) (fun h => by first | exact absurd (by decide) h | exact absurd h (by decide))
  refine ziload_n C dL_does_36 rfl ?_
  refine zbipush (v := 13) C dL_does_37 (by decide) ?_
  refine zicmp_ne (tgt := 50) C dL_does_39 (by decide) (fun _ => ?_) (fun h => by first | exact absurd (by decide) h | exact absurd h (by decide))
  refine ziload_n C dL_does_50 rfl ?_
  refine zbipush (v := 14) C dL_does_51 (by decide) ?_
  refine zicmp_ne (tgt := 70) C dL_does_53 (by decide) (fun _ => ?_) (fun h => by first | exact absurd (by decide) h | exact absurd h (by decide))
  refine ziload_n C dL_does_70 rfl ?_
  refine zbipush (v := 15) C dL_does_71 (by decide) ?_
  refine zicmp_ne (tgt := 88) C dL_does_73 (by decide) (fun _ => ?_) (fun h => by first | exact absurd (by decide) h | exact absurd h (by decide))
  refine ziload_n C dL_does_88 rfl ?_
  refine zbipush (v := 16) C dL_does_89 (by decide) ?_
  refine zicmp_ne (tgt := 115) C dL_does_91 (by decide) (fun _ => ?_) (fun h => by first | exact absurd (by decide) h | exact absurd h (by decide))
  refine ziload_n C dL_does_115 rfl ?_
  refine zbipush (v := 17) C dL_does_116 (by decide) ?_
  refine zicmp_ne (tgt := 133) C dL_does_118 (by decide) (fun _ => ?_) (fun h => by first | exact absurd (by decide) h | exact absurd h (by decide))
  refine ziload_n C dL_does_133 rfl ?_
  refine zbipush (v := 18) C dL_does_134 (by decide) ?_
  refine zicmp_ne (tgt := 151) C dL_does_136 (by decide) (fun _ => ?_) (fun h => by first | exact absurd (by decide) h | exact absurd h (by decide))
  refine ziload_n C dL_does_151 rfl ?_
  refine zbipush (v := 19) C dL_does_152 (by decide) ?_
  refine zicmp_ne (tgt := 165) C dL_does_154 (by decide) (fun h => by first | exact absurd h (by decide) | exact absurd (by decide) h) (fun _ => ?_)
  refine zaload_n C dL_does_157 rfl ?_
  refine ziload_n C dL_does_158 rfl ?_
  refine zcallVX C (K_execute a hp hok.1) hy_X7_execute hv_X7_execute hl_L_46 hp.main rfl rfl rfl rfl (by decide) (by decide) (by omega) (by omega) rfl (by exact Nat.le_of_ble_eq_true rfl) dL_does_159 (fun E M1 hx => ?_) (fun v M1 hv => ?_)
  · obtain ⟨hth, hM1⟩ := hx
    have hn0 := exI hth
    rcases hth with ⟨-, rfl⟩ | ⟨-, rfl⟩ | ⟨-, rfl⟩
    · refine zcatch (E := eIO) C hE [] (0, 237, 238, 67) [(0, 237, 244, 71), (0, 237, 250, 73)] rfl (fun z hz => absurd hz List.not_mem_nil) (by decide) (by decide) (by decide) hc_L_67 (fun q => ?_)
      refine zastore (L1 := [_, _, _, _, _, _, _]) C dL_does_238 rfl (Nat.le_of_ble_eq_true rfl) ?_
      refine zldc2 C hk_L_69 dL_does_240 ?_
      exact zend_lv C hE dL_does_243 (by omega) (by omega) (Or.inr ⟨hn0, rfl, hM1⟩)
    · refine zcatch (E := eIA) C hE [(0, 237, 238, 67)] (0, 237, 244, 71) [(0, 237, 250, 73)] rfl (List.forall_mem_cons.mpr ⟨⟨by decide, eIO, by decide, by decide, hc_L_67⟩, fun z hz => absurd hz List.not_mem_nil⟩) (by decide) (by decide) (by decide) hc_L_71 (fun q => ?_)
      refine zastore (L1 := [_, _, _, _, _, _, _]) C dL_does_244 rfl (Nat.le_of_ble_eq_true rfl) ?_
      refine zldc2 C hk_L_69 dL_does_246 ?_
      exact zend_lv C hE dL_does_249 (by omega) (by omega) (Or.inr ⟨hn0, rfl, hM1⟩)
    · refine zcatch (E := eIS) C hE [(0, 237, 238, 67), (0, 237, 244, 71)] (0, 237, 250, 73) [] rfl (List.forall_mem_cons.mpr ⟨⟨by decide, eIO, by decide, by decide, hc_L_67⟩, List.forall_mem_cons.mpr ⟨⟨by decide, eIA, by decide, by decide, hc_L_71⟩, fun z hz => absurd hz List.not_mem_nil⟩⟩) (by decide) (by decide) (by decide) hc_L_73 (fun q => ?_)
      refine zastore (L1 := [_, _, _, _, _, _, _]) C dL_does_250 rfl (Nat.le_of_ble_eq_true rfl) ?_
      refine zldc2 C hk_L_69 dL_does_252 ?_
      exact zend_lv C hE dL_does_255 (by omega) (by omega) (Or.inr ⟨hn0, rfl, hM1⟩)
  · obtain ⟨hx0, rfl, hm⟩ := hv
    replace hm := dM.s hm
    refine zgoto (tgt := 237) C dL_does_162 (by decide) ?_
    exact zend_lv C hE dL_does_237 (by omega) (by omega) (Or.inl ⟨hx0, rfl, hm⟩)
set_option maxRecDepth 100000 in
set_option maxHeartbeats 1000000 in
theorem does_20 {g : zGh} {K : zK} {X0 : zg → Option va_E} {ad : zg → Nat} {M : zM} (a b c d : Int32) (hp : zP g K X0 ad M) (hok : zOk K) : zCv g yL_does cL_does 7 (some .long) hhD 10 225 mkL [.ref (ad (0, 0)), .int 20, .int a, .int b, .int c, .int d] M 8 48 (fun v M1 => v = dR K 20 a b c d ∧ M1 = M) := by
  refine zofv [some (.ref (ad (0, 0))), some (.int 20), some (.int a), some (.int b), some (.int c), some (.int d), none] (by decide +kernel) rfl rfl (Nat.le_of_ble_eq_true rfl) ?_
  intro X C hE
  have C : zC g X RL cL_does 7 10 225 8 48 := C
  refine ziload_n C dL_does_0 rfl ?_
  refine zbipush (v := 12) C dL_does_1 (by decide) ?_
  refine zicmp_ge (tgt := 21) C dL_does_3 (by decide) (fun _ => ?_) (fun h => by first | exact absurd (by decide) h | exact absurd h (by decide))
  refine ziload_n C dL_does_21 rfl ?_
  refine zbipush (v := 12) C dL_does_22 (by decide) ?_
  refine zicmp_ne (tgt := 36) C dL_does_24 (by decide) (fun _ => ?_) (fun h => by first | exact absurd (by decide) h | exact absurd h (by decide))
  refine ziload_n C dL_does_36 rfl ?_
  refine zbipush (v := 13) C dL_does_37 (by decide) ?_
  refine zicmp_ne (tgt := 50) C dL_does_39 (by decide) (fun _ => ?_) (fun h => by first | exact absurd (by decide) h | exact absurd h (by decide))
  refine ziload_n C dL_does_50 rfl ?_
  refine zbipush (v := 14) C dL_does_51 (by decide) ?_
  refine zicmp_ne (tgt := 70) C dL_does_53 (by decide) (fun _ => ?_) (fun h => by first | exact absurd (by decide) h | exact absurd h (by decide))
  refine ziload_n C dL_does_70 rfl ?_
  refine zbipush (v := 15) C dL_does_71 (by decide) ?_
  refine zicmp_ne (tgt := 88) C dL_does_73 (by decide) (fun _ => ?_) (fun h => by first | exact absurd (by decide) h | exact absurd h (by decide))
  refine ziload_n C dL_does_88 rfl ?_
  refine zbipush (v := 16) C dL_does_89 (by decide) ?_
  refine zicmp_ne (tgt := 115) C dL_does_91 (by decide) (fun _ => ?_) (fun h => by first | exact absurd (by decide) h | exact absurd h (by decide))
  refine ziload_n C dL_does_115 rfl ?_
  refine zbipush (v := 17) C dL_does_116 (by decide) ?_
  refine zicmp_ne (tgt := 133) C dL_does_118 (by decide) (fun _ => ?_) (fun h => by first | exact absurd (by decide) h | exact absurd h (by decide))
  refine ziload_n C dL_does_133 rfl ?_
  refine zbipush (v := 18) C dL_does_134 (by decide) ?_
  refine zicmp_ne (tgt := 151) C dL_does_136 (by decide) (fun _ => ?_) (fun h => by first | exact absurd (by decide) h | exact absurd h (by decide))
  refine ziload_n C dL_does_151 rfl ?_
  refine zbipush (v := 19) C dL_does_152 (by decide) ?_
  refine zicmp_ne (tgt := 165) C dL_does_154 (by decide) (fun _ => ?_) (fun h => by first | exact absurd (by decide) h | exact absurd h (by decide))
  refine ziload_n C dL_does_165 rfl ?_
  refine zbipush (v := 20) C dL_does_166 (by decide) ?_
  refine zicmp_ne (tgt := 184) C dL_does_168 (by decide) (fun h => by first | exact absurd h (by decide) | exact absurd (by decide) h) (fun _ => ?_)
  refine zaload_n C dL_does_171 rfl ?_
  refine ziload_n C dL_does_172 rfl ?_
  refine ziload_n C dL_does_173 rfl ?_
  refine zcallVX C (K_wins a b hp hok.1) hy_X7_wins hv_X7_wins hl_L_49 hp.main rfl rfl rfl rfl (by decide) (by decide) (by omega) (by omega) rfl (by exact Nat.le_of_ble_eq_true rfl) dL_does_174 (fun E M1 hx => ?_) (fun v M1 hv => ?_)
  · obtain ⟨hth, hM1⟩ := hx
    have hn0 := exI hth
    rcases hth with ⟨-, rfl⟩ | ⟨-, rfl⟩ | ⟨-, rfl⟩
    · refine zcatch (E := eIO) C hE [] (0, 237, 238, 67) [(0, 237, 244, 71), (0, 237, 250, 73)] rfl (fun z hz => absurd hz List.not_mem_nil) (by decide) (by decide) (by decide) hc_L_67 (fun q => ?_)
      refine zastore (L1 := [_, _, _, _, _, _, _]) C dL_does_238 rfl (Nat.le_of_ble_eq_true rfl) ?_
      refine zldc2 C hk_L_69 dL_does_240 ?_
      exact zend_lv C hE dL_does_243 (by omega) (by omega) ⟨(by rw [dR, if_neg (show ¬ dX K 20 a b c d = 0 from hn0)]), hM1⟩
    · refine zcatch (E := eIA) C hE [(0, 237, 238, 67)] (0, 237, 244, 71) [(0, 237, 250, 73)] rfl (List.forall_mem_cons.mpr ⟨⟨by decide, eIO, by decide, by decide, hc_L_67⟩, fun z hz => absurd hz List.not_mem_nil⟩) (by decide) (by decide) (by decide) hc_L_71 (fun q => ?_)
      refine zastore (L1 := [_, _, _, _, _, _, _]) C dL_does_244 rfl (Nat.le_of_ble_eq_true rfl) ?_
      refine zldc2 C hk_L_69 dL_does_246 ?_
      exact zend_lv C hE dL_does_249 (by omega) (by omega) ⟨(by rw [dR, if_neg (show ¬ dX K 20 a b c d = 0 from hn0)]), hM1⟩
    · refine zcatch (E := eIS) C hE [(0, 237, 238, 67), (0, 237, 244, 71)] (0, 237, 250, 73) [] rfl (List.forall_mem_cons.mpr ⟨⟨by decide, eIO, by decide, by decide, hc_L_67⟩, List.forall_mem_cons.mpr ⟨⟨by decide, eIA, by decide, by decide, hc_L_71⟩, fun z hz => absurd hz List.not_mem_nil⟩⟩) (by decide) (by decide) (by decide) hc_L_73 (fun q => ?_)
      refine zastore (L1 := [_, _, _, _, _, _, _]) C dL_does_250 rfl (Nat.le_of_ble_eq_true rfl) ?_
      refine zldc2 C hk_L_69 dL_does_252 ?_
      exact zend_lv C hE dL_does_255 (by omega) (by omega) ⟨(by rw [dR, if_neg (show ¬ dX K 20 a b c d = 0 from hn0)]), hM1⟩
  · obtain ⟨hx0, rfl, hm⟩ := hv
    refine zcallS C (l_bit _) hy_L_bit hst_L_bit hl_L_32 rfl rfl (by decide) (by decide) (by omega) (by omega) rfl (by exact Nat.le_of_ble_eq_true rfl) dL_does_177 (fun vb M hb => ?_)
    obtain ⟨rfl, rfl⟩ := hb
    refine zi2l C dL_does_180 ?_
    refine zgoto (tgt := 237) C dL_does_181 (by decide) ?_
    exact zend_lv C hE dL_does_237 (by omega) (by omega) ⟨(by rw [dR, if_pos (show dX K 20 a b c d = 0 from hx0)]; rfl), hm⟩
set_option maxRecDepth 100000 in
set_option maxHeartbeats 1000000 in
theorem does_21 {g : zGh} {K : zK} {X0 : zg → Option va_E} {ad : zg → Nat} {M : zM} (a b c d : Int32) (hp : zP g K X0 ad M) (hok : zOk K) : zCv g yL_does cL_does 7 (some .long) hhD 10 225 mkL [.ref (ad (0, 0)), .int 21, .int a, .int b, .int c, .int d] M 8 48 (fun v M1 => v = dR K 21 a b c d ∧ M1 = M) := by
  refine zofv [some (.ref (ad (0, 0))), some (.int 21), some (.int a), some (.int b), some (.int c), some (.int d), none] (by decide +kernel) rfl rfl (Nat.le_of_ble_eq_true rfl) ?_
  intro X C hE
  have C : zC g X RL cL_does 7 10 225 8 48 := C
  refine ziload_n C dL_does_0 rfl ?_
  refine zbipush (v := 12) C dL_does_1 (by decide) ?_
  refine zicmp_ge (tgt := 21) C dL_does_3 (by decide) (fun _ => ?_) (fun h => by first | exact absurd (by decide) h | exact absurd h (by decide))
  refine ziload_n C dL_does_21 rfl ?_
  refine zbipush (v := 12) C dL_does_22 (by decide) ?_
  refine zicmp_ne (tgt := 36) C dL_does_24 (by decide) (fun _ => ?_) (fun h => by first | exact absurd (by decide) h | exact absurd h (by decide))
  refine ziload_n C dL_does_36 rfl ?_
  refine zbipush (v := 13) C dL_does_37 (by decide) ?_
  refine zicmp_ne (tgt := 50) C dL_does_39 (by decide) (fun _ => ?_) (fun h => by first | exact absurd (by decide) h | exact absurd h (by decide))
  refine ziload_n C dL_does_50 rfl ?_
  refine zbipush (v := 14) C dL_does_51 (by decide) ?_
  refine zicmp_ne (tgt := 70) C dL_does_53 (by decide) (fun _ => ?_) (fun h => by first | exact absurd (by decide) h | exact absurd h (by decide))
  refine ziload_n C dL_does_70 rfl ?_
  refine zbipush (v := 15) C dL_does_71 (by decide) ?_
  refine zicmp_ne (tgt := 88) C dL_does_73 (by decide) (fun _ => ?_) (fun h => by first | exact absurd (by decide) h | exact absurd h (by decide))
  refine ziload_n C dL_does_88 rfl ?_
  refine zbipush (v := 16) C dL_does_89 (by decide) ?_
  refine zicmp_ne (tgt := 115) C dL_does_91 (by decide) (fun _ => ?_) (fun h => by first | exact absurd (by decide) h | exact absurd h (by decide))
  refine ziload_n C dL_does_115 rfl ?_
  refine zbipush (v := 17) C dL_does_116 (by decide) ?_
  refine zicmp_ne (tgt := 133) C dL_does_118 (by decide) (fun _ => ?_) (fun h => by first | exact absurd (by decide) h | exact absurd h (by decide))
  refine ziload_n C dL_does_133 rfl ?_
  refine zbipush (v := 18) C dL_does_134 (by decide) ?_
  refine zicmp_ne (tgt := 151) C dL_does_136 (by decide) (fun _ => ?_) (fun h => by first | exact absurd (by decide) h | exact absurd h (by decide))
  refine ziload_n C dL_does_151 rfl ?_
  refine zbipush (v := 19) C dL_does_152 (by decide) ?_
  refine zicmp_ne (tgt := 165) C dL_does_154 (by decide) (fun _ => ?_) (fun h => by first | exact absurd (by decide) h | exact absurd h (by decide))
  refine ziload_n C dL_does_165 rfl ?_
  refine zbipush (v := 20) C dL_does_166 (by decide) ?_
  refine zicmp_ne (tgt := 184) C dL_does_168 (by decide) (fun _ => ?_) (fun h => by first | exact absurd (by decide) h | exact absurd h (by decide))
  refine ziload_n C dL_does_184 rfl ?_
  refine zbipush (v := 21) C dL_does_185 (by decide) ?_
  refine zicmp_ne (tgt := 199) C dL_does_187 (by decide) (fun h => by first | exact absurd h (by decide) | exact absurd (by decide) h) (fun _ => ?_)
  refine zaload_n C dL_does_190 rfl ?_
  refine ziload_n C dL_does_191 rfl ?_
  refine ziload_n C dL_does_192 rfl ?_
  refine zcallVX C (K_ofPerson a b hp hok.1) hy_X7_ofPerson hv_X7_ofPerson hl_L_53 hp.main rfl rfl rfl rfl (by decide) (by decide) (by omega) (by omega) rfl (by exact Nat.le_of_ble_eq_true rfl) dL_does_193 (fun E M1 hx => ?_) (fun v M1 hv => ?_)
  · obtain ⟨hth, hM1⟩ := hx
    have hn0 := exI hth
    rcases hth with ⟨-, rfl⟩ | ⟨-, rfl⟩ | ⟨-, rfl⟩
    · refine zcatch (E := eIO) C hE [] (0, 237, 238, 67) [(0, 237, 244, 71), (0, 237, 250, 73)] rfl (fun z hz => absurd hz List.not_mem_nil) (by decide) (by decide) (by decide) hc_L_67 (fun q => ?_)
      refine zastore (L1 := [_, _, _, _, _, _, _]) C dL_does_238 rfl (Nat.le_of_ble_eq_true rfl) ?_
      refine zldc2 C hk_L_69 dL_does_240 ?_
      exact zend_lv C hE dL_does_243 (by omega) (by omega) ⟨(by rw [dR, if_neg (show ¬ dX K 21 a b c d = 0 from hn0)]), hM1⟩
    · refine zcatch (E := eIA) C hE [(0, 237, 238, 67)] (0, 237, 244, 71) [(0, 237, 250, 73)] rfl (List.forall_mem_cons.mpr ⟨⟨by decide, eIO, by decide, by decide, hc_L_67⟩, fun z hz => absurd hz List.not_mem_nil⟩) (by decide) (by decide) (by decide) hc_L_71 (fun q => ?_)
      refine zastore (L1 := [_, _, _, _, _, _, _]) C dL_does_244 rfl (Nat.le_of_ble_eq_true rfl) ?_
      refine zldc2 C hk_L_69 dL_does_246 ?_
      exact zend_lv C hE dL_does_249 (by omega) (by omega) ⟨(by rw [dR, if_neg (show ¬ dX K 21 a b c d = 0 from hn0)]), hM1⟩
    · refine zcatch (E := eIS) C hE [(0, 237, 238, 67), (0, 237, 244, 71)] (0, 237, 250, 73) [] rfl (List.forall_mem_cons.mpr ⟨⟨by decide, eIO, by decide, by decide, hc_L_67⟩, List.forall_mem_cons.mpr ⟨⟨by decide, eIA, by decide, by decide, hc_L_71⟩, fun z hz => absurd hz List.not_mem_nil⟩⟩) (by decide) (by decide) (by decide) hc_L_73 (fun q => ?_)
      refine zastore (L1 := [_, _, _, _, _, _, _]) C dL_does_250 rfl (Nat.le_of_ble_eq_true rfl) ?_
      refine zldc2 C hk_L_69 dL_does_252 ?_
      exact zend_lv C hE dL_does_255 (by omega) (by omega) ⟨(by rw [dR, if_neg (show ¬ dX K 21 a b c d = 0 from hn0)]), hM1⟩
  · obtain ⟨hx0, rfl, hm⟩ := hv
    refine zgoto (tgt := 237) C dL_does_196 (by decide) ?_
    exact zend_lv C hE dL_does_237 (by omega) (by omega) ⟨(by rw [dR, if_pos (show dX K 21 a b c d = 0 from hx0)]; rfl), hm⟩
set_option maxRecDepth 100000 in
set_option maxHeartbeats 1000000 in
theorem does_22 {g : zGh} {K : zK} {X0 : zg → Option va_E} {ad : zg → Nat} {M : zM} (a b c d : Int32) (hp : zP g K X0 ad M) (hok : zOk K) : zCv g yL_does cL_does 7 (some .long) hhD 10 225 mkL [.ref (ad (0, 0)), .int 22, .int a, .int b, .int c, .int d] M 8 48 (fun v M1 => v = dR K 22 a b c d ∧ M1 = M) := by
  refine zofv [some (.ref (ad (0, 0))), some (.int 22), some (.int a), some (.int b), some (.int c), some (.int d), none] (by decide +kernel) rfl rfl (Nat.le_of_ble_eq_true rfl) ?_
  intro X C hE
  have C : zC g X RL cL_does 7 10 225 8 48 := C
  refine ziload_n C dL_does_0 rfl ?_
  refine zbipush (v := 12) C dL_does_1 (by decide) ?_
  refine zicmp_ge (tgt := 21) C dL_does_3 (by decide) (fun _ => ?_) (fun h => by first | exact absurd (by decide) h | exact absurd h (by decide))
  refine ziload_n C dL_does_21 rfl ?_
  refine zbipush (v := 12) C dL_does_22 (by decide) ?_
  refine zicmp_ne (tgt := 36) C dL_does_24 (by decide) (fun _ => ?_) (fun h => by first | exact absurd (by decide) h | exact absurd h (by decide))
  refine ziload_n C dL_does_36 rfl ?_
  refine zbipush (v := 13) C dL_does_37 (by decide) ?_
  refine zicmp_ne (tgt := 50) C dL_does_39 (by decide) (fun _ => ?_) (fun h => by first | exact absurd (by decide) h | exact absurd h (by decide))
  refine ziload_n C dL_does_50 rfl ?_
  refine zbipush (v := 14) C dL_does_51 (by decide) ?_
  refine zicmp_ne (tgt := 70) C dL_does_53 (by decide) (fun _ => ?_) (fun h => by first | exact absurd (by decide) h | exact absurd h (by decide))
  refine ziload_n C dL_does_70 rfl ?_
  refine zbipush (v := 15) C dL_does_71 (by decide) ?_
  refine zicmp_ne (tgt := 88) C dL_does_73 (by decide) (fun _ => ?_) (fun h => by first | exact absurd (by decide) h | exact absurd h (by decide))
  refine ziload_n C dL_does_88 rfl ?_
  refine zbipush (v := 16) C dL_does_89 (by decide) ?_
  refine zicmp_ne (tgt := 115) C dL_does_91 (by decide) (fun _ => ?_) (fun h => by first | exact absurd (by decide) h | exact absurd h (by decide))
  refine ziload_n C dL_does_115 rfl ?_
  refine zbipush (v := 17) C dL_does_116 (by decide) ?_
  refine zicmp_ne (tgt := 133) C dL_does_118 (by decide) (fun _ => ?_) (fun h => by first | exact absurd (by decide) h | exact absurd h (by decide))
  refine ziload_n C dL_does_133 rfl ?_
  refine zbipush (v := 18) C dL_does_134 (by decide) ?_
  refine zicmp_ne (tgt := 151) C dL_does_136 (by decide) (fun _ => ?_) (fun h => by first | exact absurd (by decide) h | exact absurd h (by decide))
  refine ziload_n C dL_does_151 rfl ?_
  refine zbipush (v := 19) C dL_does_152 (by decide) ?_
  refine zicmp_ne (tgt := 165) C dL_does_154 (by decide) (fun _ => ?_) (fun h => by first | exact absurd (by decide) h | exact absurd h (by decide))
  refine ziload_n C dL_does_165 rfl ?_
  refine zbipush (v := 20) C dL_does_166 (by decide) ?_
  refine zicmp_ne (tgt := 184) C dL_does_168 (by decide) (fun _ => ?_) (fun h => by first | exact absurd (by decide) h | exact absurd h (by decide))
  refine ziload_n C dL_does_184 rfl ?_
  refine zbipush (v := 21) C dL_does_185 (by decide) ?_
  refine zicmp_ne (tgt := 199) C dL_does_187 (by decide) (fun _ => ?_) (fun h => by first | exact absurd (by decide) h | exact absurd h (by decide))
  refine ziload_n C dL_does_199 rfl ?_
  refine zbipush (v := 22) C dL_does_200 (by decide) ?_
  refine zicmp_ne (tgt := 215) C dL_does_202 (by decide) (fun h => by first | exact absurd h (by decide) | exact absurd (by decide) h) (fun _ => ?_)
  refine zaload_n C dL_does_205 rfl ?_
  refine ziload_n C dL_does_206 rfl ?_
  refine ziload_n C dL_does_207 rfl ?_
  refine zcallVX C (K_ofMarriage a b hp hok.1) hy_X7_ofMarriage hv_X7_ofMarriage hl_L_56 hp.main rfl rfl rfl rfl (by decide) (by decide) (by omega) (by omega) rfl (by exact Nat.le_of_ble_eq_true rfl) dL_does_208 (fun E M1 hx => ?_) (fun v M1 hv => ?_)
  · obtain ⟨hth, hM1⟩ := hx
    have hn0 := exI hth
    rcases hth with ⟨-, rfl⟩ | ⟨-, rfl⟩ | ⟨-, rfl⟩
    · refine zcatch (E := eIO) C hE [] (0, 237, 238, 67) [(0, 237, 244, 71), (0, 237, 250, 73)] rfl (fun z hz => absurd hz List.not_mem_nil) (by decide) (by decide) (by decide) hc_L_67 (fun q => ?_)
      refine zastore (L1 := [_, _, _, _, _, _, _]) C dL_does_238 rfl (Nat.le_of_ble_eq_true rfl) ?_
      refine zldc2 C hk_L_69 dL_does_240 ?_
      exact zend_lv C hE dL_does_243 (by omega) (by omega) ⟨(by rw [dR, if_neg (show ¬ dX K 22 a b c d = 0 from hn0)]), hM1⟩
    · refine zcatch (E := eIA) C hE [(0, 237, 238, 67)] (0, 237, 244, 71) [(0, 237, 250, 73)] rfl (List.forall_mem_cons.mpr ⟨⟨by decide, eIO, by decide, by decide, hc_L_67⟩, fun z hz => absurd hz List.not_mem_nil⟩) (by decide) (by decide) (by decide) hc_L_71 (fun q => ?_)
      refine zastore (L1 := [_, _, _, _, _, _, _]) C dL_does_244 rfl (Nat.le_of_ble_eq_true rfl) ?_
      refine zldc2 C hk_L_69 dL_does_246 ?_
      exact zend_lv C hE dL_does_249 (by omega) (by omega) ⟨(by rw [dR, if_neg (show ¬ dX K 22 a b c d = 0 from hn0)]), hM1⟩
    · refine zcatch (E := eIS) C hE [(0, 237, 238, 67), (0, 237, 244, 71)] (0, 237, 250, 73) [] rfl (List.forall_mem_cons.mpr ⟨⟨by decide, eIO, by decide, by decide, hc_L_67⟩, List.forall_mem_cons.mpr ⟨⟨by decide, eIA, by decide, by decide, hc_L_71⟩, fun z hz => absurd hz List.not_mem_nil⟩⟩) (by decide) (by decide) (by decide) hc_L_73 (fun q => ?_)
      refine zastore (L1 := [_, _, _, _, _, _, _]) C dL_does_250 rfl (Nat.le_of_ble_eq_true rfl) ?_
      refine zldc2 C hk_L_69 dL_does_252 ?_
      exact zend_lv C hE dL_does_255 (by omega) (by omega) ⟨(by rw [dR, if_neg (show ¬ dX K 22 a b c d = 0 from hn0)]), hM1⟩
  · obtain ⟨hx0, rfl, hm⟩ := hv
    refine zi2l C dL_does_211 ?_
    refine zgoto (tgt := 237) C dL_does_212 (by decide) ?_
    exact zend_lv C hE dL_does_237 (by omega) (by omega) ⟨(by rw [dR, if_pos (show dX K 22 a b c d = 0 from hx0)]; rfl), hm⟩
set_option maxRecDepth 100000 in
set_option maxHeartbeats 1000000 in
theorem does_23 {g : zGh} {K : zK} {X0 : zg → Option va_E} {ad : zg → Nat} {M : zM} (a b c d : Int32) (hp : zP g K X0 ad M) (hok : zOk K) : zCv g yL_does cL_does 7 (some .long) hhD 10 225 mkL [.ref (ad (0, 0)), .int 23, .int a, .int b, .int c, .int d] M 8 48 (fun v M1 => v = dR K 23 a b c d ∧ M1 = M) := by
  refine zofv [some (.ref (ad (0, 0))), some (.int 23), some (.int a), some (.int b), some (.int c), some (.int d), none] (by decide +kernel) rfl rfl (Nat.le_of_ble_eq_true rfl) ?_
  intro X C hE
  have C : zC g X RL cL_does 7 10 225 8 48 := C
  refine ziload_n C dL_does_0 rfl ?_
  refine zbipush (v := 12) C dL_does_1 (by decide) ?_
  refine zicmp_ge (tgt := 21) C dL_does_3 (by decide) (fun _ => ?_) (fun h => by first | exact absurd (by decide) h | exact absurd h (by decide))
  refine ziload_n C dL_does_21 rfl ?_
  refine zbipush (v := 12) C dL_does_22 (by decide) ?_
  refine zicmp_ne (tgt := 36) C dL_does_24 (by decide) (fun _ => ?_) (fun h => by first | exact absurd (by decide) h | exact absurd h (by decide))
  refine ziload_n C dL_does_36 rfl ?_
  refine zbipush (v := 13) C dL_does_37 (by decide) ?_
  refine zicmp_ne (tgt := 50) C dL_does_39 (by decide) (fun _ => ?_) (fun h => by first | exact absurd (by decide) h | exact absurd h (by decide))
  refine ziload_n C dL_does_50 rfl ?_
  refine zbipush (v := 14) C dL_does_51 (by decide) ?_
  refine zicmp_ne (tgt := 70) C dL_does_53 (by decide) (fun _ => ?_) (fun h => by first | exact absurd (by decide) h | exact absurd h (by decide))
  refine ziload_n C dL_does_70 rfl ?_
  refine zbipush (v := 15) C dL_does_71 (by decide) ?_
  refine zicmp_ne (tgt := 88) C dL_does_73 (by decide) (fun _ => ?_) (fun h => by first | exact absurd (by decide) h | exact absurd h (by decide))
  refine ziload_n C dL_does_88 rfl ?_
  refine zbipush (v := 16) C dL_does_89 (by decide) ?_
  refine zicmp_ne (tgt := 115) C dL_does_91 (by decide) (fun _ => ?_) (fun h => by first | exact absurd (by decide) h | exact absurd h (by decide))
  refine ziload_n C dL_does_115 rfl ?_
  refine zbipush (v := 17) C dL_does_116 (by decide) ?_
  refine zicmp_ne (tgt := 133) C dL_does_118 (by decide) (fun _ => ?_) (fun h => by first | exact absurd (by decide) h | exact absurd h (by decide))
  refine ziload_n C dL_does_133 rfl ?_
  refine zbipush (v := 18) C dL_does_134 (by decide) ?_
  refine zicmp_ne (tgt := 151) C dL_does_136 (by decide) (fun _ => ?_) (fun h => by first | exact absurd (by decide) h | exact absurd h (by decide))
  refine ziload_n C dL_does_151 rfl ?_
  refine zbipush (v := 19) C dL_does_152 (by decide) ?_
  refine zicmp_ne (tgt := 165) C dL_does_154 (by decide) (fun _ => ?_) (fun h => by first | exact absurd (by decide) h | exact absurd h (by decide))
  refine ziload_n C dL_does_165 rfl ?_
  refine zbipush (v := 20) C dL_does_166 (by decide) ?_
  refine zicmp_ne (tgt := 184) C dL_does_168 (by decide) (fun _ => ?_) (fun h => by first | exact absurd (by decide) h | exact absurd h (by decide))
  refine ziload_n C dL_does_184 rfl ?_
  refine zbipush (v := 21) C dL_does_185 (by decide) ?_
  refine zicmp_ne (tgt := 199) C dL_does_187 (by decide) (fun _ => ?_) (fun h => by first | exact absurd (by decide) h | exact absurd h (by decide))
  refine ziload_n C dL_does_199 rfl ?_
  refine zbipush (v := 22) C dL_does_200 (by decide) ?_
  refine zicmp_ne (tgt := 215) C dL_does_202 (by decide) (fun _ => ?_) (fun h => by first | exact absurd (by decide) h | exact absurd h (by decide))
  refine ziload_n C dL_does_215 rfl ?_
  refine zbipush (v := 23) C dL_does_216 (by decide) ?_
  refine zicmp_ne (tgt := 231) C dL_does_218 (by decide) (fun h => by first | exact absurd h (by decide) | exact absurd (by decide) h) (fun _ => ?_)
  refine zaload_n C dL_does_221 rfl ?_
  refine ziload_n C dL_does_222 rfl ?_
  refine ziload_n C dL_does_223 rfl ?_
  refine zcallVX C (K_ofSuit a b hp hok.1) hy_X7_ofSuit hv_X7_ofSuit hl_L_60 hp.main rfl rfl rfl rfl (by decide) (by decide) (by omega) (by omega) rfl (by exact Nat.le_of_ble_eq_true rfl) dL_does_224 (fun E M1 hx => ?_) (fun v M1 hv => ?_)
  · obtain ⟨hth, hM1⟩ := hx
    have hn0 := exI hth
    rcases hth with ⟨-, rfl⟩ | ⟨-, rfl⟩ | ⟨-, rfl⟩
    · refine zcatch (E := eIO) C hE [] (0, 237, 238, 67) [(0, 237, 244, 71), (0, 237, 250, 73)] rfl (fun z hz => absurd hz List.not_mem_nil) (by decide) (by decide) (by decide) hc_L_67 (fun q => ?_)
      refine zastore (L1 := [_, _, _, _, _, _, _]) C dL_does_238 rfl (Nat.le_of_ble_eq_true rfl) ?_
      refine zldc2 C hk_L_69 dL_does_240 ?_
      exact zend_lv C hE dL_does_243 (by omega) (by omega) ⟨(by rw [dR, if_neg (show ¬ dX K 23 a b c d = 0 from hn0)]), hM1⟩
    · refine zcatch (E := eIA) C hE [(0, 237, 238, 67)] (0, 237, 244, 71) [(0, 237, 250, 73)] rfl (List.forall_mem_cons.mpr ⟨⟨by decide, eIO, by decide, by decide, hc_L_67⟩, fun z hz => absurd hz List.not_mem_nil⟩) (by decide) (by decide) (by decide) hc_L_71 (fun q => ?_)
      refine zastore (L1 := [_, _, _, _, _, _, _]) C dL_does_244 rfl (Nat.le_of_ble_eq_true rfl) ?_
      refine zldc2 C hk_L_69 dL_does_246 ?_
      exact zend_lv C hE dL_does_249 (by omega) (by omega) ⟨(by rw [dR, if_neg (show ¬ dX K 23 a b c d = 0 from hn0)]), hM1⟩
    · refine zcatch (E := eIS) C hE [(0, 237, 238, 67), (0, 237, 244, 71)] (0, 237, 250, 73) [] rfl (List.forall_mem_cons.mpr ⟨⟨by decide, eIO, by decide, by decide, hc_L_67⟩, List.forall_mem_cons.mpr ⟨⟨by decide, eIA, by decide, by decide, hc_L_71⟩, fun z hz => absurd hz List.not_mem_nil⟩⟩) (by decide) (by decide) (by decide) hc_L_73 (fun q => ?_)
      refine zastore (L1 := [_, _, _, _, _, _, _]) C dL_does_250 rfl (Nat.le_of_ble_eq_true rfl) ?_
      refine zldc2 C hk_L_69 dL_does_252 ?_
      exact zend_lv C hE dL_does_255 (by omega) (by omega) ⟨(by rw [dR, if_neg (show ¬ dX K 23 a b c d = 0 from hn0)]), hM1⟩
  · obtain ⟨hx0, rfl, hm⟩ := hv
    refine zi2l C dL_does_227 ?_
    refine zgoto (tgt := 237) C dL_does_228 (by decide) ?_
    exact zend_lv C hE dL_does_237 (by omega) (by omega) ⟨(by rw [dR, if_pos (show dX K 23 a b c d = 0 from hx0)]; rfl), hm⟩
set_option maxRecDepth 100000 in
set_option maxHeartbeats 1000000 in
theorem does_24 {g : zGh} {K : zK} {X0 : zg → Option va_E} {ad : zg → Nat} {M : zM} (a b c d : Int32) (hp : zP g K X0 ad M) (hok : zOk K) : zCv g yL_does cL_does 7 (some .long) hhD 10 225 mkL [.ref (ad (0, 0)), .int 24, .int a, .int b, .int c, .int d] M (8 + (capF (kch (psK K a.toNatClampNeg)) (K.1 13) - capF (kch K) (K.1 13))) (48 + 4 * (capF (kch (psK K a.toNatClampNeg)) (K.1 13) - capF (kch K) (K.1 13))) (fun v M1 => (dX K 24 a b c d = 0 ∧ v = dA K 24 a b c d ∧ dM g (dK K 24 a b c d) X0 ad M1) ∨ (¬ dX K 24 a b c d = 0 ∧ v = -2100000000 ∧ M1 = M)) := by
  refine zofv [some (.ref (ad (0, 0))), some (.int 24), some (.int a), some (.int b), some (.int c), some (.int d), none] (by decide +kernel) rfl rfl (Nat.le_of_ble_eq_true rfl) ?_
  intro X C hE
  have C : zC g X RL cL_does 7 10 225 (8 + (capF (kch (psK K a.toNatClampNeg)) (K.1 13) - capF (kch K) (K.1 13))) (48 + 4 * (capF (kch (psK K a.toNatClampNeg)) (K.1 13) - capF (kch K) (K.1 13))) := C
  refine ziload_n C dL_does_0 rfl ?_
  refine zbipush (v := 12) C dL_does_1 (by decide) ?_
  refine zicmp_ge (tgt := 21) C dL_does_3 (by decide) (fun _ => ?_) (fun h => by first | exact absurd (by decide) h | exact absurd h (by decide))
  refine ziload_n C dL_does_21 rfl ?_
  refine zbipush (v := 12) C dL_does_22 (by decide) ?_
  refine zicmp_ne (tgt := 36) C dL_does_24 (by decide) (fun _ => ?_) (fun h => by first | exact absurd (by decide) h | exact absurd h (by decide))
  refine ziload_n C dL_does_36 rfl ?_
  refine zbipush (v := 13) C dL_does_37 (by decide) ?_
  refine zicmp_ne (tgt := 50) C dL_does_39 (by decide) (fun _ => ?_) (fun h => by first | exact absurd (by decide) h | exact absurd h (by decide))
  refine ziload_n C dL_does_50 rfl ?_
  refine zbipush (v := 14) C dL_does_51 (by decide) ?_
  refine zicmp_ne (tgt := 70) C dL_does_53 (by decide) (fun _ => ?_) (fun h => by first | exact absurd (by decide) h | exact absurd h (by decide))
  refine ziload_n C dL_does_70 rfl ?_
  refine zbipush (v := 15) C dL_does_71 (by decide) ?_
  refine zicmp_ne (tgt := 88) C dL_does_73 (by decide) (fun _ => ?_) (fun h => by first | exact absurd (by decide) h | exact absurd h (by decide))
  refine ziload_n C dL_does_88 rfl ?_
  refine zbipush (v := 16) C dL_does_89 (by decide) ?_
  refine zicmp_ne (tgt := 115) C dL_does_91 (by decide) (fun _ => ?_) (fun h => by first | exact absurd (by decide) h | exact absurd h (by decide))
  refine ziload_n C dL_does_115 rfl ?_
  refine zbipush (v := 17) C dL_does_116 (by decide) ?_
  refine zicmp_ne (tgt := 133) C dL_does_118 (by decide) (fun _ => ?_) (fun h => by first | exact absurd (by decide) h | exact absurd h (by decide))
  refine ziload_n C dL_does_133 rfl ?_
  refine zbipush (v := 18) C dL_does_134 (by decide) ?_
  refine zicmp_ne (tgt := 151) C dL_does_136 (by decide) (fun _ => ?_) (fun h => by first | exact absurd (by decide) h | exact absurd h (by decide))
  refine ziload_n C dL_does_151 rfl ?_
  refine zbipush (v := 19) C dL_does_152 (by decide) ?_
  refine zicmp_ne (tgt := 165) C dL_does_154 (by decide) (fun _ => ?_) (fun h => by first | exact absurd (by decide) h | exact absurd h (by decide))
  refine ziload_n C dL_does_165 rfl ?_
  refine zbipush (v := 20) C dL_does_166 (by decide) ?_
  refine zicmp_ne (tgt := 184) C dL_does_168 (by decide) (fun _ => ?_) (fun h => by first | exact absurd (by decide) h | exact absurd h (by decide))
  refine ziload_n C dL_does_184 rfl ?_
  refine zbipush (v := 21) C dL_does_185 (by decide) ?_
  refine zicmp_ne (tgt := 199) C dL_does_187 (by decide) (fun _ => ?_) (fun h => by first | exact absurd (by decide) h | exact absurd h (by decide))
  refine ziload_n C dL_does_199 rfl ?_
  refine zbipush (v := 22) C dL_does_200 (by decide) ?_
  refine zicmp_ne (tgt := 215) C dL_does_202 (by decide) (fun _ => ?_) (fun h => by first | exact absurd (by decide) h | exact absurd h (by decide))
  refine ziload_n C dL_does_215 rfl ?_
  refine zbipush (v := 23) C dL_does_216 (by decide) ?_
  refine zicmp_ne (tgt := 231) C dL_does_218 (by decide) (fun _ => ?_) (fun h => by first | exact absurd (by decide) h | exact absurd h (by decide))
  refine zaload_n C dL_does_231 rfl ?_
  refine ziload_n C dL_does_232 rfl ?_
  refine zcallVX C (K_pass a hp hok.1 hok.2.2.2.1 (Nat.le_refl 1000)) hy_X7_pass hv_X7_pass hl_L_63 hp.main rfl rfl rfl rfl (by decide) (by decide) (by omega) (by omega) rfl (by exact Nat.le_of_ble_eq_true rfl) dL_does_233 (fun E M1 hx => ?_) (fun v M1 hv => ?_)
  · obtain ⟨hth, hM1⟩ := hx
    have hn0 := exI hth
    rcases hth with ⟨-, rfl⟩ | ⟨-, rfl⟩ | ⟨-, rfl⟩
    · refine zcatch (E := eIO) C hE [] (0, 237, 238, 67) [(0, 237, 244, 71), (0, 237, 250, 73)] rfl (fun z hz => absurd hz List.not_mem_nil) (by decide) (by decide) (by decide) hc_L_67 (fun q => ?_)
      refine zastore (L1 := [_, _, _, _, _, _, _]) C dL_does_238 rfl (Nat.le_of_ble_eq_true rfl) ?_
      refine zldc2 C hk_L_69 dL_does_240 ?_
      exact zend_lv C hE dL_does_243 (by omega) (by omega) (Or.inr ⟨hn0, rfl, hM1⟩)
    · refine zcatch (E := eIA) C hE [(0, 237, 238, 67)] (0, 237, 244, 71) [(0, 237, 250, 73)] rfl (List.forall_mem_cons.mpr ⟨⟨by decide, eIO, by decide, by decide, hc_L_67⟩, fun z hz => absurd hz List.not_mem_nil⟩) (by decide) (by decide) (by decide) hc_L_71 (fun q => ?_)
      refine zastore (L1 := [_, _, _, _, _, _, _]) C dL_does_244 rfl (Nat.le_of_ble_eq_true rfl) ?_
      refine zldc2 C hk_L_69 dL_does_246 ?_
      exact zend_lv C hE dL_does_249 (by omega) (by omega) (Or.inr ⟨hn0, rfl, hM1⟩)
    · refine zcatch (E := eIS) C hE [(0, 237, 238, 67), (0, 237, 244, 71)] (0, 237, 250, 73) [] rfl (List.forall_mem_cons.mpr ⟨⟨by decide, eIO, by decide, by decide, hc_L_67⟩, List.forall_mem_cons.mpr ⟨⟨by decide, eIA, by decide, by decide, hc_L_71⟩, fun z hz => absurd hz List.not_mem_nil⟩⟩) (by decide) (by decide) (by decide) hc_L_73 (fun q => ?_)
      refine zastore (L1 := [_, _, _, _, _, _, _]) C dL_does_250 rfl (Nat.le_of_ble_eq_true rfl) ?_
      refine zldc2 C hk_L_69 dL_does_252 ?_
      exact zend_lv C hE dL_does_255 (by omega) (by omega) (Or.inr ⟨hn0, rfl, hM1⟩)
  · obtain ⟨hx0, rfl, ad1, hm, ha⟩ := hv
    replace hm := dM.o hm ha
    refine zi2l C dL_does_236 ?_
    exact zend_lv C hE dL_does_237 (by omega) (by omega) (Or.inl ⟨hx0, rfl, hm⟩)
set_option maxRecDepth 100000 in
set_option maxHeartbeats 1000000 in
theorem does_x {g : zGh} {K : zK} {X0 : zg → Option va_E} {ad : zg → Nat} {M : zM} (a b c d : Int32) (hp : zP g K X0 ad M) (hok : zOk K) (hx0 : ¬ x_pass K a = 0) : zCv g yL_does cL_does 7 (some .long) hhD 10 225 mkL [.ref (ad (0, 0)), .int 24, .int a, .int b, .int c, .int d] M 8 48 (fun v M1 => (dX K 24 a b c d = 0 ∧ v = dA K 24 a b c d ∧ dM g (dK K 24 a b c d) X0 ad M1) ∨ (¬ dX K 24 a b c d = 0 ∧ v = -2100000000 ∧ M1 = M)) := by
  refine zofv [some (.ref (ad (0, 0))), some (.int 24), some (.int a), some (.int b), some (.int c), some (.int d), none] (by decide +kernel) rfl rfl (Nat.le_of_ble_eq_true rfl) ?_
  intro X C hE
  have C : zC g X RL cL_does 7 10 225 8 48 := C
  refine ziload_n C dL_does_0 rfl ?_
  refine zbipush (v := 12) C dL_does_1 (by decide) ?_
  refine zicmp_ge (tgt := 21) C dL_does_3 (by decide) (fun _ => ?_) (fun h => by first | exact absurd (by decide) h | exact absurd h (by decide))
  refine ziload_n C dL_does_21 rfl ?_
  refine zbipush (v := 12) C dL_does_22 (by decide) ?_
  refine zicmp_ne (tgt := 36) C dL_does_24 (by decide) (fun _ => ?_) (fun h => by first | exact absurd (by decide) h | exact absurd h (by decide))
  refine ziload_n C dL_does_36 rfl ?_
  refine zbipush (v := 13) C dL_does_37 (by decide) ?_
  refine zicmp_ne (tgt := 50) C dL_does_39 (by decide) (fun _ => ?_) (fun h => by first | exact absurd (by decide) h | exact absurd h (by decide))
  refine ziload_n C dL_does_50 rfl ?_
  refine zbipush (v := 14) C dL_does_51 (by decide) ?_
  refine zicmp_ne (tgt := 70) C dL_does_53 (by decide) (fun _ => ?_) (fun h => by first | exact absurd (by decide) h | exact absurd h (by decide))
  refine ziload_n C dL_does_70 rfl ?_
  refine zbipush (v := 15) C dL_does_71 (by decide) ?_
  refine zicmp_ne (tgt := 88) C dL_does_73 (by decide) (fun _ => ?_) (fun h => by first | exact absurd (by decide) h | exact absurd h (by decide))
  refine ziload_n C dL_does_88 rfl ?_
  refine zbipush (v := 16) C dL_does_89 (by decide) ?_
  refine zicmp_ne (tgt := 115) C dL_does_91 (by decide) (fun _ => ?_) (fun h => by first | exact absurd (by decide) h | exact absurd h (by decide))
  refine ziload_n C dL_does_115 rfl ?_
  refine zbipush (v := 17) C dL_does_116 (by decide) ?_
  refine zicmp_ne (tgt := 133) C dL_does_118 (by decide) (fun _ => ?_) (fun h => by first | exact absurd (by decide) h | exact absurd h (by decide))
  refine ziload_n C dL_does_133 rfl ?_
  refine zbipush (v := 18) C dL_does_134 (by decide) ?_
  refine zicmp_ne (tgt := 151) C dL_does_136 (by decide) (fun _ => ?_) (fun h => by first | exact absurd (by decide) h | exact absurd h (by decide))
  refine ziload_n C dL_does_151 rfl ?_
  refine zbipush (v := 19) C dL_does_152 (by decide) ?_
  refine zicmp_ne (tgt := 165) C dL_does_154 (by decide) (fun _ => ?_) (fun h => by first | exact absurd (by decide) h | exact absurd h (by decide))
  refine ziload_n C dL_does_165 rfl ?_
  refine zbipush (v := 20) C dL_does_166 (by decide) ?_
  refine zicmp_ne (tgt := 184) C dL_does_168 (by decide) (fun _ => ?_) (fun h => by first | exact absurd (by decide) h | exact absurd h (by decide))
  refine ziload_n C dL_does_184 rfl ?_
  refine zbipush (v := 21) C dL_does_185 (by decide) ?_
  refine zicmp_ne (tgt := 199) C dL_does_187 (by decide) (fun _ => ?_) (fun h => by first | exact absurd (by decide) h | exact absurd h (by decide))
  refine ziload_n C dL_does_199 rfl ?_
  refine zbipush (v := 22) C dL_does_200 (by decide) ?_
  refine zicmp_ne (tgt := 215) C dL_does_202 (by decide) (fun _ => ?_) (fun h => by first | exact absurd (by decide) h | exact absurd h (by decide))
  refine ziload_n C dL_does_215 rfl ?_
  refine zbipush (v := 23) C dL_does_216 (by decide) ?_
  refine zicmp_ne (tgt := 231) C dL_does_218 (by decide) (fun _ => ?_) (fun h => by first | exact absurd (by decide) h | exact absurd h (by decide))
  refine zaload_n C dL_does_231 rfl ?_
  refine ziload_n C dL_does_232 rfl ?_
  refine zcallVX C (K_passX a hp hok.1 hx0) hy_X7_pass hv_X7_pass hl_L_63 hp.main rfl rfl rfl rfl (by decide) (by decide) (by omega) (by omega) rfl (by exact Nat.le_of_ble_eq_true rfl) dL_does_233 (fun E M1 hx => ?_) (fun v M1 hv => ?_)
  · obtain ⟨hth, hM1⟩ := hx
    have hn0 := exI hth
    rcases hth with ⟨-, rfl⟩ | ⟨-, rfl⟩ | ⟨-, rfl⟩
    · refine zcatch (E := eIO) C hE [] (0, 237, 238, 67) [(0, 237, 244, 71), (0, 237, 250, 73)] rfl (fun z hz => absurd hz List.not_mem_nil) (by decide) (by decide) (by decide) hc_L_67 (fun q => ?_)
      refine zastore (L1 := [_, _, _, _, _, _, _]) C dL_does_238 rfl (Nat.le_of_ble_eq_true rfl) ?_
      refine zldc2 C hk_L_69 dL_does_240 ?_
      exact zend_lv C hE dL_does_243 (by omega) (by omega) (Or.inr ⟨hn0, rfl, hM1⟩)
    · refine zcatch (E := eIA) C hE [(0, 237, 238, 67)] (0, 237, 244, 71) [(0, 237, 250, 73)] rfl (List.forall_mem_cons.mpr ⟨⟨by decide, eIO, by decide, by decide, hc_L_67⟩, fun z hz => absurd hz List.not_mem_nil⟩) (by decide) (by decide) (by decide) hc_L_71 (fun q => ?_)
      refine zastore (L1 := [_, _, _, _, _, _, _]) C dL_does_244 rfl (Nat.le_of_ble_eq_true rfl) ?_
      refine zldc2 C hk_L_69 dL_does_246 ?_
      exact zend_lv C hE dL_does_249 (by omega) (by omega) (Or.inr ⟨hn0, rfl, hM1⟩)
    · refine zcatch (E := eIS) C hE [(0, 237, 238, 67), (0, 237, 244, 71)] (0, 237, 250, 73) [] rfl (List.forall_mem_cons.mpr ⟨⟨by decide, eIO, by decide, by decide, hc_L_67⟩, List.forall_mem_cons.mpr ⟨⟨by decide, eIA, by decide, by decide, hc_L_71⟩, fun z hz => absurd hz List.not_mem_nil⟩⟩) (by decide) (by decide) (by decide) hc_L_73 (fun q => ?_)
      refine zastore (L1 := [_, _, _, _, _, _, _]) C dL_does_250 rfl (Nat.le_of_ble_eq_true rfl) ?_
      refine zldc2 C hk_L_69 dL_does_252 ?_
      exact zend_lv C hE dL_does_255 (by omega) (by omega) (Or.inr ⟨hn0, rfl, hM1⟩)
  · exact hv.elim
theorem psK13a (K : zK) (d : Nat) : (psK K d).1 13 = K.1 13 := psK13 K d
theorem does_p {g : zGh} {K : zK} {X0 : zg → Option va_E} {ad : zg → Nat} {M : zM} (a b c d : Int32) (hp : zP g K X0 ad M) (hok : zOk K) : zCv g yL_does cL_does 7 (some .long) hhD 10 225 mkL [.ref (ad (0, 0)), .int 24, .int a, .int b, .int c, .int d] M (dcC K 24 a) (dcS K 24 a) (fun v M1 => (dX K 24 a b c d = 0 ∧ v = dA K 24 a b c d ∧ dM g (dK K 24 a b c d) X0 ad M1) ∨ (¬ dX K 24 a b c d = 0 ∧ v = -2100000000 ∧ M1 = M)) := by
  by_cases hx : x_pass K a = 0
  · have h := does_24 a b c d hp hok
    have e : capF (kch (psK K a.toNatClampNeg)) (K.1 13) = cF (psK K a.toNatClampNeg) := by rw [cF, psK13a]
    rw [e] at h
    rw [show dcC K 24 a = 8 + (cF (psK K a.toNatClampNeg) - cF K) from if_pos hx, show dcS K 24 a = 48 + 4 * (cF (psK K a.toNatClampNeg) - cF K) from if_pos hx]
    exact h
  · rw [show dcC K 24 a = 8 from if_neg hx, show dcS K 24 a = 48 from if_neg hx]
    exact does_x a b c d hp hok hx
