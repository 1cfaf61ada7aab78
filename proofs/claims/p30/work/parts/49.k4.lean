def hmlL (K : zK) (p : Nat) : Nat → Nat
  | 0 => 0
  | k + 1 => hmlL K p k + (if lasK K k p = true then 1 else 0)
def hml (K : zK) (p : Nat) : Nat := hmlL K p (K.1 25)
def lowK (K : zK) (p nm : Nat) : Nat → Int32
  | 0 => -1
  | r + 1 => if lasK K (nm - (r + 1)) p = true then nI (nm - (r + 1)) else lowK K p nm r
def kidL (K : zK) (p : Nat) : Nat → Nat
  | 0 => 0
  | k + 1 => kidL K p k + (if chlK K k p = true then 1 else 0)
def kid (K : zK) (p : Nat) : Nat := kidL K p (K.1 13)
def allK (K : zK) : Nat → Int64
  | 0 => K.2.1
  | k + 1 => allK K k + (kpe K k).2.2.2.2.2.1
def seiL (K : zK) (p q : Nat) : Nat → Bool
  | 0 => false
  | k + 1 => seiL K p q k || (decide ((ksu K k).2.2.2.2.1 = 0) && (btwK K k p && btwK K k q))
theorem seiL_mono {K : zK} {p q i : Nat} (h : seiL K p q i = true) : ∀ r, seiL K p q (i + r) = true
  | 0 => h
  | r + 1 => by
    show (seiL K p q (i + r) || _) = true
    rw [seiL_mono h r]
    rfl
def wgK (x f : Int32) : Nat := if (x >>> (f &&& 31)) &&& 1 = 1 then 2 else 1
theorem wgK_e (x : Int32) {c : Nat} (hc : c < 32) : 1 + ((x >>> (nI c &&& 31)) &&& 1) = nI (wgK x (nI c)) := by
  unfold wgK
  rw [zb_bit x c hc]
  cases bt x c <;> rfl
theorem wgK_le (x f : Int32) : wgK x f ≤ 2 := by unfold wgK; split <;> omega
def forK (K : zK) (s : Nat) (x : Int32) (b : Bool) : Nat → Nat
  | 0 => 0
  | i + 1 => forK K s x b i + (if (kws K s).2.2 i = b then wgK x (newK K ((kws K s).2.1 i)) else 0)
theorem forK_le (K : zK) (s : Nat) (x : Int32) (b : Bool) : ∀ i, forK K s x b i ≤ 2 * i
  | 0 => Nat.le_refl _
  | i + 1 => by
    have := forK_le K s x b i
    have h2 := wgK_le x (newK K ((kws K s).2.1 i))
    unfold forK
    split <;> omega
def wonK (K : zK) (s l : Nat) : Bool := decide (forK K s (lawK K l 6 (nI (K.1 1))) false (kws K s).1 < forK K s (lawK K l 6 (nI (K.1 1))) true (kws K s).1) && decide (4 ≤ forK K s (lawK K l 6 (nI (K.1 1))) true (kws K s).1)
def mayK (K : zK) (h w l : Nat) : Bool := decide (nI (hml K w) = 0) && (decide (nI (hml K h) < lawK K l 2 (nI (K.1 1))) && (decide (newK K h = newK K w) || decide (lawK K l 4 (nI (K.1 1)) = 1)))
def brnK (K : zK) (mo fa : Option Nat) (f : Int32) : Int32 := match fa with
  | some q => newK K q
  | none => match mo with
    | some q => newK K q
    | none => f
theorem zlt_nl {x y : Int32} (h : y ≤ x) : ¬ x < y := by rw [Int32.lt_iff_toInt_lt]; rw [Int32.le_iff_toInt_le] at h; omega
theorem znle_lt {x y : Int32} (h : ¬ y ≤ x) : x < y := by rw [Int32.lt_iff_toInt_lt]; rw [Int32.le_iff_toInt_le] at h; omega
theorem zle_n {a b : Nat} (h : nI a ≤ nI b) (ha : a < 2 ^ 31 := by omega) (hb : b < 2 ^ 31 := by omega) : a ≤ b := (nI_leI ha hb).mp h
theorem znle_n {a b : Nat} (h : ¬ nI a ≤ nI b) (ha : a < 2 ^ 31 := by omega) (hb : b < 2 ^ 31 := by omega) : b < a := by rw [nI_leI ha hb] at h; omega
theorem zlt_n4 {a : Nat} (h : nI a < 4) (ha : a < 2 ^ 31 := by omega) : ¬ 4 ≤ a := by
  rw [Int32.lt_iff_toInt_lt, nI_toInt ha] at h
  have : (4 : Int32).toInt = 4 := rfl
  omega
theorem znlt_n4 {a : Nat} (h : ¬ nI a < 4) (ha : a < 2 ^ 31 := by omega) : 4 ≤ a := by
  rw [Int32.lt_iff_toInt_lt, nI_toInt ha] at h
  have : (4 : Int32).toInt = 4 := rfl
  omega
set_option maxRecDepth 100000 in
set_option maxHeartbeats 1000000 in
theorem k_canWitness {g : zGh} {K : zK} {X : zg → Option va_E} {ad : zg → Nat} {M : zM} {p : Nat} (hpn : p < K.1 13) (x : Int32) (hp : zP g K X ad M) (hch : iCh K) : zCt g yX7_canWitnessTurn cX7_canWitnessTurn 3 (some .boolean) 2 42 mkI [.ref (ad (0, 0)), .ref (ad (10, p)), .int x] M 0 0 (fun v M1 => v = b2i (groK K p (nI (K.1 1)) && decide (newK K p = x)) ∧ M1 = M) noX := by
  refine zof [some (.ref (ad (0, 0))), some (.ref (ad (10, p))), some (.int x)] (by decide +kernel) rfl rfl (Nat.le_of_ble_eq_true rfl) ?_
  intro Z C hE hnm
  have C : zC g Z RX7 cX7_canWitnessTurn 3 2 42 0 0 := C
  refine zaload_n C dX7_canWitnessTurn_0 rfl ?_
  refine zaload_n C dX7_canWitnessTurn_1 rfl ?_
  refine zget C hf_X7_51 hp.main (by rfl) dX7_canWitnessTurn_2 ?_
  refine zcallV C (k_isGrown hp hpn _) hy_X4_isGrownOn hv_X4_isGrownOn hl_X7_168 (hp.per (p := p) hpn) rfl rfl rfl rfl (by decide) (by decide) (by omega) (by omega) rfl (by exact Nat.le_of_ble_eq_true rfl) dX7_canWitnessTurn_5 (fun v5 M hp5 => ?_)
  obtain ⟨rfl, rfl⟩ := hp5
  refine zif_eq (tgt := 23) C dX7_canWitnessTurn_8 (by decide) (fun h8 => ?_) (fun h8 => ?_)
  · replace h8 := b2i_0.mp h8
    refine zconst (v := 0) C dX7_canWitnessTurn_23 (by decide) ?_
    exact zend_z C hE dX7_canWitnessTurn_24 (by omega) (by omega) (by first | exact Or.inl rfl | exact Or.inr rfl | exact b2i_b _) ⟨by simp [b2i, h8], rfl⟩
  · replace h8 := b2i_n0.mp h8
    refine zaload_n C dX7_canWitnessTurn_11 rfl ?_
    refine zcallV C (k_faithNow hp hpn hch) hy_X4_faithNow hv_X4_faithNow hl_X7_172 (hp.per (p := p) hpn) rfl rfl rfl rfl (by decide) (by decide) (by omega) (by omega) rfl (by exact Nat.le_of_ble_eq_true rfl) dX7_canWitnessTurn_12 (fun v12 M hp12 => ?_)
    obtain ⟨rfl, rfl⟩ := hp12
    refine ziload_n C dX7_canWitnessTurn_15 rfl ?_
    refine zicmp_ne (tgt := 23) C dX7_canWitnessTurn_16 (by decide) (fun h16 => ?_) (fun h16 => ?_)
    · refine zconst (v := 0) C dX7_canWitnessTurn_23 (by decide) ?_
      exact zend_z C hE dX7_canWitnessTurn_24 (by omega) (by omega) (by first | exact Or.inl rfl | exact Or.inr rfl | exact b2i_b _) ⟨by simp [b2i, h8, h16], rfl⟩
    · refine zconst (v := 1) C dX7_canWitnessTurn_19 (by decide) ?_
      refine zgoto (tgt := 24) C dX7_canWitnessTurn_20 (by decide) ?_
      exact zend_z C hE dX7_canWitnessTurn_24 (by omega) (by omega) (by first | exact Or.inl rfl | exact Or.inr rfl | exact b2i_b _) ⟨by simp [b2i, h8, h16], rfl⟩
set_option maxRecDepth 100000 in
set_option maxHeartbeats 1000000 in
theorem k_brnA {g : zGh} {K : zK} {X : zg → Option va_E} {ad : zg → Nat} {M : zM} {q : Nat} (hq : q < K.1 13) {r : Nat} (hr : r < K.1 13) (x : Int32) (hp : zP g K X ad M) (hch : iCh K) : zCt g yX7_faithAtBirth cX7_faithAtBirth 3 (some .int) 2 40 mkI [.ref (ad (10, q)), .ref (ad (10, r)), .int x] M 0 0 (fun v M1 => v = newK K r ∧ M1 = M) noX := by
  refine zof [some (.ref (ad (10, q))), some (.ref (ad (10, r))), some (.int x)] (by decide +kernel) rfl rfl (Nat.le_of_ble_eq_true rfl) ?_
  intro Z C hE hnm
  have C : zC g Z RX7 cX7_faithAtBirth 3 2 40 0 0 := C
  refine zaload_n C dX7_faithAtBirth_0 rfl ?_
  refine zifnull C dX7_faithAtBirth_1 ?_
  refine zaload_n C dX7_faithAtBirth_4 rfl ?_
  refine zcallV C (k_faithNow hp hr hch) hy_X4_faithNow hv_X4_faithNow hl_X7_172 (hp.per (p := r) hr) rfl rfl rfl rfl (by decide) (by decide) (by omega) (by omega) rfl (by exact Nat.le_of_ble_eq_true rfl) dX7_faithAtBirth_5 (fun v5 M hp5 => ?_)
  obtain ⟨rfl, rfl⟩ := hp5
  exact zend_i C hE dX7_faithAtBirth_8 (by omega) (by omega) ⟨rfl, rfl⟩
set_option maxRecDepth 100000 in
set_option maxHeartbeats 1000000 in
theorem k_brnB {g : zGh} {K : zK} {X : zg → Option va_E} {ad : zg → Nat} {M : zM} {r : Nat} (hr : r < K.1 13) (x : Int32) (hp : zP g K X ad M) (hch : iCh K) : zCt g yX7_faithAtBirth cX7_faithAtBirth 3 (some .int) 2 40 mkI [.null, .ref (ad (10, r)), .int x] M 0 0 (fun v M1 => v = newK K r ∧ M1 = M) noX := by
  refine zof [some .null, some (.ref (ad (10, r))), some (.int x)] (by decide +kernel) rfl rfl (Nat.le_of_ble_eq_true rfl) ?_
  intro Z C hE hnm
  have C : zC g Z RX7 cX7_faithAtBirth 3 2 40 0 0 := C
  refine zaload_n C dX7_faithAtBirth_0 rfl ?_
  refine zifnull C dX7_faithAtBirth_1 ?_
  refine zaload_n C dX7_faithAtBirth_4 rfl ?_
  refine zcallV C (k_faithNow hp hr hch) hy_X4_faithNow hv_X4_faithNow hl_X7_172 (hp.per (p := r) hr) rfl rfl rfl rfl (by decide) (by decide) (by omega) (by omega) rfl (by exact Nat.le_of_ble_eq_true rfl) dX7_faithAtBirth_5 (fun v5 M hp5 => ?_)
  obtain ⟨rfl, rfl⟩ := hp5
  exact zend_i C hE dX7_faithAtBirth_8 (by omega) (by omega) ⟨rfl, rfl⟩
set_option maxRecDepth 100000 in
set_option maxHeartbeats 1000000 in
theorem k_brnC {g : zGh} {K : zK} {X : zg → Option va_E} {ad : zg → Nat} {M : zM} {q : Nat} (hq : q < K.1 13) (x : Int32) (hp : zP g K X ad M) (hch : iCh K) : zCt g yX7_faithAtBirth cX7_faithAtBirth 3 (some .int) 2 40 mkI [.ref (ad (10, q)), .null, .int x] M 0 0 (fun v M1 => v = newK K q ∧ M1 = M) noX := by
  refine zof [some (.ref (ad (10, q))), some .null, some (.int x)] (by decide +kernel) rfl rfl (Nat.le_of_ble_eq_true rfl) ?_
  intro Z C hE hnm
  have C : zC g Z RX7 cX7_faithAtBirth 3 2 40 0 0 := C
  refine zaload_nQ (r := none) C dX7_faithAtBirth_0 rfl ?_
  refine zifnullN (tgt := 9) C dX7_faithAtBirth_1 (by decide) ?_
  refine zaload_n C dX7_faithAtBirth_9 rfl ?_
  refine zifnull C dX7_faithAtBirth_10 ?_
  refine zaload_n C dX7_faithAtBirth_13 rfl ?_
  refine zcallV C (k_faithNow hp hq hch) hy_X4_faithNow hv_X4_faithNow hl_X7_172 (hp.per (p := q) hq) rfl rfl rfl rfl (by decide) (by decide) (by omega) (by omega) rfl (by exact Nat.le_of_ble_eq_true rfl) dX7_faithAtBirth_14 (fun v14 M hp14 => ?_)
  obtain ⟨rfl, rfl⟩ := hp14
  refine zgoto (tgt := 21) C dX7_faithAtBirth_17 (by decide) ?_
  exact zend_i C hE dX7_faithAtBirth_21 (by omega) (by omega) ⟨rfl, rfl⟩
set_option maxRecDepth 100000 in
set_option maxHeartbeats 1000000 in
theorem k_brnD {g : zGh} {K : zK} {X : zg → Option va_E} {ad : zg → Nat} {M : zM} (x : Int32) (hp : zP g K X ad M) (hch : iCh K) : zCt g yX7_faithAtBirth cX7_faithAtBirth 3 (some .int) 2 40 mkI [.null, .null, .int x] M 0 0 (fun v M1 => v = x ∧ M1 = M) noX := by
  refine zof [some .null, some .null, some (.int x)] (by decide +kernel) rfl rfl (Nat.le_of_ble_eq_true rfl) ?_
  intro Z C hE hnm
  have C : zC g Z RX7 cX7_faithAtBirth 3 2 40 0 0 := C
  refine zaload_nQ (r := none) C dX7_faithAtBirth_0 rfl ?_
  refine zifnullN (tgt := 9) C dX7_faithAtBirth_1 (by decide) ?_
  refine zaload_nQ (r := none) C dX7_faithAtBirth_9 rfl ?_
  refine zifnullN (tgt := 20) C dX7_faithAtBirth_10 (by decide) ?_
  refine ziload_n C dX7_faithAtBirth_20 rfl ?_
  exact zend_i C hE dX7_faithAtBirth_21 (by omega) (by omega) ⟨rfl, rfl⟩
set_option maxRecDepth 100000 in
set_option maxHeartbeats 1000000 in
theorem k_howManyLast {g : zGh} {K : zK} {X : zg → Option va_E} {ad : zg → Nat} {M : zM} {p : Nat} (hpn : p < K.1 13) (hp : zP g K X ad M) (h25 : K.1 25 ≤ 30) (hma : iMa K) : zCt g yX7_howManyLast cX7_howManyLast 4 (some .int) 3 64 mkI [.ref (ad (0, 0)), .ref (ad (10, p))] M 0 0 (fun v M1 => v = nI (hml K p) ∧ M1 = M) noX := by
  refine zof [some (.ref (ad (0, 0))), some (.ref (ad (10, p))), none, none] (by decide +kernel) rfl rfl (Nat.le_of_ble_eq_true rfl) ?_
  intro Z C hE hnm
  have C : zC g Z RX7 cX7_howManyLast 4 3 64 0 0 := C
  have loop : ∀ (r i : Nat), i + r = K.1 25 → zG g Z M 0 0 4 [some (.ref (ad (0, 0))), some (.ref (ad (10, p))), some (.int (nI (hmlL K p i))), some (.int (nI i))] [] := by
    intro r
    induction r with
    | zero =>
      intro i hi 
      refine ziload_n C dX7_howManyLast_4 rfl ?_
      refine zaload_n C dX7_howManyLast_5 rfl ?_
      refine zget C hf_X7_38 hp.main (by rfl) dX7_howManyLast_6 ?_
      refine zcallV C (q_size (hp.lq2 (by omega))) hy_Jx4a65c_size_8abf5 hv_Jx4a65c_size_8abf5 hl_X7_58 (hp.lo2) rfl rfl rfl rfl (by decide) (by decide) (by omega) (by omega) rfl (by exact Nat.le_of_ble_eq_true rfl) dX7_howManyLast_9 (fun v9 M hp9 => ?_)
      obtain ⟨rfl, rfl⟩ := hp9
      refine zicmp_ge (tgt := 42) C dX7_howManyLast_12 (by decide) (fun h12 => ?_) (fun h12 => by first | exact absurd (nI_le (by omega) (by omega)) h12 | exact absurd h12 (nI_le (by omega) (by omega)))
      refine ziload_n C dX7_howManyLast_42 rfl ?_
      exact zend_i C hE dX7_howManyLast_43 (by omega) (by omega) ⟨by rw [hml, show K.1 25 = i by omega], rfl⟩
    | succ r ih =>
      intro i hi 
      refine ziload_n C dX7_howManyLast_4 rfl ?_
      refine zaload_n C dX7_howManyLast_5 rfl ?_
      refine zget C hf_X7_38 hp.main (by rfl) dX7_howManyLast_6 ?_
      refine zcallV C (q_size (hp.lq2 (by omega))) hy_Jx4a65c_size_8abf5 hv_Jx4a65c_size_8abf5 hl_X7_58 (hp.lo2) rfl rfl rfl rfl (by decide) (by decide) (by omega) (by omega) rfl (by exact Nat.le_of_ble_eq_true rfl) dX7_howManyLast_9 (fun v9 M hp9 => ?_)
      obtain ⟨rfl, rfl⟩ := hp9
      refine zicmp_ge (tgt := 42) C dX7_howManyLast_12 (by decide) (fun h12 => by first | exact absurd h12 (nI_ge (by omega) (by omega)) | exact absurd (nI_ge (by omega) (by omega)) h12) (fun h12 => ?_)
      refine zaload_n C dX7_howManyLast_15 rfl ?_
      refine zget C hf_X7_38 hp.main (by rfl) dX7_howManyLast_16 ?_
      refine ziload_n C dX7_howManyLast_19 rfl ?_
      refine zcallV C (q_get i (hp.lq2 (by omega)) (show i < _ from (by omega))) hy_Jx4a65c_get_915e3 hv_Jx4a65c_get_915e3 hl_X7_384 (hp.lo2) rfl rfl rfl rfl (by decide) (by decide) (by omega) (by omega) rfl (by exact Nat.le_of_ble_eq_true rfl) dX7_howManyLast_20 (fun v20 M hp20 => ?_)
      obtain ⟨rfl, rfl⟩ := hp20
      rw [if_pos (show i < _ from (by omega))]
      refine zcastS C (hp.mar (m := i) (show i < _ from (by omega))) rfl hc_X7_217 dX7_howManyLast_23 ?_
      refine zaload_n C dX7_howManyLast_26 rfl ?_
      refine zcallV C (k_lastsFor hp (show i < _ from (by omega)) hpn hma) hy_X3_lastsFor hv_X3_lastsFor hl_X7_443 (hp.mar (m := i) (show i < _ from (by omega))) rfl rfl rfl rfl (by decide) (by decide) (by omega) (by omega) rfl (by exact Nat.le_of_ble_eq_true rfl) dX7_howManyLast_27 (fun v27 M hp27 => ?_)
      obtain ⟨rfl, rfl⟩ := hp27
      refine zif_eq (tgt := 36) C dX7_howManyLast_30 (by decide) (fun h30 => ?_) (fun h30 => ?_)
      · replace h30 := b2i_0.mp h30
        refine ziinc (L1 := [_, _, _, _]) (v := nI (i + 1)) C dX7_howManyLast_36 rfl (nI_1 i) rfl ?_
        refine zgoto (tgt := 4) C dX7_howManyLast_39 (by decide) ?_
        exact zcg (ih (i + 1) (by omega)) (by simp [zk1, hmlL, h30])
      · replace h30 := b2i_n0.mp h30
        refine ziinc (L1 := [_, _, _, _]) (v := nI (hmlL K p i + 1)) C dX7_howManyLast_33 rfl (nI_1 _) rfl ?_
        refine ziinc (L1 := [_, _, _, _]) (v := nI (i + 1)) C dX7_howManyLast_36 rfl (nI_1 i) rfl ?_
        refine zgoto (tgt := 4) C dX7_howManyLast_39 (by decide) ?_
        exact zcg (ih (i + 1) (by omega)) (by simp [zk1, hmlL, h30])
  refine zconst (v := 0) C dX7_howManyLast_0 (by decide) ?_
  refine zistore_n (L1 := [_, _, _, _]) C dX7_howManyLast_1 rfl (Nat.le_of_ble_eq_true rfl) ?_
  refine zconst (v := 0) C dX7_howManyLast_2 (by decide) ?_
  refine zistore_n (L1 := [_, _, _, _]) C dX7_howManyLast_3 rfl (Nat.le_of_ble_eq_true rfl) ?_
  exact zcg (loop (K.1 25) 0 (by omega)) (by simp [zk1, hmlL, nI_0])
set_option maxRecDepth 100000 in
set_option maxHeartbeats 1000000 in
theorem k_howManyChildren {g : zGh} {K : zK} {X : zg → Option va_E} {ad : zg → Nat} {M : zM} {p : Nat} (hpn : p < K.1 13) (hp : zP g K X ad M) (h13 : K.1 13 ≤ 40) (hpa : iPa K) : zCt g yX7_howManyChildrenLive cX7_howManyChildrenLive 4 (some .int) 3 64 mkI [.ref (ad (0, 0)), .ref (ad (10, p))] M 0 0 (fun v M1 => v = nI (kid K p) ∧ M1 = M) noX := by
  refine zof [some (.ref (ad (0, 0))), some (.ref (ad (10, p))), none, none] (by decide +kernel) rfl rfl (Nat.le_of_ble_eq_true rfl) ?_
  intro Z C hE hnm
  have C : zC g Z RX7 cX7_howManyChildrenLive 4 3 64 0 0 := C
  have loop : ∀ (r i : Nat), i + r = K.1 13 → zG g Z M 0 0 4 [some (.ref (ad (0, 0))), some (.ref (ad (10, p))), some (.int (nI (kidL K p i))), some (.int (nI i))] [] := by
    intro r
    induction r with
    | zero =>
      intro i hi 
      refine ziload_n C dX7_howManyChildrenLive_4 rfl ?_
      refine zaload_n C dX7_howManyChildrenLive_5 rfl ?_
      refine zget C hf_X7_35 hp.main (by rfl) dX7_howManyChildrenLive_6 ?_
      refine zcallV C (q_size (hp.lq1 (by omega))) hy_Jx4a65c_size_8abf5 hv_Jx4a65c_size_8abf5 hl_X7_58 (hp.lo1) rfl rfl rfl rfl (by decide) (by decide) (by omega) (by omega) rfl (by exact Nat.le_of_ble_eq_true rfl) dX7_howManyChildrenLive_9 (fun v9 M hp9 => ?_)
      obtain ⟨rfl, rfl⟩ := hp9
      refine zicmp_ge (tgt := 42) C dX7_howManyChildrenLive_12 (by decide) (fun h12 => ?_) (fun h12 => by first | exact absurd (nI_le (by omega) (by omega)) h12 | exact absurd h12 (nI_le (by omega) (by omega)))
      refine ziload_n C dX7_howManyChildrenLive_42 rfl ?_
      exact zend_i C hE dX7_howManyChildrenLive_43 (by omega) (by omega) ⟨by rw [kid, show K.1 13 = i by omega], rfl⟩
    | succ r ih =>
      intro i hi 
      refine ziload_n C dX7_howManyChildrenLive_4 rfl ?_
      refine zaload_n C dX7_howManyChildrenLive_5 rfl ?_
      refine zget C hf_X7_35 hp.main (by rfl) dX7_howManyChildrenLive_6 ?_
      refine zcallV C (q_size (hp.lq1 (by omega))) hy_Jx4a65c_size_8abf5 hv_Jx4a65c_size_8abf5 hl_X7_58 (hp.lo1) rfl rfl rfl rfl (by decide) (by decide) (by omega) (by omega) rfl (by exact Nat.le_of_ble_eq_true rfl) dX7_howManyChildrenLive_9 (fun v9 M hp9 => ?_)
      obtain ⟨rfl, rfl⟩ := hp9
      refine zicmp_ge (tgt := 42) C dX7_howManyChildrenLive_12 (by decide) (fun h12 => by first | exact absurd h12 (nI_ge (by omega) (by omega)) | exact absurd (nI_ge (by omega) (by omega)) h12) (fun h12 => ?_)
      refine zaload_n C dX7_howManyChildrenLive_15 rfl ?_
      refine zget C hf_X7_35 hp.main (by rfl) dX7_howManyChildrenLive_16 ?_
      refine ziload_n C dX7_howManyChildrenLive_19 rfl ?_
      refine zcallV C (q_get i (hp.lq1 (by omega)) (show i < _ from (by omega))) hy_Jx4a65c_get_915e3 hv_Jx4a65c_get_915e3 hl_X7_384 (hp.lo1) rfl rfl rfl rfl (by decide) (by decide) (by omega) (by omega) rfl (by exact Nat.le_of_ble_eq_true rfl) dX7_howManyChildrenLive_20 (fun v20 M hp20 => ?_)
      obtain ⟨rfl, rfl⟩ := hp20
      rw [if_pos (show i < _ from (by omega))]
      refine zcastS C (hp.per (p := i) (show i < _ from (by omega))) rfl hc_X7_128 dX7_howManyChildrenLive_23 ?_
      refine zaload_n C dX7_howManyChildrenLive_26 rfl ?_
      refine zcallV C (k_isChild hp (show i < _ from (by omega)) hpn hpa) hy_X4_isLivingChildOf hv_X4_isLivingChildOf hl_X7_446 (hp.per (p := i) (show i < _ from (by omega))) rfl rfl rfl rfl (by decide) (by decide) (by omega) (by omega) rfl (by exact Nat.le_of_ble_eq_true rfl) dX7_howManyChildrenLive_27 (fun v27 M hp27 => ?_)
      obtain ⟨rfl, rfl⟩ := hp27
      refine zif_eq (tgt := 36) C dX7_howManyChildrenLive_30 (by decide) (fun h30 => ?_) (fun h30 => ?_)
      · replace h30 := b2i_0.mp h30
        refine ziinc (L1 := [_, _, _, _]) (v := nI (i + 1)) C dX7_howManyChildrenLive_36 rfl (nI_1 i) rfl ?_
        refine zgoto (tgt := 4) C dX7_howManyChildrenLive_39 (by decide) ?_
        exact zcg (ih (i + 1) (by omega)) (by simp [zk1, kidL, h30])
      · replace h30 := b2i_n0.mp h30
        refine ziinc (L1 := [_, _, _, _]) (v := nI (kidL K p i + 1)) C dX7_howManyChildrenLive_33 rfl (nI_1 _) rfl ?_
        refine ziinc (L1 := [_, _, _, _]) (v := nI (i + 1)) C dX7_howManyChildrenLive_36 rfl (nI_1 i) rfl ?_
        refine zgoto (tgt := 4) C dX7_howManyChildrenLive_39 (by decide) ?_
        exact zcg (ih (i + 1) (by omega)) (by simp [zk1, kidL, h30])
  refine zconst (v := 0) C dX7_howManyChildrenLive_0 (by decide) ?_
  refine zistore_n (L1 := [_, _, _, _]) C dX7_howManyChildrenLive_1 rfl (Nat.le_of_ble_eq_true rfl) ?_
  refine zconst (v := 0) C dX7_howManyChildrenLive_2 (by decide) ?_
  refine zistore_n (L1 := [_, _, _, _]) C dX7_howManyChildrenLive_3 rfl (Nat.le_of_ble_eq_true rfl) ?_
  exact zcg (loop (K.1 13) 0 (by omega)) (by simp [zk1, kidL, nI_0])
set_option maxRecDepth 100000 in
set_option maxHeartbeats 1000000 in
theorem k_lowest {g : zGh} {K : zK} {X : zg → Option va_E} {ad : zg → Nat} {M : zM} {p : Nat} (hpn : p < K.1 13) (hp : zP g K X ad M) (h25 : K.1 25 ≤ 30) (hma : iMa K) : zCt g yX7_lowestThatLasts cX7_lowestThatLasts 3 (some .int) 3 64 mkI [.ref (ad (0, 0)), .ref (ad (10, p))] M 0 0 (fun v M1 => v = lowK K p (K.1 25) (K.1 25) ∧ M1 = M) noX := by
  refine zof [some (.ref (ad (0, 0))), some (.ref (ad (10, p))), none] (by decide +kernel) rfl rfl (Nat.le_of_ble_eq_true rfl) ?_
  intro Z C hE hnm
  have C : zC g Z RX7 cX7_lowestThatLasts 3 3 64 0 0 := C
  have loop : ∀ (r i : Nat), i + r = K.1 25 → lowK K p (K.1 25) r = lowK K p (K.1 25) (K.1 25) → zG g Z M 0 0 2 [some (.ref (ad (0, 0))), some (.ref (ad (10, p))), some (.int (nI i))] [] := by
    intro r
    induction r with
    | zero =>
      intro i hi hq
      refine ziload_n C dX7_lowestThatLasts_2 rfl ?_
      refine zaload_n C dX7_lowestThatLasts_3 rfl ?_
      refine zget C hf_X7_38 hp.main (by rfl) dX7_lowestThatLasts_4 ?_
      refine zcallV C (q_size (hp.lq2 (by omega))) hy_Jx4a65c_size_8abf5 hv_Jx4a65c_size_8abf5 hl_X7_58 (hp.lo2) rfl rfl rfl rfl (by decide) (by decide) (by omega) (by omega) rfl (by exact Nat.le_of_ble_eq_true rfl) dX7_lowestThatLasts_7 (fun v7 M hp7 => ?_)
      obtain ⟨rfl, rfl⟩ := hp7
      refine zicmp_ge (tgt := 39) C dX7_lowestThatLasts_10 (by decide) (fun h10 => ?_) (fun h10 => by first | exact absurd (nI_le (by omega) (by omega)) h10 | exact absurd h10 (nI_le (by omega) (by omega)))
      refine zconst (v := -1) C dX7_lowestThatLasts_39 (by decide) ?_
      exact zend_i C hE dX7_lowestThatLasts_40 (by omega) (by omega) ⟨hq, rfl⟩
    | succ r ih =>
      intro i hi hq
      refine ziload_n C dX7_lowestThatLasts_2 rfl ?_
      refine zaload_n C dX7_lowestThatLasts_3 rfl ?_
      refine zget C hf_X7_38 hp.main (by rfl) dX7_lowestThatLasts_4 ?_
      refine zcallV C (q_size (hp.lq2 (by omega))) hy_Jx4a65c_size_8abf5 hv_Jx4a65c_size_8abf5 hl_X7_58 (hp.lo2) rfl rfl rfl rfl (by decide) (by decide) (by omega) (by omega) rfl (by exact Nat.le_of_ble_eq_true rfl) dX7_lowestThatLasts_7 (fun v7 M hp7 => ?_)
      obtain ⟨rfl, rfl⟩ := hp7
      refine zicmp_ge (tgt := 39) C dX7_lowestThatLasts_10 (by decide) (fun h10 => by first | exact absurd h10 (nI_ge (by omega) (by omega)) | exact absurd (nI_ge (by omega) (by omega)) h10) (fun h10 => ?_)
      refine zaload_n C dX7_lowestThatLasts_13 rfl ?_
      refine zget C hf_X7_38 hp.main (by rfl) dX7_lowestThatLasts_14 ?_
      refine ziload_n C dX7_lowestThatLasts_17 rfl ?_
      refine zcallV C (q_get i (hp.lq2 (by omega)) (show i < _ from (by omega))) hy_Jx4a65c_get_915e3 hv_Jx4a65c_get_915e3 hl_X7_384 (hp.lo2) rfl rfl rfl rfl (by decide) (by decide) (by omega) (by omega) rfl (by exact Nat.le_of_ble_eq_true rfl) dX7_lowestThatLasts_18 (fun v18 M hp18 => ?_)
      obtain ⟨rfl, rfl⟩ := hp18
      rw [if_pos (show i < _ from (by omega))]
      refine zcastS C (hp.mar (m := i) (show i < _ from (by omega))) rfl hc_X7_217 dX7_lowestThatLasts_21 ?_
      refine zaload_n C dX7_lowestThatLasts_24 rfl ?_
      refine zcallV C (k_lastsFor hp (show i < _ from (by omega)) hpn hma) hy_X3_lastsFor hv_X3_lastsFor hl_X7_443 (hp.mar (m := i) (show i < _ from (by omega))) rfl rfl rfl rfl (by decide) (by decide) (by omega) (by omega) rfl (by exact Nat.le_of_ble_eq_true rfl) dX7_lowestThatLasts_25 (fun v25 M hp25 => ?_)
      obtain ⟨rfl, rfl⟩ := hp25
      refine zif_eq (tgt := 33) C dX7_lowestThatLasts_28 (by decide) (fun h28 => ?_) (fun h28 => ?_)
      · replace h28 := b2i_0.mp h28
        refine ziinc (L1 := [_, _, _]) (v := nI (i + 1)) C dX7_lowestThatLasts_33 rfl (nI_1 i) rfl ?_
        refine zgoto (tgt := 2) C dX7_lowestThatLasts_36 (by decide) ?_
        exact ih (i + 1) (by omega) (by rw [← hq, lowK, show K.1 25 - (r + 1) = i by omega, if_neg (by rw [h28]; decide)])
      · replace h28 := b2i_n0.mp h28
        refine ziload_n C dX7_lowestThatLasts_31 rfl ?_
        exact zend_i C hE dX7_lowestThatLasts_32 (by omega) (by omega) ⟨by rw [← hq, lowK, show K.1 25 - (r + 1) = i by omega, if_pos h28], rfl⟩
  refine zconst (v := 0) C dX7_lowestThatLasts_0 (by decide) ?_
  refine zistore_n (L1 := [_, _, _]) C dX7_lowestThatLasts_1 rfl (Nat.le_of_ble_eq_true rfl) ?_
  exact zcg (loop (K.1 25) 0 (by omega) rfl) (by simp [zk1, nI_0])
set_option maxRecDepth 100000 in
set_option maxHeartbeats 1000000 in
theorem k_mayMarry {g : zGh} {K : zK} {X : zg → Option va_E} {ad : zg → Nat} {M : zM} {h w l : Nat} (hh : h < K.1 13) (hw : w < K.1 13) (hl : l ≤ K.1 2) (hp : zP g K X ad M) (h25 : K.1 25 ≤ 30) (hma : iMa K) (hch : iCh K) : zCt g yX7_mayMarry cX7_mayMarry 4 (some .boolean) 4 87 mkI [.ref (ad (0, 0)), .ref (ad (10, h)), .ref (ad (10, w)), .ref (ad (1, l))] M 0 0 (fun v M1 => v = b2i (mayK K h w l) ∧ M1 = M) noX := by
  refine zof [some (.ref (ad (0, 0))), some (.ref (ad (10, h))), some (.ref (ad (10, w))), some (.ref (ad (1, l)))] (by decide +kernel) rfl rfl (Nat.le_of_ble_eq_true rfl) ?_
  intro Z C hE hnm
  have C : zC g Z RX7 cX7_mayMarry 4 4 87 0 0 := C
  refine zaload_n C dX7_mayMarry_0 rfl ?_
  refine zaload_n C dX7_mayMarry_1 rfl ?_
  refine zcallV C (k_howManyLast hw hp h25 hma) hy_X7_howManyLast hv_X7_howManyLast hl_X7_367 hp.main rfl rfl rfl rfl (by decide) (by decide) (by omega) (by omega) rfl (by exact Nat.le_of_ble_eq_true rfl) dX7_mayMarry_2 (fun v2 M hp2 => ?_)
  obtain ⟨rfl, rfl⟩ := hp2
  refine zif_ne (tgt := 53) C dX7_mayMarry_5 (by decide) (fun h5 => ?_) (fun h5 => ?_)
  · refine zconst (v := 0) C dX7_mayMarry_53 (by decide) ?_
    exact zend_z C hE dX7_mayMarry_54 (by omega) (by omega) (by first | exact Or.inl rfl | exact Or.inr rfl | exact b2i_b _) ⟨by simp [mayK, b2i, h5], rfl⟩
  · refine zaload_n C dX7_mayMarry_8 rfl ?_
    refine zaload_n C dX7_mayMarry_9 rfl ?_
    refine zcallV C (k_howManyLast hh hp h25 hma) hy_X7_howManyLast hv_X7_howManyLast hl_X7_367 hp.main rfl rfl rfl rfl (by decide) (by decide) (by omega) (by omega) rfl (by exact Nat.le_of_ble_eq_true rfl) dX7_mayMarry_10 (fun v10 M hp10 => ?_)
    obtain ⟨rfl, rfl⟩ := hp10
    refine zaload_n C dX7_mayMarry_13 rfl ?_
    refine zconst (v := 2) C dX7_mayMarry_14 (by decide) ?_
    refine zaload_n C dX7_mayMarry_15 rfl ?_
    refine zget C hf_X7_51 hp.main (by rfl) dX7_mayMarry_16 ?_
    refine zcallV C (k_lawN 2 _ _ rfl (by decide) hp hl hch) hy_X2_numberOn hv_X2_numberOn hl_X7_114 (hp.lawo (l := l) hl) rfl rfl rfl rfl (by decide) (by decide) (by omega) (by omega) rfl (by exact Nat.le_of_ble_eq_true rfl) dX7_mayMarry_19 (fun v19 M hp19 => ?_)
    obtain ⟨rfl, rfl⟩ := hp19
    refine zicmp_ge (tgt := 53) C dX7_mayMarry_22 (by decide) (fun h22 => ?_) (fun h22 => ?_)
    · replace h22 := zlt_nl h22
      refine zconst (v := 0) C dX7_mayMarry_53 (by decide) ?_
      exact zend_z C hE dX7_mayMarry_54 (by omega) (by omega) (by first | exact Or.inl rfl | exact Or.inr rfl | exact b2i_b _) ⟨by simp [mayK, b2i, h5, h22], rfl⟩
    · replace h22 := znle_lt h22
      refine zaload_n C dX7_mayMarry_25 rfl ?_
      refine zcallV C (k_faithNow hp hh hch) hy_X4_faithNow hv_X4_faithNow hl_X7_172 (hp.per (p := h) hh) rfl rfl rfl rfl (by decide) (by decide) (by omega) (by omega) rfl (by exact Nat.le_of_ble_eq_true rfl) dX7_mayMarry_26 (fun v26 M hp26 => ?_)
      obtain ⟨rfl, rfl⟩ := hp26
      refine zaload_n C dX7_mayMarry_29 rfl ?_
      refine zcallV C (k_faithNow hp hw hch) hy_X4_faithNow hv_X4_faithNow hl_X7_172 (hp.per (p := w) hw) rfl rfl rfl rfl (by decide) (by decide) (by omega) (by omega) rfl (by exact Nat.le_of_ble_eq_true rfl) dX7_mayMarry_30 (fun v30 M hp30 => ?_)
      obtain ⟨rfl, rfl⟩ := hp30
      refine zicmp_eq (tgt := 49) C dX7_mayMarry_33 (by decide) (fun h33 => ?_) (fun h33 => ?_)
      · refine zconst (v := 1) C dX7_mayMarry_49 (by decide) ?_
        refine zgoto (tgt := 54) C dX7_mayMarry_50 (by decide) ?_
        exact zend_z C hE dX7_mayMarry_54 (by omega) (by omega) (by first | exact Or.inl rfl | exact Or.inr rfl | exact b2i_b _) ⟨by simp [mayK, b2i, h5, h22, h33], rfl⟩
      · refine zaload_n C dX7_mayMarry_36 rfl ?_
        refine zconst (v := 4) C dX7_mayMarry_37 (by decide) ?_
        refine zaload_n C dX7_mayMarry_38 rfl ?_
        refine zget C hf_X7_51 hp.main (by rfl) dX7_mayMarry_39 ?_
        refine zcallV C (k_lawN 4 _ _ rfl (by decide) hp hl hch) hy_X2_numberOn hv_X2_numberOn hl_X7_114 (hp.lawo (l := l) hl) rfl rfl rfl rfl (by decide) (by decide) (by omega) (by omega) rfl (by exact Nat.le_of_ble_eq_true rfl) dX7_mayMarry_42 (fun v42 M hp42 => ?_)
        obtain ⟨rfl, rfl⟩ := hp42
        refine zconst (v := 1) C dX7_mayMarry_45 (by decide) ?_
        refine zicmp_ne (tgt := 53) C dX7_mayMarry_46 (by decide) (fun h46 => ?_) (fun h46 => ?_)
        · refine zconst (v := 0) C dX7_mayMarry_53 (by decide) ?_
          exact zend_z C hE dX7_mayMarry_54 (by omega) (by omega) (by first | exact Or.inl rfl | exact Or.inr rfl | exact b2i_b _) ⟨by simp [mayK, b2i, h5, h22, h33, h46], rfl⟩
        · refine zconst (v := 1) C dX7_mayMarry_49 (by decide) ?_
          refine zgoto (tgt := 54) C dX7_mayMarry_50 (by decide) ?_
          exact zend_z C hE dX7_mayMarry_54 (by omega) (by omega) (by first | exact Or.inl rfl | exact Or.inr rfl | exact b2i_b _) ⟨by simp [mayK, b2i, h5, h22, h33, h46], rfl⟩
set_option maxRecDepth 100000 in
set_option maxHeartbeats 1000000 in
theorem k_treasury {g : zGh} {K : zK} {X : zg → Option va_E} {ad : zg → Nat} {M : zM}  (hp : zP g K X ad M)  : zCt g yX7_treasury cX7_treasury 1 (some .long) 0 0 mkL [.ref (ad (0, 0))] M 0 0 (fun v M1 => v = K.2.1 ∧ M1 = M) noX := by
  refine zof [some (.ref (ad (0, 0)))] (by decide +kernel) rfl rfl (Nat.le_of_ble_eq_true rfl) ?_
  intro Z C hE hnm
  have C : zC g Z RX7 cX7_treasury 1 0 0 0 0 := C
  refine zaload_n C dX7_treasury_0 rfl ?_
  refine zget C hf_X7_54 hp.main (by rfl) dX7_treasury_1 ?_
  exact zend_l C hE dX7_treasury_4 (by omega) (by omega) ⟨rfl, rfl⟩
set_option maxRecDepth 100000 in
set_option maxHeartbeats 1000000 in
theorem k_all {g : zGh} {K : zK} {X : zg → Option va_E} {ad : zg → Nat} {M : zM}  (hp : zP g K X ad M) (h13 : K.1 13 ≤ 40) : zCt g yX7_all cX7_all 4 (some .long) 3 64 mkL [.ref (ad (0, 0))] M 0 0 (fun v M1 => v = allK K (K.1 13) ∧ M1 = M) noX := by
  refine zof [some (.ref (ad (0, 0))), none, none, none] (by decide +kernel) rfl rfl (Nat.le_of_ble_eq_true rfl) ?_
  intro Z C hE hnm
  have C : zC g Z RX7 cX7_all 4 3 64 0 0 := C
  have loop : ∀ (r i : Nat), i + r = K.1 13 → zG g Z M 0 0 7 [some (.ref (ad (0, 0))), some (.long (allK K i)), none, some (.int (nI i))] [] := by
    intro r
    induction r with
    | zero =>
      intro i hi 
      refine ziload_n C dX7_all_7 rfl ?_
      refine zaload_n C dX7_all_8 rfl ?_
      refine zget C hf_X7_35 hp.main (by rfl) dX7_all_9 ?_
      refine zcallV C (q_size (hp.lq1 (by omega))) hy_Jx4a65c_size_8abf5 hv_Jx4a65c_size_8abf5 hl_X7_58 (hp.lo1) rfl rfl rfl rfl (by decide) (by decide) (by omega) (by omega) rfl (by exact Nat.le_of_ble_eq_true rfl) dX7_all_12 (fun v12 M hp12 => ?_)
      obtain ⟨rfl, rfl⟩ := hp12
      refine zicmp_ge (tgt := 41) C dX7_all_15 (by decide) (fun h15 => ?_) (fun h15 => by first | exact absurd (nI_le (by omega) (by omega)) h15 | exact absurd h15 (nI_le (by omega) (by omega)))
      refine zlload_n C dX7_all_41 rfl ?_
      exact zend_l C hE dX7_all_42 (by omega) (by omega) ⟨by rw [show K.1 13 = i by omega], rfl⟩
    | succ r ih =>
      intro i hi 
      refine ziload_n C dX7_all_7 rfl ?_
      refine zaload_n C dX7_all_8 rfl ?_
      refine zget C hf_X7_35 hp.main (by rfl) dX7_all_9 ?_
      refine zcallV C (q_size (hp.lq1 (by omega))) hy_Jx4a65c_size_8abf5 hv_Jx4a65c_size_8abf5 hl_X7_58 (hp.lo1) rfl rfl rfl rfl (by decide) (by decide) (by omega) (by omega) rfl (by exact Nat.le_of_ble_eq_true rfl) dX7_all_12 (fun v12 M hp12 => ?_)
      obtain ⟨rfl, rfl⟩ := hp12
      refine zicmp_ge (tgt := 41) C dX7_all_15 (by decide) (fun h15 => by first | exact absurd h15 (nI_ge (by omega) (by omega)) | exact absurd (nI_ge (by omega) (by omega)) h15) (fun h15 => ?_)
      refine zlload_n C dX7_all_18 rfl ?_
      refine zaload_n C dX7_all_19 rfl ?_
      refine zget C hf_X7_35 hp.main (by rfl) dX7_all_20 ?_
      refine ziload_n C dX7_all_23 rfl ?_
      refine zcallV C (q_get i (hp.lq1 (by omega)) (show i < _ from (by omega))) hy_Jx4a65c_get_915e3 hv_Jx4a65c_get_915e3 hl_X7_384 (hp.lo1) rfl rfl rfl rfl (by decide) (by decide) (by omega) (by omega) rfl (by exact Nat.le_of_ble_eq_true rfl) dX7_all_24 (fun v24 M hp24 => ?_)
      obtain ⟨rfl, rfl⟩ := hp24
      rw [if_pos (show i < _ from (by omega))]
      refine zcastS C (hp.per (p := i) (show i < _ from (by omega))) rfl hc_X7_128 dX7_all_27 ?_
      refine zget C hf_X7_256 (hp.per (p := i) (show i < _ from (by omega))) (by rfl) dX7_all_30 ?_
      refine zladd C dX7_all_33 ?_
      refine zlstore_n (L1 := [_, _, _, _]) C dX7_all_34 rfl (Nat.le_of_ble_eq_true rfl) ?_
      refine ziinc (L1 := [_, _, _, _]) (v := nI (i + 1)) C dX7_all_35 rfl (nI_1 i) rfl ?_
      refine zgoto (tgt := 7) C dX7_all_38 (by decide) ?_
      exact zcg (ih (i + 1) (by omega)) (by simp [zk1, zk2, allK])
  refine zaload_n C dX7_all_0 rfl ?_
  refine zget C hf_X7_54 hp.main (by rfl) dX7_all_1 ?_
  refine zlstore_n (L1 := [_, _, _, _]) C dX7_all_4 rfl (Nat.le_of_ble_eq_true rfl) ?_
  refine zconst (v := 0) C dX7_all_5 (by decide) ?_
  refine zistore_n (L1 := [_, _, _, _]) C dX7_all_6 rfl (Nat.le_of_ble_eq_true rfl) ?_
  exact zcg (loop (K.1 13) 0 (by omega)) (by simp [zk1, zk2, allK, nI_0])
set_option maxRecDepth 100000 in
set_option maxHeartbeats 1000000 in
theorem k_isSeised {g : zGh} {K : zK} {X : zg → Option va_E} {ad : zg → Nat} {M : zM} {p q : Nat} (hpn : p < K.1 13) (hqn : q < K.1 13) (hp : zP g K X ad M) (h33 : K.1 33 ≤ 20) (hsu : iSui K) : zCt g yX7_isSeisedBetween cX7_isSeisedBetween 5 (some .boolean) 3 64 mkI [.ref (ad (0, 0)), .ref (ad (10, p)), .ref (ad (10, q))] M 0 0 (fun v M1 => v = b2i (seiL K p q (K.1 33)) ∧ M1 = M) noX := by
  refine zof [some (.ref (ad (0, 0))), some (.ref (ad (10, p))), some (.ref (ad (10, q))), none, none] (by decide +kernel) rfl rfl (Nat.le_of_ble_eq_true rfl) ?_
  intro Z C hE hnm
  have C : zC g Z RX7 cX7_isSeisedBetween 5 3 64 0 0 := C
  have loop : ∀ (r i : Nat), i + r = K.1 33 → seiL K p q i = false → zG g Z M 0 0 2 [some (.ref (ad (0, 0))), some (.ref (ad (10, p))), some (.ref (ad (10, q))), some (.int (nI i)), none] [] := by
    intro r
    induction r with
    | zero =>
      intro i hi hq
      refine ziload_n C dX7_isSeisedBetween_2 rfl ?_
      refine zaload_n C dX7_isSeisedBetween_3 rfl ?_
      refine zget C hf_X7_41 hp.main (by rfl) dX7_isSeisedBetween_4 ?_
      refine zcallV C (q_size (hp.lq3 (by omega))) hy_Jx4a65c_size_8abf5 hv_Jx4a65c_size_8abf5 hl_X7_58 (hp.lo3) rfl rfl rfl rfl (by decide) (by decide) (by omega) (by omega) rfl (by exact Nat.le_of_ble_eq_true rfl) dX7_isSeisedBetween_7 (fun v7 M hp7 => ?_)
      obtain ⟨rfl, rfl⟩ := hp7
      refine zicmp_ge (tgt := 60) C dX7_isSeisedBetween_10 (by decide) (fun h10 => ?_) (fun h10 => by first | exact absurd (nI_le (by omega) (by omega)) h10 | exact absurd h10 (nI_le (by omega) (by omega)))
      refine zconst (v := 0) C dX7_isSeisedBetween_60 (by decide) ?_
      exact zend_z C hE dX7_isSeisedBetween_61 (by omega) (by omega) (by first | exact Or.inl rfl | exact Or.inr rfl | exact b2i_b _) ⟨by rw [show K.1 33 = i by omega, hq]; rfl, rfl⟩
    | succ r ih =>
      intro i hi hq
      refine ziload_n C dX7_isSeisedBetween_2 rfl ?_
      refine zaload_n C dX7_isSeisedBetween_3 rfl ?_
      refine zget C hf_X7_41 hp.main (by rfl) dX7_isSeisedBetween_4 ?_
      refine zcallV C (q_size (hp.lq3 (by omega))) hy_Jx4a65c_size_8abf5 hv_Jx4a65c_size_8abf5 hl_X7_58 (hp.lo3) rfl rfl rfl rfl (by decide) (by decide) (by omega) (by omega) rfl (by exact Nat.le_of_ble_eq_true rfl) dX7_isSeisedBetween_7 (fun v7 M hp7 => ?_)
      obtain ⟨rfl, rfl⟩ := hp7
      refine zicmp_ge (tgt := 60) C dX7_isSeisedBetween_10 (by decide) (fun h10 => by first | exact absurd h10 (nI_ge (by omega) (by omega)) | exact absurd (nI_ge (by omega) (by omega)) h10) (fun h10 => ?_)
      refine zaload_n C dX7_isSeisedBetween_13 rfl ?_
      refine zget C hf_X7_41 hp.main (by rfl) dX7_isSeisedBetween_14 ?_
      refine ziload_n C dX7_isSeisedBetween_17 rfl ?_
      refine zcallV C (q_get i (hp.lq3 (by omega)) (show i < _ from (by omega))) hy_Jx4a65c_get_915e3 hv_Jx4a65c_get_915e3 hl_X7_384 (hp.lo3) rfl rfl rfl rfl (by decide) (by decide) (by omega) (by omega) rfl (by exact Nat.le_of_ble_eq_true rfl) dX7_isSeisedBetween_18 (fun v18 M hp18 => ?_)
      obtain ⟨rfl, rfl⟩ := hp18
      rw [if_pos (show i < _ from (by omega))]
      refine zcastS C (hp.sui (s := i) (show i < _ from (by omega))) rfl hc_X7_280 dX7_isSeisedBetween_21 ?_
      refine zastore (L1 := [_, _, _, _, _]) C dX7_isSeisedBetween_24 rfl (Nat.le_of_ble_eq_true rfl) ?_
      refine zaload C dX7_isSeisedBetween_26 rfl ?_
      refine zget C hf_X7_287 (hp.sui (s := i) (show i < _ from (by omega))) (by rfl) dX7_isSeisedBetween_28 ?_
      refine zif_ne (tgt := 54) C dX7_isSeisedBetween_31 (by decide) (fun h31 => ?_) (fun h31 => ?_)
      · replace h31 : ¬ (ksu K i).2.2.2.2.1 = 0 := h31
        refine ziinc (L1 := [_, _, _, _, _]) (v := nI (i + 1)) C dX7_isSeisedBetween_54 rfl (nI_1 i) rfl ?_
        refine zgoto (tgt := 2) C dX7_isSeisedBetween_57 (by decide) ?_
        refine zfor [true, true, true, true, false] (L1 := [_, _, _, _, _]) rfl ?_
        exact ih (i + 1) (by omega) (by simp [seiL, hq, h31])
      · replace h31 : (ksu K i).2.2.2.2.1 = 0 := h31
        refine zaload C dX7_isSeisedBetween_34 rfl ?_
        refine zaload_n C dX7_isSeisedBetween_36 rfl ?_
        refine zcallV C (k_isBetween hp (show i < _ from (by omega)) hpn hsu) hy_X5_isBetween hv_X5_isBetween hl_X7_304 (hp.sui (s := i) (show i < _ from (by omega))) rfl rfl rfl rfl (by decide) (by decide) (by omega) (by omega) rfl (by exact Nat.le_of_ble_eq_true rfl) dX7_isSeisedBetween_37 (fun v37 M hp37 => ?_)
        obtain ⟨rfl, rfl⟩ := hp37
        refine zif_eq (tgt := 54) C dX7_isSeisedBetween_40 (by decide) (fun h40 => ?_) (fun h40 => ?_)
        · replace h40 := b2i_0.mp h40
          refine ziinc (L1 := [_, _, _, _, _]) (v := nI (i + 1)) C dX7_isSeisedBetween_54 rfl (nI_1 i) rfl ?_
          refine zgoto (tgt := 2) C dX7_isSeisedBetween_57 (by decide) ?_
          refine zfor [true, true, true, true, false] (L1 := [_, _, _, _, _]) rfl ?_
          exact ih (i + 1) (by omega) (by simp [seiL, hq, h31, h40])
        · replace h40 := b2i_n0.mp h40
          refine zaload C dX7_isSeisedBetween_43 rfl ?_
          refine zaload_n C dX7_isSeisedBetween_45 rfl ?_
          refine zcallV C (k_isBetween hp (show i < _ from (by omega)) hqn hsu) hy_X5_isBetween hv_X5_isBetween hl_X7_304 (hp.sui (s := i) (show i < _ from (by omega))) rfl rfl rfl rfl (by decide) (by decide) (by omega) (by omega) rfl (by exact Nat.le_of_ble_eq_true rfl) dX7_isSeisedBetween_46 (fun v46 M hp46 => ?_)
          obtain ⟨rfl, rfl⟩ := hp46
          refine zif_eq (tgt := 54) C dX7_isSeisedBetween_49 (by decide) (fun h49 => ?_) (fun h49 => ?_)
          · replace h49 := b2i_0.mp h49
            refine ziinc (L1 := [_, _, _, _, _]) (v := nI (i + 1)) C dX7_isSeisedBetween_54 rfl (nI_1 i) rfl ?_
            refine zgoto (tgt := 2) C dX7_isSeisedBetween_57 (by decide) ?_
            refine zfor [true, true, true, true, false] (L1 := [_, _, _, _, _]) rfl ?_
            exact ih (i + 1) (by omega) (by simp [seiL, hq, h31, h40, h49])
          · replace h49 := b2i_n0.mp h49
            refine zconst (v := 1) C dX7_isSeisedBetween_52 (by decide) ?_
            exact zend_z C hE dX7_isSeisedBetween_53 (by omega) (by omega) (by first | exact Or.inl rfl | exact Or.inr rfl | exact b2i_b _) ⟨by rw [show K.1 33 = (i + 1) + r by omega, seiL_mono (i := i + 1) (by simp [seiL, h31, h40, h49]) r]; rfl, rfl⟩
  refine zconst (v := 0) C dX7_isSeisedBetween_0 (by decide) ?_
  refine zistore_n (L1 := [_, _, _, _, _]) C dX7_isSeisedBetween_1 rfl (Nat.le_of_ble_eq_true rfl) ?_
  exact zcg (loop (K.1 33) 0 (by omega) rfl) (by simp [zk1, nI_0])
set_option maxRecDepth 100000 in
set_option maxHeartbeats 1000000 in
theorem k_isWon {g : zGh} {K : zK} {X : zg → Option va_E} {ad : zg → Nat} {M : zM} {s l : Nat} (hs : s < K.1 33) (hl : l ≤ K.1 2) (hp : zP g K X ad M) (h33 : K.1 33 ≤ 20) (h2 : K.1 2 ≤ 6) (hch : iCh K) (hf : iFa K) (hwp : iWi K) (hwi : iW4 K) : zCt g yX7_isWonBefore cX7_isWonBefore 9 (some .boolean) 3 64 mkI [.ref (ad (0, 0)), .ref (ad (12, s)), .ref (ad (1, l))] M 0 0 (fun v M1 => v = b2i (wonK K s l) ∧ M1 = M) noX := by
  refine zof [some (.ref (ad (0, 0))), some (.ref (ad (12, s))), some (.ref (ad (1, l))), none, none, none, none, none, none] (by decide +kernel) rfl rfl (Nat.le_of_ble_eq_true rfl) ?_
  intro Z C hE hnm
  have C : zC g Z RX7 cX7_isWonBefore 9 3 64 0 0 := C
  have hw64 : ∀ s, (kws K s).1 ≤ 64 := fun s => Nat.le_trans (hwi s) (by decide)
  have hn40 := hwi s
  obtain ⟨x, ex⟩ : ∃ x, x = lawK K l 6 (nI (K.1 1)) := ⟨_, rfl⟩
  have hs2 : s < K.1 33 ∧ K.1 33 ≤ 20 := ⟨hs, h33⟩
  have loop : ∀ (r i : Nat), i + r = (kws K s).1 → zG g Z M 0 0 20 [some (.ref (ad (0, 0))), some (.ref (ad (12, s))), some (.ref (ad (1, l))), some (.int x), some (.int (nI (forK K s x true i))), some (.int (nI (forK K s x false i))), some (.int (nI i)), none, none] [] := by
    intro r
    induction r with
    | zero =>
      intro i hi 
      have hT := forK_le K s x true i
      have hF := forK_le K s x false i
      refine ziload C dX7_isWonBefore_20 rfl ?_
      refine zaload_n C dX7_isWonBefore_22 rfl ?_
      refine zget C hf_X7_313 (hp.sui (s := s) hs) (by rfl) dX7_isWonBefore_23 ?_
      refine zcallV C (q_size (hp.lqW (s := s) hs2 (hwi _))) hy_Jx4a65c_size_8abf5 hv_Jx4a65c_size_8abf5 hl_X7_58 (hp.loW (s := s) hs2) rfl rfl rfl rfl (by decide) (by decide) (by omega) (by omega) rfl (by exact Nat.le_of_ble_eq_true rfl) dX7_isWonBefore_26 (fun v26 M hp26 => ?_)
      obtain ⟨rfl, rfl⟩ := hp26
      refine zicmp_ge (tgt := 93) C dX7_isWonBefore_29 (by decide) (fun h29 => ?_) (fun h29 => by first | exact absurd (nI_le (by omega) (by omega)) h29 | exact absurd h29 (nI_le (by omega) (by omega)))
      refine ziload C dX7_isWonBefore_93 rfl ?_
      refine ziload C dX7_isWonBefore_95 rfl ?_
      refine zicmp_le (tgt := 110) C dX7_isWonBefore_97 (by decide) (fun h97 => ?_) (fun h97 => ?_)
      · replace h97 := Nat.not_lt.mpr (zle_n h97)
        refine zconst (v := 0) C dX7_isWonBefore_110 (by decide) ?_
        exact zend_z C hE dX7_isWonBefore_111 (by omega) (by omega) (by first | exact Or.inl rfl | exact Or.inr rfl | exact b2i_b _) ⟨by rw [wonK, ← ex, show (kws K s).1 = i by omega]; simp [b2i, h97], rfl⟩
      · replace h97 := znle_n h97
        refine ziload C dX7_isWonBefore_100 rfl ?_
        refine zconst (v := 4) C dX7_isWonBefore_102 (by decide) ?_
        refine zicmp_lt (tgt := 110) C dX7_isWonBefore_103 (by decide) (fun h103 => ?_) (fun h103 => ?_)
        · replace h103 := zlt_n4 h103
          refine zconst (v := 0) C dX7_isWonBefore_110 (by decide) ?_
          exact zend_z C hE dX7_isWonBefore_111 (by omega) (by omega) (by first | exact Or.inl rfl | exact Or.inr rfl | exact b2i_b _) ⟨by rw [wonK, ← ex, show (kws K s).1 = i by omega]; simp [b2i, h97, h103], rfl⟩
        · replace h103 := znlt_n4 h103
          refine zconst (v := 1) C dX7_isWonBefore_106 (by decide) ?_
          refine zgoto (tgt := 111) C dX7_isWonBefore_107 (by decide) ?_
          exact zend_z C hE dX7_isWonBefore_111 (by omega) (by omega) (by first | exact Or.inl rfl | exact Or.inr rfl | exact b2i_b _) ⟨by rw [wonK, ← ex, show (kws K s).1 = i by omega]; simp [b2i, h97, h103], rfl⟩
    | succ r ih =>
      intro i hi 
      refine ziload C dX7_isWonBefore_20 rfl ?_
      refine zaload_n C dX7_isWonBefore_22 rfl ?_
      refine zget C hf_X7_313 (hp.sui (s := s) hs) (by rfl) dX7_isWonBefore_23 ?_
      refine zcallV C (q_size (hp.lqW (s := s) hs2 (hwi _))) hy_Jx4a65c_size_8abf5 hv_Jx4a65c_size_8abf5 hl_X7_58 (hp.loW (s := s) hs2) rfl rfl rfl rfl (by decide) (by decide) (by omega) (by omega) rfl (by exact Nat.le_of_ble_eq_true rfl) dX7_isWonBefore_26 (fun v26 M hp26 => ?_)
      obtain ⟨rfl, rfl⟩ := hp26
      refine zicmp_ge (tgt := 93) C dX7_isWonBefore_29 (by decide) (fun h29 => by first | exact absurd h29 (nI_ge (by omega) (by omega)) | exact absurd (nI_ge (by omega) (by omega)) h29) (fun h29 => ?_)
      refine zaload_n C dX7_isWonBefore_32 rfl ?_
      refine zget C hf_X7_313 (hp.sui (s := s) hs) (by rfl) dX7_isWonBefore_33 ?_
      refine ziload C dX7_isWonBefore_36 rfl ?_
      refine zcallV C (q_get i (hp.lqW (s := s) hs2 (hwi _)) (show i < _ from (by omega))) hy_Jx4a65c_get_915e3 hv_Jx4a65c_get_915e3 hl_X7_384 (hp.loW (s := s) hs2) rfl rfl rfl rfl (by decide) (by decide) (by omega) (by omega) rfl (by exact Nat.le_of_ble_eq_true rfl) dX7_isWonBefore_38 (fun v38 M hp38 => ?_)
      obtain ⟨rfl, rfl⟩ := hp38
      rw [if_pos (show i < _ from (by omega))]
      refine zcastS C (hp.wit (s := s) (i := i) hs (show i < _ from (by omega)) (hw64 _)) rfl hc_X7_316 dX7_isWonBefore_41 ?_
      refine zastore (L1 := [_, _, _, _, _, _, _, _, _]) C dX7_isWonBefore_44 rfl (Nat.le_of_ble_eq_true rfl) ?_
      refine zconst (v := 1) C dX7_isWonBefore_46 (by decide) ?_
      refine ziload_n C dX7_isWonBefore_47 rfl ?_
      refine zaload C dX7_isWonBefore_48 rfl ?_
      refine zget C hf_X7_469 (hp.wit (s := s) (i := i) hs (show i < _ from (by omega)) (hw64 _)) (by rfl) dX7_isWonBefore_50 ?_
      refine zcallV C (k_faithNow hp (hwp _ _ hs (show i < _ from (by omega))) hch) hy_X4_faithNow hv_X4_faithNow hl_X7_172 (hp.per (p := _) (hwp _ _ hs (show i < _ from (by omega)))) rfl rfl rfl rfl (by decide) (by decide) (by omega) (by omega) rfl (by exact Nat.le_of_ble_eq_true rfl) dX7_isWonBefore_53 (fun v53 M hp53 => ?_)
      obtain ⟨rfl, rfl⟩ := hp53
      obtain ⟨c, hc, ec⟩ := newK_c hf (hwp s i hs (by omega))
      rw [ec]
      refine zishr C dX7_isWonBefore_56 ?_
      refine zconst (v := 1) C dX7_isWonBefore_57 (by decide) ?_
      refine ziand C dX7_isWonBefore_58 ?_
      refine ziadd C dX7_isWonBefore_59 ?_
      rw [wgK_e x (show c < 32 by omega)]
      refine zistore (L1 := [_, _, _, _, _, _, _, _, _]) C dX7_isWonBefore_60 rfl (Nat.le_of_ble_eq_true rfl) ?_
      refine zaload C dX7_isWonBefore_62 rfl ?_
      refine zget C hf_X7_472 (hp.wit (s := s) (i := i) hs (show i < _ from (by omega)) (hw64 _)) (by rfl) dX7_isWonBefore_64 ?_
      refine zif_eq (tgt := 80) C dX7_isWonBefore_67 (by decide) (fun h67 => ?_) (fun h67 => ?_)
      · replace h67 := b2i_0.mp h67
        refine ziload C dX7_isWonBefore_80 rfl ?_
        refine ziload C dX7_isWonBefore_82 rfl ?_
        refine ziadd C dX7_isWonBefore_84 ?_
        rw [nI_add]
        refine zistore (L1 := [_, _, _, _, _, _, _, _, _]) C dX7_isWonBefore_85 rfl (Nat.le_of_ble_eq_true rfl) ?_
        refine ziinc (L1 := [_, _, _, _, _, _, _, _, _]) (v := nI (i + 1)) C dX7_isWonBefore_87 rfl (nI_1 i) rfl ?_
        refine zgoto (tgt := 20) C dX7_isWonBefore_90 (by decide) ?_
        refine zfor [true, true, true, true, true, true, true, false, false] (L1 := [_, _, _, _, _, _, _, _, _]) rfl ?_
        exact zcg (ih (i + 1) (by omega)) (by simp [zk1, forK, h67, ec])
      · replace h67 := b2i_n0.mp h67
        refine ziload C dX7_isWonBefore_70 rfl ?_
        refine ziload C dX7_isWonBefore_72 rfl ?_
        refine ziadd C dX7_isWonBefore_74 ?_
        rw [nI_add]
        refine zistore (L1 := [_, _, _, _, _, _, _, _, _]) C dX7_isWonBefore_75 rfl (Nat.le_of_ble_eq_true rfl) ?_
        refine zgoto (tgt := 87) C dX7_isWonBefore_77 (by decide) ?_
        refine ziinc (L1 := [_, _, _, _, _, _, _, _, _]) (v := nI (i + 1)) C dX7_isWonBefore_87 rfl (nI_1 i) rfl ?_
        refine zgoto (tgt := 20) C dX7_isWonBefore_90 (by decide) ?_
        refine zfor [true, true, true, true, true, true, true, false, false] (L1 := [_, _, _, _, _, _, _, _, _]) rfl ?_
        exact zcg (ih (i + 1) (by omega)) (by simp [zk1, forK, h67, ec])
  refine zaload_n C dX7_isWonBefore_0 rfl ?_
  refine zbipush (v := 6) C dX7_isWonBefore_1 (by decide) ?_
  refine zaload_n C dX7_isWonBefore_3 rfl ?_
  refine zget C hf_X7_51 hp.main (by rfl) dX7_isWonBefore_4 ?_
  refine zcallV C (k_lawN 6 _ _ rfl (by decide) hp hl hch) hy_X2_numberOn hv_X2_numberOn hl_X7_114 (hp.lawo (l := l) hl) rfl rfl rfl rfl (by decide) (by decide) (by omega) (by omega) rfl (by exact Nat.le_of_ble_eq_true rfl) dX7_isWonBefore_7 (fun v7 M hp7 => ?_)
  obtain ⟨hv7, rfl⟩ := hp7
  rw [← ex] at hv7
  subst hv7
  refine zistore_n (L1 := [_, _, _, _, _, _, _, _, _]) C dX7_isWonBefore_10 rfl (Nat.le_of_ble_eq_true rfl) ?_
  refine zconst (v := 0) C dX7_isWonBefore_11 (by decide) ?_
  refine zistore (L1 := [_, _, _, _, _, _, _, _, _]) C dX7_isWonBefore_12 rfl (Nat.le_of_ble_eq_true rfl) ?_
  refine zconst (v := 0) C dX7_isWonBefore_14 (by decide) ?_
  refine zistore (L1 := [_, _, _, _, _, _, _, _, _]) C dX7_isWonBefore_15 rfl (Nat.le_of_ble_eq_true rfl) ?_
  refine zconst (v := 0) C dX7_isWonBefore_17 (by decide) ?_
  refine zistore (L1 := [_, _, _, _, _, _, _, _, _]) C dX7_isWonBefore_18 rfl (Nat.le_of_ble_eq_true rfl) ?_
  exact zcg (loop (kws K s).1 0 (by omega)) (by simp [zk1, forK, nI_0])
