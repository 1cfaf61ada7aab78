/-- the reference's state: its counters, the crown's goods, its rows of ints (and booleans), its rows of longs, by the places of the fields -/
abbrev zS : Type := (Nat → Nat) × Int64 × (Nat → Nat → Int32) × (Nat → Nat → Int64)
def zkd : Nat → Nat × Nat := fun j => [(0, 0), (0, 0), (0, 0), (2, 5628), (0, 0), (2, 100), (2, 100), (2, 100), (2, 100), (0, 0), (2, 40), (2, 40), (2, 40), (0, 0), (3, 40), (2, 40), (2, 40), (2, 40), (3, 40), (4, 40), (2, 40), (2, 40960), (2, 40), (2, 40), (3, 40), (0, 0), (2, 30), (2, 30), (2, 30), (2, 30), (2, 30), (3, 30), (3, 30), (0, 0), (2, 20), (2, 20), (2, 20), (2, 20), (3, 20), (2, 20), (3, 20), (2, 800), (4, 20), (4, 20), (2, 20), (3, 20), (1, 0), (3, 40)].getD j (0, 0)
def zfv (S : zS) (ad : Nat → Nat) (j : Nat) : Value := if (zkd j).1 = 0 then .int (nI (S.1 j)) else if (zkd j).1 = 1 then .long S.2.1 else .ref (ad j)
def zme (g : zGh) (S : zS) (j : Nat) : va_E := if (zkd j).1 = 2 then zai g (zkd j).2 (S.2.2.1 j) else if (zkd j).1 = 3 then zaz g (zkd j).2 (S.2.2.1 j) else zaj g (zkd j).2 (S.2.2.2 j)
def zsN (S : zS) (j v : Nat) : zS := (va_up S.1 j v, S.2)
def zsC (S : zS) (v : Int64) : zS := (S.1, v, S.2.2)
def zsA (S : zS) (j : Nat) (f : Nat → Int32) : zS := (S.1, S.2.1, va_up S.2.2.1 j f, S.2.2.2)
def zsL (S : zS) (j : Nat) (f : Nat → Int64) : zS := (S.1, S.2.1, S.2.2.1, va_up S.2.2.2 j f)
/-- the reference's object and rows in a memory; nothing else of M0 is changed -/
def zR (g : zGh) (M0 : zM) (mo : Nat) (ad : Nat → Nat) (S : zS) (M : zM) : Prop :=
  M mo = some (zob 9 ((List.range 48).map (zfv S ad))) ∧ (∀ j, j < 48 → 2 ≤ (zkd j).1 → M (ad j) = some (zme g S j)) ∧
  (∀ i j, i < 48 → j < 48 → 2 ≤ (zkd i).1 → 2 ≤ (zkd j).1 → ad i = ad j → i = j) ∧ (∀ q, q ≠ mo → (∀ j, j < 48 → 2 ≤ (zkd j).1 → q ≠ ad j) → M q = M0 q)
theorem zkd_lt (j : Nat) : (zkd j).2 < 2 ^ 31 := by
  by_cases h : j < 48
  · have : ∀ j, j < 48 → (zkd j).2 < 2 ^ 31 := by decide +kernel
    exact this j h
  · have : zkd j = (0, 0) := by
      unfold zkd
      rw [List.getD_eq_getElem?_getD, List.getElem?_eq_none (by simp; omega)]
      rfl
    rw [this]
    decide
theorem zfv_eq {S S1 : zS} {ad : Nat → Nat} {j : Nat} (h : (zkd j).1 = 0 → S.1 j = S1.1 j) (h2 : (zkd j).1 = 1 → S.2.1 = S1.2.1) : zfv S ad j = zfv S1 ad j := by
  unfold zfv
  by_cases h0 : (zkd j).1 = 0
  · simp [h0, h h0]
  · by_cases h1 : (zkd j).1 = 1
    · simp [h1, h2 h1]
    · simp [h0, h1]
theorem zR.ne {g : zGh} {M0 M : zM} {mo : Nat} {ad : Nat → Nat} {S : zS} (hR : zR g M0 mo ad S M) {j : Nat} (hj : j < 48) (hk : 2 ≤ (zkd j).1) : mo ≠ ad j := by
  intro e
  have h1 := hR.1
  rw [e, hR.2.1 j hj hk] at h1
  unfold zme zob at h1
  split at h1
  · cases h1
  · split at h1 <;> cases h1
theorem zR.obj {g : zGh} {M0 M : zM} {mo : Nat} {ad : Nat → Nat} {S S1 : zS} (hR : zR g M0 mo ad S M) (hA : S1.2.2 = S.2.2) : zR g M0 mo ad S1 (zup M mo (zob 9 ((List.range 48).map (zfv S1 ad)))) := by
  refine ⟨zup_same, fun j hj hk => ?_, hR.2.2.1, fun q h1 h2 => ?_⟩
  · rw [zup_ne (hR.ne hj hk).symm, hR.2.1 j hj hk]
    unfold zme
    rw [hA]
  · rw [zup_ne h1]
    exact hR.2.2.2 q h1 h2
theorem zR.arr {g : zGh} {M0 M : zM} {mo : Nat} {ad : Nat → Nat} {S S1 : zS} (hR : zR g M0 mo ad S M) {j : Nat} (hj : j < 48) (hk : 2 ≤ (zkd j).1) (h1 : S1.1 = S.1) (h2 : S1.2.1 = S.2.1) (h3 : ∀ i, i ≠ j → S1.2.2.1 i = S.2.2.1 i) (h4 : ∀ i, i ≠ j → S1.2.2.2 i = S.2.2.2 i) : zR g M0 mo ad S1 (zup M (ad j) (zme g S1 j)) := by
  refine ⟨?_, fun i hi hki => ?_, hR.2.2.1, fun q g1 g2 => ?_⟩
  · rw [zup_ne (hR.ne hj hk), hR.1]
    have : zfv S1 ad = zfv S ad := funext fun i => zfv_eq (fun _ => by rw [h1]) (fun _ => h2)
    rw [this]
  · by_cases hij : i = j
    · subst hij
      exact zup_same
    · rw [zup_ne (fun e => hij (hR.2.2.1 i j hi hj hki hk e)), hR.2.1 i hi hki]
      unfold zme
      rw [h3 i hij, h4 i hij]
  · rw [zup_ne (g2 j hj hk)]
    exact hR.2.2.2 q g1 g2
section ZMR
variable {g : zGh} {X : zX} {cc : ByteArray} {nL fr lc mc ms : Nat} {M0 M : zM} {mo : Nat} {ad : Nat → Nat} {S : zS} {k n pc : Nat} {L : List (Option Value)} {st : List Value} {idx j : Nat}
theorem zR.fv (hR : zR g M0 mo ad S M) (hj : j < 48) : ((List.range 48).map (zfv S ad))[j]? = some (zfv S ad j) := by simp [hj]
theorem zmgi (C : zC g X RX8 cc nL fr lc mc ms) (hR : zR g M0 mo ad S M) (hF : zF RX8 idx 9 j RX8 TX8 48 "MilletcourtModel") (hk : (zkd j).1 = 0) (hd : decode cc pc = .ok (.getfield idx, 3)) (kk : zG g X M k n (pc + 3) L (.int (nI (S.1 j)) :: st)) : zG g X M k n pc L (.ref mo :: st) :=
  zget C hF hR.1 (by rw [hR.fv hF.2.1]; simp [zfv, hk]) hd kk
theorem zmgl (C : zC g X RX8 cc nL fr lc mc ms) (hR : zR g M0 mo ad S M) (hF : zF RX8 idx 9 j RX8 TX8 48 "MilletcourtModel") (hk : (zkd j).1 = 1) (hd : decode cc pc = .ok (.getfield idx, 3)) (kk : zG g X M k n (pc + 3) L (.long S.2.1 :: st)) : zG g X M k n pc L (.ref mo :: st) :=
  zget C hF hR.1 (by rw [hR.fv hF.2.1]; simp [zfv, hk]) hd kk
theorem zmga (C : zC g X RX8 cc nL fr lc mc ms) (hR : zR g M0 mo ad S M) (hF : zF RX8 idx 9 j RX8 TX8 48 "MilletcourtModel") (hk : Nat.ble 2 (zkd j).1 = true) (hd : decode cc pc = .ok (.getfield idx, 3)) (kk : zG g X M k n (pc + 3) L (.ref (ad j) :: st)) : zG g X M k n pc L (.ref mo :: st) :=
  zget C hF hR.1 (by
    have hk := Nat.le_of_ble_eq_true hk
    rw [hR.fv hF.2.1]; unfold zfv; rw [if_neg (by omega), if_neg (by omega)]) hd kk
theorem zmpi (C : zC g X RX8 cc nL fr lc mc ms) (hR : zR g M0 mo ad S M) (hF : zF RX8 idx 9 j RX8 TX8 48 "MilletcourtModel") (hk : (zkd j).1 = 0) (hty : tyX8 j = .int) (hfin : (TX8 j).2.2.2 = false) {x : Int32} {v : Nat} (hx : x = nI v) (hd : decode cc pc = .ok (.putfield idx, 3)) (kk : ∀ M1, zR g M0 mo ad (zsN S j v) M1 → zG g X M1 k n (pc + 3) L st) : zG g X M k n pc L (.int x :: .ref mo :: st) := by
  subst hx
  refine zput C hF hp_X8 hfin hR.1 (by rw [hty]; rfl) (by rw [hty]; rfl) (by simp [hF.2.1]) ?_ hd (kk _ (hR.obj rfl))
  apply List.ext_getElem?
  intro i
  by_cases hij : j = i
  · subst hij
    rw [List.getElem?_set_self (by simp [hF.2.1])]
    simp [hF.2.1, zfv, hk, zsN, va_up]
  · rw [List.getElem?_set_ne hij]
    by_cases hi : i < 48
    · simp only [List.getElem?_map, List.getElem?_range hi, Option.map_some]
      rw [zfv_eq (S := S) (S1 := zsN S j v) (fun _ => by simp [zsN, va_up, Ne.symm hij]) (fun _ => rfl)]
    · simp [hi]
theorem zmpl (C : zC g X RX8 cc nL fr lc mc ms) (hR : zR g M0 mo ad S M) (hF : zF RX8 idx 9 46 RX8 TX8 48 "MilletcourtModel") {x : Int64} (hd : decode cc pc = .ok (.putfield idx, 3)) (kk : ∀ M1, zR g M0 mo ad (zsC S x) M1 → zG g X M1 k n (pc + 3) L st) : zG g X M k n pc L (.long x :: .ref mo :: st) := by
  refine zput C hF hp_X8 (by decide) hR.1 rfl rfl (by simp) ?_ hd (kk _ (hR.obj rfl))
  apply List.ext_getElem?
  intro i
  by_cases hij : 46 = i
  · subst hij
    rw [List.getElem?_set_self (by simp)]
    rfl
  · rw [List.getElem?_set_ne hij]
    by_cases hi : i < 48
    · simp only [List.getElem?_map, List.getElem?_range hi, Option.map_some]
      rw [zfv_eq (S := S) (S1 := zsC S x) (fun _ => rfl) (fun h1 => ?_)]
      exact absurd h1 (by
        have : ∀ i, i < 48 → 46 ≠ i → ¬ (zkd i).1 = 1 := by decide +kernel
        exact this i hi hij)
    · simp [hi]
theorem zmia (C : zC g X RX8 cc nL fr lc mc ms) (hR : zR g M0 mo ad S M) (hk : (zkd j).1 = 2) (hj : Nat.ble (j + 1) 48 = true) {i : Int32} {i0 : Nat} (hi : i = nI i0) (hlt : i0 < (zkd j).2) (hd : decode cc pc = .ok (.iaload, 1)) (kk : zG g X M k n (pc + 1) L (.int (S.2.2.1 j i0) :: st)) : zG g X M k n pc L (.int i :: .ref (ad j) :: st) := by
  subst hi
  have hz := Nat.lt_trans hlt (zkd_lt j)
  refine ziald (N := (zkd j).2) (f := S.2.2.1 j) C (by rw [hR.2.1 j (Nat.le_of_ble_eq_true hj) (by omega)]; simp [zme, hk]) (vp_in_nI hlt (zkd_lt j)) hd ?_
  rw [nI_clamp hz]
  exact kk
theorem zmza (C : zC g X RX8 cc nL fr lc mc ms) (hR : zR g M0 mo ad S M) (hk : (zkd j).1 = 3) (hj : Nat.ble (j + 1) 48 = true) {i : Int32} {i0 : Nat} (hi : i = nI i0) (hlt : i0 < (zkd j).2) (hd : decode cc pc = .ok (.baload, 1)) (kk : zG g X M k n (pc + 1) L (.int (S.2.2.1 j i0) :: st)) : zG g X M k n pc L (.int i :: .ref (ad j) :: st) := by
  subst hi
  have hz := Nat.lt_trans hlt (zkd_lt j)
  refine zzald (N := (zkd j).2) (f := S.2.2.1 j) C (by rw [hR.2.1 j (Nat.le_of_ble_eq_true hj) (by omega)]; simp [zme, hk]) (vp_in_nI hlt (zkd_lt j)) hd ?_
  rw [nI_clamp hz]
  exact kk
theorem zmla (C : zC g X RX8 cc nL fr lc mc ms) (hR : zR g M0 mo ad S M) (hk : (zkd j).1 = 4) (hj : Nat.ble (j + 1) 48 = true) {i : Int32} {i0 : Nat} (hi : i = nI i0) (hlt : i0 < (zkd j).2) (hd : decode cc pc = .ok (.laload, 1)) (kk : zG g X M k n (pc + 1) L (.long (S.2.2.2 j i0) :: st)) : zG g X M k n pc L (.int i :: .ref (ad j) :: st) := by
  subst hi
  have hz := Nat.lt_trans hlt (zkd_lt j)
  refine zlald (N := (zkd j).2) (f := S.2.2.2 j) C (by rw [hR.2.1 j (Nat.le_of_ble_eq_true hj) (by omega)]; simp [zme, hk]) (vp_in_nI hlt (zkd_lt j)) hd ?_
  rw [nI_clamp hz]
  exact kk
theorem zmis (C : zC g X RX8 cc nL fr lc mc ms) (hR : zR g M0 mo ad S M) (hk : (zkd j).1 = 2) (hj : Nat.ble (j + 1) 48 = true) {i x : Int32} {i0 : Nat} (hi : i = nI i0) (hlt : i0 < (zkd j).2) (hd : decode cc pc = .ok (.iastore, 1)) (kk : ∀ M1, zR g M0 mo ad (zsA S j (upd (S.2.2.1 j) i0 x)) M1 → zG g X M1 k n (pc + 1) L st) : zG g X M k n pc L (.int x :: .int i :: .ref (ad j) :: st) := by
  subst hi
  have hz := Nat.lt_trans hlt (zkd_lt j)
  refine ziast (N := (zkd j).2) (f := S.2.2.1 j) C (by rw [hR.2.1 j (Nat.le_of_ble_eq_true hj) (by omega)]; simp [zme, hk]) (vp_in_nI hlt (zkd_lt j)) hd ?_
  rw [nI_clamp hz]
  have h := hR.arr (S1 := zsA S j (upd (S.2.2.1 j) i0 x)) (Nat.le_of_ble_eq_true hj) (by omega) rfl rfl (fun i hi => by simp [zsA, va_up, hi]) (fun _ _ => rfl)
  rw [show zme g (zsA S j (upd (S.2.2.1 j) i0 x)) j = zai g (zkd j).2 (upd (S.2.2.1 j) i0 x) by simp [zme, hk, zsA, va_up]] at h
  exact kk _ h
theorem zmzs (C : zC g X RX8 cc nL fr lc mc ms) (hR : zR g M0 mo ad S M) (hk : (zkd j).1 = 3) (hj : Nat.ble (j + 1) 48 = true) {i x : Int32} {i0 : Nat} (hi : i = nI i0) (hlt : i0 < (zkd j).2) (hx : x = 0 ∨ x = 1) (hd : decode cc pc = .ok (.bastore, 1)) (kk : ∀ M1, zR g M0 mo ad (zsA S j (upd (S.2.2.1 j) i0 x)) M1 → zG g X M1 k n (pc + 1) L st) : zG g X M k n pc L (.int x :: .int i :: .ref (ad j) :: st) := by
  subst hi
  have hz := Nat.lt_trans hlt (zkd_lt j)
  refine zzast (N := (zkd j).2) (f := S.2.2.1 j) C (by rw [hR.2.1 j (Nat.le_of_ble_eq_true hj) (by omega)]; simp [zme, hk]) (vp_in_nI hlt (zkd_lt j)) (by rcases hx with rfl | rfl <;> decide) hd ?_
  rw [nI_clamp hz]
  have h := hR.arr (S1 := zsA S j (upd (S.2.2.1 j) i0 x)) (Nat.le_of_ble_eq_true hj) (by omega) rfl rfl (fun i hi => by simp [zsA, va_up, hi]) (fun _ _ => rfl)
  rw [show zme g (zsA S j (upd (S.2.2.1 j) i0 x)) j = zaz g (zkd j).2 (upd (S.2.2.1 j) i0 x) by simp [zme, hk, zsA, va_up]] at h
  exact kk _ h
theorem zmls (C : zC g X RX8 cc nL fr lc mc ms) (hR : zR g M0 mo ad S M) (hk : (zkd j).1 = 4) (hj : Nat.ble (j + 1) 48 = true) {i : Int32} {x : Int64} {i0 : Nat} (hi : i = nI i0) (hlt : i0 < (zkd j).2) (hd : decode cc pc = .ok (.lastore, 1)) (kk : ∀ M1, zR g M0 mo ad (zsL S j (vp_updL (S.2.2.2 j) i0 x)) M1 → zG g X M1 k n (pc + 1) L st) : zG g X M k n pc L (.long x :: .int i :: .ref (ad j) :: st) := by
  subst hi
  have hz := Nat.lt_trans hlt (zkd_lt j)
  refine zlast (N := (zkd j).2) (f := S.2.2.2 j) C (by rw [hR.2.1 j (Nat.le_of_ble_eq_true hj) (by omega)]; simp [zme, hk]) (vp_in_nI hlt (zkd_lt j)) hd ?_
  rw [nI_clamp hz]
  have h := hR.arr (S1 := zsL S j (vp_updL (S.2.2.2 j) i0 x)) (Nat.le_of_ble_eq_true hj) (by omega) rfl rfl (fun _ _ => rfl) (fun i hi => by simp [zsL, va_up, hi])
  rw [show zme g (zsL S j (vp_updL (S.2.2.2 j) i0 x)) j = zaj g (zkd j).2 (vp_updL (S.2.2.2 j) i0 x) by simp [zme, hk, zsL, va_up]] at h
  exact kk _ h
end ZMR
/-- a reference method's contract: from state S on, the answer and the state behind it as P says-/
def zMc {α : Type} (g : zGh) (M0 : zM) (mo : Nat) (ad : Nat → Nat) (y : MethodName) (cc : ByteArray) (maxL : Nat) (ret : Option FieldType) (fr lc : Nat) (mk : α → Option Value) (As : List Value) (S : zS) (P : α → zS → Prop) : Prop :=
  ∀ M, zR g M0 mo ad S M → zCt g y cc maxL ret fr lc mk (.ref mo :: As) M 0 0 (fun v M1 => ∃ S1, P v S1 ∧ zR g M0 mo ad S1 M1) noX
def b2i (b : Bool) : Int32 := if b = true then 1 else 0
theorem b2i_t : b2i true = 1 := rfl
theorem b2i_f : b2i false = 0 := rfl
theorem b2i_0 {b : Bool} : b2i b = 0 ↔ b = false := by cases b <;> decide
theorem b2i_1 {b : Bool} : b2i b = 1 ↔ b = true := by cases b <;> decide
theorem b2i_b (b : Bool) : b2i b = 0 ∨ b2i b = 1 := by cases b <;> decide
/-- k is a number below n -/
def zix (k : Int32) (n : Nat) : Bool := decide (0 ≤ k.toInt) && decide (k.toInt < n)
theorem zix_of {k : Int32} {n : Nat} (h : zix k n = true) (hn : n < 2 ^ 31) : ∃ j, j < n ∧ k = nI j := by
  simp only [zix, Bool.and_eq_true, decide_eq_true_eq] at h
  exact vp_in_of (vp_in_iff.mpr h) hn
theorem zix_nI {j n : Nat} (hj : j < 2 ^ 31) : zix (nI j) n = decide (j < n) := by
  unfold zix
  rw [nI_toInt hj]
  simp
