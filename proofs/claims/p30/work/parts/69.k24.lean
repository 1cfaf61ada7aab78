def lowT (f : Nat → Nat) : Nat → Nat
  | 0 => f 0
  | i + 1 => if f (i + 1) < lowT f i then f (i + 1) else lowT f i
theorem lowT_in {f : Nat → Nat} {n : Nat} {P : Nat → Prop} (h : ∀ i, i ≤ n → P (f i)) : ∀ i, i ≤ n → P (lowT f i)
  | 0, hi => h 0 hi
  | i + 1, hi => by
    unfold lowT
    split
    · exact h _ hi
    · exact lowT_in h i (by omega)
def rmS (K : zK) (fa : Int32) : Nat → zTl → zTl
  | 0, q => q
  | c + 1, q => rmS K fa c (if newK K (q.2.2.2 c) = fa then q else remT q c)
theorem stl_id {K : zK} {j : Nat} {q : Option zTl} (h : ktl K j = q) : stl K j q = K := by
  obtain ⟨a, b, c, d, e, f, w, k⟩ := K
  unfold stl
  congr
  funext i
  unfold va_up
  split
  · rename_i hi; rw [hi]; exact h.symm
  · rfl
theorem stl_stl {K : zK} {j : Nat} {q r : Option zTl} : stl (stl K j q) j r = stl K j r := by unfold stl; dsimp only; rw [zup_up]
theorem remT_W {q : zTl} {i : Nat} (hW : liW (tlE q)) (hi : i < q.1) : liW (tlE (remT q i)) := by
  rcases hW with ⟨_, h⟩ | ⟨h, h2⟩
  · have h : q.1 = 0 := h
    omega
  · have h2 : q.1 ≤ q.2.1 := h2
    exact Or.inr ⟨h, by show q.1 - 1 ≤ q.2.1; omega⟩
theorem remT_sp {q : zTl} {i n : Nat} (hsp : ∀ i, i < q.1 → q.2.2.2 i < n) : ∀ x, x < (remT q i).1 → (remT q i).2.2.2 x < n := fun x hx => by
  have hx : x < q.1 - 1 := hx
  show rmf q.2.2.2 i x < n
  unfold rmf
  split
  · exact hsp x (by omega)
  · exact hsp (x + 1) (by omega)
theorem sh_ne {u : Nat} (h : 0 < u) (hu : u ≤ 1000) : ¬ (nI u).toInt64 = 0 := by
  rw [nI_l (by omega)]
  intro e
  exact absurd ((lN_eq (a := u) (b := 0) (by omega) (by decide)).mp e) (by omega)
/-- shares -/
def shr (K : zK) (b : Bool) (p : Nat) : Nat := if (b && (kpe K p).1) = true then 2 else 1
def shT (K : zK) (b : Bool) (f : Nat → Nat) : Nat → Nat
  | 0 => 0
  | i + 1 => shT K b f i + shr K b (f i)
theorem shr_le (K : zK) (b : Bool) (p : Nat) : 1 ≤ shr K b p ∧ shr K b p ≤ 2 := by unfold shr; split <;> omega
theorem shT_le (K : zK) (b : Bool) (f : Nat → Nat) : ∀ i, i ≤ shT K b f i ∧ shT K b f i ≤ 2 * i
  | 0 => ⟨Nat.le_refl _, Nat.le_refl _⟩
  | i + 1 => by
    have h1 := shT_le K b f i
    have h2 := shr_le K b (f i)
    unfold shT
    omega
def gooA (A : zK) (p : Nat) (v : Int64) : zK := spe A p (peGoo (kpe A p) ((kpe A p).2.2.2.2.2.1 + v))
def givT (K : zK) (b : Bool) (f : Nat → Nat) (sv : Int64) : Nat → zK
  | 0 => K
  | i + 1 => gooA (givT K b f sv i) (f i) (sv * (nI (shr K b (f i))).toInt64)
def svT (K : zK) (q : zTl) (gds : Int64) (b : Bool) : Int64 := gds / (nI (shT K b q.2.2.2 q.1)).toInt64
def dvK (K : zK) (q : zTl) (gds : Int64) (b : Bool) : zK := if q.1 = 0 then K else gooA (givT K b q.2.2.2 (svT K q gds b) q.1) (lowT q.2.2.2 (q.1 - 1)) (gds - svT K q gds b * (nI (shT K b q.2.2.2 q.1)).toInt64)
theorem gooA_fr (A : zK) (p : Nat) (v : Int64) : (gooA A p v).1 = A.1 ∧ (gooA A p v).2.1 = A.2.1 ∧ kch (gooA A p v) = kch A ∧ (gooA A p v).2.2.2.2 = A.2.2.2.2 ∧ ∀ q, (kpe (gooA A p v) q).1 = (kpe A q).1 := by
  refine ⟨rfl, rfl, rfl, rfl, fun q => ?_⟩
  show (va_up (kpe A) p _ q).1 = _
  by_cases e : q = p
  · subst e; rw [up_eq]; rfl
  · rw [up_ne e]
theorem givT_fr (K : zK) (b : Bool) (f : Nat → Nat) (sv : Int64) : ∀ i, (givT K b f sv i).1 = K.1 ∧ (givT K b f sv i).2.1 = K.2.1 ∧ kch (givT K b f sv i) = kch K ∧ (givT K b f sv i).2.2.2.2 = K.2.2.2.2 ∧ ∀ q, (kpe (givT K b f sv i) q).1 = (kpe K q).1
  | 0 => ⟨rfl, rfl, rfl, rfl, fun _ => rfl⟩
  | i + 1 => by
    obtain ⟨a, b1, c, d, e⟩ := givT_fr K b f sv i
    obtain ⟨a1, b2, c1, d1, e1⟩ := gooA_fr (givT K b f sv i) (f i) (sv * (nI (shr K b (f i))).toInt64)
    exact ⟨a1.trans a, b2.trans b1, c1.trans c, d1.trans d, fun q => (e1 q).trans (e q)⟩
theorem dvK_fr (K : zK) (q : zTl) (gds : Int64) (b : Bool) : (dvK K q gds b).1 = K.1 ∧ (dvK K q gds b).2.1 = K.2.1 ∧ kch (dvK K q gds b) = kch K ∧ (dvK K q gds b).2.2.2.2 = K.2.2.2.2 ∧ ∀ p, (kpe (dvK K q gds b) p).1 = (kpe K p).1 := by
  unfold dvK
  split
  · exact ⟨rfl, rfl, rfl, rfl, fun _ => rfl⟩
  · obtain ⟨a, b1, c, d, e⟩ := givT_fr K b q.2.2.2 (svT K q gds b) q.1
    obtain ⟨a1, b2, c1, d1, e1⟩ := gooA_fr (givT K b q.2.2.2 (svT K q gds b) q.1) (lowT q.2.2.2 (q.1 - 1)) (gds - svT K q gds b * (nI (shT K b q.2.2.2 q.1)).toInt64)
    exact ⟨a1.trans a, b2.trans b1, c1.trans c, d1.trans d, fun q => (e1 q).trans (e q)⟩
theorem liW_49 {q : zTl} (hW : liW (tlE q)) : q.1 ≤ 49 := by
  rcases hW with ⟨_, h⟩ | ⟨h, h2⟩
  · have h : q.1 = 0 := h
    omega
  · have h : q.2.1 = 10 ∨ q.2.1 = 15 ∨ q.2.1 = 22 ∨ q.2.1 = 33 ∨ q.2.1 = 49 := h
    have h2 : q.1 ≤ q.2.1 := h2
    omega
theorem iWf_stl {K : zK} {j : Nat} {q : zTl} (hw : iWf K) (hsp : ∀ i, i < q.1 → q.2.2.2 i < K.1 13) : iWf (stl K j (some q)) := ⟨hw.1, hw.2.1, hw.2.2.1, fun i r hr => by
  have hr : va_up (ktl K) j (some q) i = some r := hr
  by_cases e : i = j
  · rw [e, up_eq] at hr
    cases hr
    exact hsp
  · rw [up_ne e] at hr
    exact hw.2.2.2 i r hr⟩
set_option maxRecDepth 100000 in
set_option maxHeartbeats 1000000 in
theorem k_lowestOf {g : zGh} {K : zK} {X : zg → Option va_E} {ad : zg → Nat} {M : zM} {j : Nat} {q : zTl} (hp : zP g K X ad M) (hj : 24 ≤ j) (hq : ktl K j = some q) (hW : liW (tlE q)) (hsp : ∀ i, i < q.1 → q.2.2.2 i < K.1 13) (h13 : K.1 13 ≤ 40) (hpos : 0 < q.1) : zCt g yX7_lowestOf cX7_lowestOf 3 (some (.object "Milletcourt$Person")) 3 64 mkR [.ref (ad (7, j))] M 0 0 (fun v M1 => v = ad (10, lowT q.2.2.2 (q.1 - 1)) ∧ M1 = M) noX := by
  refine zof [some (.ref (ad (7, j))), none, none] (by decide +kernel) rfl rfl (Nat.le_of_ble_eq_true rfl) ?_
  intro Z C hE hnm
  have C : zC g Z RX7 cX7_lowestOf 3 3 64 0 0 := C
  have hq49 : q.1 ≤ 49 := liW_49 hW
  have loop : ∀ (r i : Nat), i + 1 + r = q.1 → zG g Z M 0 0 11 [some (.ref (ad (7, j))), some (.ref (ad (10, lowT q.2.2.2 i))), some (.int (nI (i + 1)))] [] := by
    intro r
    induction r with
    | zero =>
      intro i hi 
      have hlw : lowT q.2.2.2 i < K.1 13 := lowT_in (n := i) (P := fun x => x < K.1 13) (fun x hx => hsp x (by omega)) i (Nat.le_refl _)
      refine ziload_n C dX7_lowestOf_11 rfl ?_
      refine zaload_n C dX7_lowestOf_12 rfl ?_
      refine zcallV C (q_size (hp.lqT hj hq hW)) hy_Jx4a65c_size_8abf5 hv_Jx4a65c_size_8abf5 hl_X7_58 (hp.loT hj hq) rfl rfl rfl rfl (by decide) (by decide) (by omega) (by omega) rfl (by exact Nat.le_of_ble_eq_true rfl) dX7_lowestOf_13 (fun v13 M hp13 => ?_)
      obtain ⟨rfl, rfl⟩ := hp13
      refine zicmp_ge (tgt := 52) C dX7_lowestOf_16 (by decide) (fun h16 => ?_) (fun h16 => by first | exact absurd (nI_le (by omega) (by omega)) h16 | exact absurd h16 (nI_le (by omega) (by omega)))
      refine zaload_n C dX7_lowestOf_52 rfl ?_
      exact zend_r C hE (Or.inl ⟨_, rfl⟩) dX7_lowestOf_53 (by omega) (by omega) ⟨by rw [show q.1 - 1 = i by omega], rfl⟩
    | succ r ih =>
      intro i hi 
      have hlw : lowT q.2.2.2 i < K.1 13 := lowT_in (n := i) (P := fun x => x < K.1 13) (fun x hx => hsp x (by omega)) i (Nat.le_refl _)
      refine ziload_n C dX7_lowestOf_11 rfl ?_
      refine zaload_n C dX7_lowestOf_12 rfl ?_
      refine zcallV C (q_size (hp.lqT hj hq hW)) hy_Jx4a65c_size_8abf5 hv_Jx4a65c_size_8abf5 hl_X7_58 (hp.loT hj hq) rfl rfl rfl rfl (by decide) (by decide) (by omega) (by omega) rfl (by exact Nat.le_of_ble_eq_true rfl) dX7_lowestOf_13 (fun v13 M hp13 => ?_)
      obtain ⟨rfl, rfl⟩ := hp13
      refine zicmp_ge (tgt := 52) C dX7_lowestOf_16 (by decide) (fun h16 => by first | exact absurd h16 (nI_ge (by omega) (by omega)) | exact absurd (nI_ge (by omega) (by omega)) h16) (fun h16 => ?_)
      refine zaload_n C dX7_lowestOf_19 rfl ?_
      refine ziload_n C dX7_lowestOf_20 rfl ?_
      refine zcallV C (q_get (i + 1) (hp.lqT hj hq hW) (show (i + 1) < _ from (by omega))) hy_Jx4a65c_get_915e3 hv_Jx4a65c_get_915e3 hl_X7_384 (hp.loT hj hq) rfl rfl rfl rfl (by decide) (by decide) (by omega) (by omega) rfl (by exact Nat.le_of_ble_eq_true rfl) dX7_lowestOf_21 (fun v21 M hp21 => ?_)
      obtain ⟨rfl, rfl⟩ := hp21
      rw [if_pos (show (i + 1) < _ from (by omega))]
      refine zcastS C (hp.per (p := _) (hsp (i + 1) (by omega))) rfl hc_X7_128 dX7_lowestOf_24 ?_
      refine zget C hf_X7_379 (hp.per (p := _) (hsp (i + 1) (by omega))) (by rfl) dX7_lowestOf_27 ?_
      refine zaload_n C dX7_lowestOf_30 rfl ?_
      refine zget C hf_X7_379 (hp.per (p := (lowT q.2.2.2 i)) hlw) (by rfl) dX7_lowestOf_31 ?_
      refine zicmp_ge (tgt := 46) C dX7_lowestOf_34 (by decide) (fun h34 => ?_) (fun h34 => ?_)
      · have hlt : ¬ q.2.2.2 (i + 1) < lowT q.2.2.2 i := by have := hsp (i + 1) (by omega); exact Nat.not_lt.mpr ((nI_leI (by omega) (by omega)).mp h34)
        refine ziinc (L1 := [_, _, _]) (v := nI (i + 1 + 1)) C dX7_lowestOf_46 rfl (nI_1 (i + 1)) rfl ?_
        refine zgoto (tgt := 11) C dX7_lowestOf_49 (by decide) ?_
        exact zcg (ih (i + 1) (by omega)) (by simp [zk1, lowT, hlt])
      · have hlt : q.2.2.2 (i + 1) < lowT q.2.2.2 i := by have := hsp (i + 1) (by omega); exact Nat.not_le.mp (fun e => h34 ((nI_leI (by omega) (by omega)).mpr e))
        refine zaload_n C dX7_lowestOf_37 rfl ?_
        refine ziload_n C dX7_lowestOf_38 rfl ?_
        refine zcallV C (q_get (i + 1) (hp.lqT hj hq hW) (show (i + 1) < _ from (by omega))) hy_Jx4a65c_get_915e3 hv_Jx4a65c_get_915e3 hl_X7_384 (hp.loT hj hq) rfl rfl rfl rfl (by decide) (by decide) (by omega) (by omega) rfl (by exact Nat.le_of_ble_eq_true rfl) dX7_lowestOf_39 (fun v39 M hp39 => ?_)
        obtain ⟨rfl, rfl⟩ := hp39
        rw [if_pos (show (i + 1) < _ from (by omega))]
        refine zcastS C (hp.per (p := _) (hsp (i + 1) (by omega))) rfl hc_X7_128 dX7_lowestOf_42 ?_
        refine zastore_n (L1 := [_, _, _]) C dX7_lowestOf_45 rfl (Nat.le_of_ble_eq_true rfl) ?_
        refine ziinc (L1 := [_, _, _]) (v := nI (i + 1 + 1)) C dX7_lowestOf_46 rfl (nI_1 (i + 1)) rfl ?_
        refine zgoto (tgt := 11) C dX7_lowestOf_49 (by decide) ?_
        exact zcg (ih (i + 1) (by omega)) (by simp [zk1, lowT, hlt])
  refine zaload_n C dX7_lowestOf_0 rfl ?_
  refine zconst (v := 0) C dX7_lowestOf_1 (by decide) ?_
  refine zcallV C (q_get 0 (hp.lqT hj hq hW) (show 0 < _ from hpos)) hy_Jx4a65c_get_915e3 hv_Jx4a65c_get_915e3 hl_X7_384 (hp.loT hj hq) rfl rfl rfl rfl (by decide) (by decide) (by omega) (by omega) rfl (by exact Nat.le_of_ble_eq_true rfl) dX7_lowestOf_2 (fun v2 M hp2 => ?_)
  obtain ⟨rfl, rfl⟩ := hp2
  rw [if_pos (show 0 < _ from hpos)]
  refine zcastS C (hp.per (p := _) (hsp 0 hpos)) rfl hc_X7_128 dX7_lowestOf_5 ?_
  refine zastore_n (L1 := [_, _, _]) C dX7_lowestOf_8 rfl (Nat.le_of_ble_eq_true rfl) ?_
  refine zconst (v := 1) C dX7_lowestOf_9 (by decide) ?_
  refine zistore_n (L1 := [_, _, _]) C dX7_lowestOf_10 rfl (Nat.le_of_ble_eq_true rfl) ?_
  exact zcg (loop (q.1 - 1) 0 (by omega)) (by simp [zk1, lowT]; rfl)
set_option maxRecDepth 100000 in
set_option maxHeartbeats 1000000 in
theorem k_removeOF {g : zGh} {K : zK} {X : zg → Option va_E} {ad : zg → Nat} {M : zM} {j : Nat} {q : zTl} (fa : Int32) (hp : zP g K X ad M) (hj : 24 ≤ j) (hq : ktl K j = some q) (hW : liW (tlE q)) (hsp : ∀ i, i < q.1 → q.2.2.2 i < K.1 13) (h13 : K.1 13 ≤ 40) (hch : iCh K) (h33 : K.1 33 ≤ 20) (hw : iWf K) : zCt g yX7_removeOtherFaiths cX7_removeOtherFaiths 3 none 3 86 mkV [.ref (ad (7, j)), .int fa] M 0 0 (fun v M1 => ∃ ad1, zP g (stl K j (some (rmS K fa q.1 q))) X ad1 M1 ∧ ∀ t : zg, t ≠ (8, j) → ad1 t = ad t) noX := by
  refine zof [some (.ref (ad (7, j))), some (.int fa), none] (by decide +kernel) rfl rfl (Nat.le_of_ble_eq_true rfl) ?_
  intro Z C hE hnm
  have C : zC g Z RX7 cX7_removeOtherFaiths 3 3 86 0 0 := C
  have hq49 : q.1 ≤ 49 := liW_49 hW
  have loop : ∀ (c : Nat) (q1 : zTl) (M : zM) (ad1 : zg → Nat), zP g (stl K j (some q1)) X ad1 M → (∀ t : zg, t ≠ (8, j) → ad1 t = ad t) → liW (tlE q1) → (∀ i, i < q1.1 → q1.2.2.2 i < K.1 13) → c ≤ q1.1 → rmS K fa c q1 = rmS K fa q.1 q → zG g Z M 0 0 7 [some (.ref (ad1 (7, j))), some (.int fa), some (.int (nI c - 1))] [] := by
    intro c
    induction c with
    | zero =>
      intro q1 M ad1 hp hst hW hsp hc he
      have he : q1 = rmS K fa q.1 q := he
      refine ziload_n C dX7_removeOtherFaiths_7 rfl ?_
      refine zif_lt_t (tgt := 38) C dX7_removeOtherFaiths_8 (by decide) (by decide) ?_
      exact zend_v C hE dX7_removeOtherFaiths_38 (by omega) (by omega) ⟨ad1, by rw [← he]; exact hp, hst⟩
    | succ c ih =>
      intro q1 M ad1 hp hst hW hsp hc he
      have hq49 : q1.1 ≤ 49 := liW_49 hW
      rw [nI_pred c]
      have hq : ktl (stl K j (some q1)) j = some q1 := up_eq
      have hcl : c < q1.1 := by omega
      have hw1 : iWf (stl K j (some q1)) := iWf_stl hw hsp
      refine ziload_n C dX7_removeOtherFaiths_7 rfl ?_
      refine zif_lt_f (tgt := 38) C dX7_removeOtherFaiths_8 (by decide) (nI_nn (by omega)) ?_
      refine zaload_n C dX7_removeOtherFaiths_11 rfl ?_
      refine ziload_n C dX7_removeOtherFaiths_12 rfl ?_
      refine zcallV C (q_get c (hp.lqT hj hq hW) (show c < _ from hcl)) hy_Jx4a65c_get_915e3 hv_Jx4a65c_get_915e3 hl_X7_384 (hp.loT hj hq) rfl rfl rfl rfl (by decide) (by decide) (by omega) (by omega) rfl (by exact Nat.le_of_ble_eq_true rfl) dX7_removeOtherFaiths_13 (fun v13 M hp13 => ?_)
      obtain ⟨rfl, rfl⟩ := hp13
      rw [if_pos (show c < _ from hcl)]
      refine zcastS C (hp.per (p := (q1.2.2.2 c)) (hsp c hcl)) rfl hc_X7_128 dX7_removeOtherFaiths_16 ?_
      refine zcallV C (k_faithNow hp (hsp c hcl) hch) hy_X4_faithNow hv_X4_faithNow hl_X7_172 (hp.per (p := (q1.2.2.2 c)) (hsp c hcl)) rfl rfl rfl rfl (by decide) (by decide) (by omega) (by omega) rfl (by exact Nat.le_of_ble_eq_true rfl) dX7_removeOtherFaiths_19 (fun v19 M hp19 => ?_)
      obtain ⟨hv19, rfl⟩ := hp19
      replace hv19 : v19 = newK K (q1.2.2.2 c) := hv19
      refine ziload_n C dX7_removeOtherFaiths_22 rfl ?_
      refine zicmp_eq (tgt := 32) C dX7_removeOtherFaiths_23 (by decide) (fun h23 => ?_) (fun h23 => ?_)
      · refine ziinc (L1 := [_, _, _]) (v := nI c - 1) C dX7_removeOtherFaiths_32 rfl (by rw [Int32.sub_eq_add_neg]; rfl) rfl ?_
        refine zgoto (tgt := 7) C dX7_removeOtherFaiths_35 (by decide) ?_
        exact ih q1 M ad1 hp hst hW hsp (by omega) (by rw [← he, rmS, if_pos (by rw [← hv19]; exact h23)])
      · refine zaload_n C dX7_removeOtherFaiths_26 rfl ?_
        refine ziload_n C dX7_removeOtherFaiths_27 rfl ?_
        refine zcallV C (k_remove hp h33 hw1 hj hq hW hsp hcl) hy_Jx4a65c_remove_915e3 hv_Jx4a65c_remove_915e3 hl_X7_449 (hp.loT hj hq) rfl rfl rfl rfl (by decide) (by decide) (by omega) (by omega) rfl (by exact Nat.le_of_ble_eq_true rfl) dX7_removeOtherFaiths_28 (fun v28 M hpT => ?_)
        obtain ⟨ad2, hp, hst2⟩ := hpT
        rw [stl_stl] at hp
        rw [← hst2 (7, j) (by simp)]
        refine zpop C dX7_removeOtherFaiths_31 rfl ?_
        refine ziinc (L1 := [_, _, _]) (v := nI c - 1) C dX7_removeOtherFaiths_32 rfl (by rw [Int32.sub_eq_add_neg]; rfl) rfl ?_
        refine zgoto (tgt := 7) C dX7_removeOtherFaiths_35 (by decide) ?_
        exact ih (remT q1 c) M ad2 hp (fun t a => (hst2 t a).trans (hst t a)) (remT_W hW hcl) (remT_sp hsp) (by show c ≤ q1.1 - 1; omega) (by rw [← he, rmS, if_neg (by rw [← hv19]; exact h23)])
  have hid := stl_id hq
  refine zaload_n C dX7_removeOtherFaiths_0 rfl ?_
  refine zcallV C (q_size (hp.lqT hj hq hW)) hy_Jx4a65c_size_8abf5 hv_Jx4a65c_size_8abf5 hl_X7_58 (hp.loT hj hq) rfl rfl rfl rfl (by decide) (by decide) (by omega) (by omega) rfl (by exact Nat.le_of_ble_eq_true rfl) dX7_removeOtherFaiths_1 (fun v1 M hp1 => ?_)
  obtain ⟨rfl, rfl⟩ := hp1
  refine zconst (v := 1) C dX7_removeOtherFaiths_4 (by decide) ?_
  refine zisub C dX7_removeOtherFaiths_5 ?_
  refine zistore_n (L1 := [_, _, _]) C dX7_removeOtherFaiths_6 rfl (Nat.le_of_ble_eq_true rfl) ?_
  exact zcg (loop q.1 q M ad (by rw [hid]; exact hp) (fun _ _ => rfl) hW hsp (Nat.le_refl _) rfl) (by simp [zk1])
set_option maxRecDepth 100000 in
set_option maxHeartbeats 1000000 in
theorem k_divide {g : zGh} {K : zK} {X : zg → Option va_E} {ad : zg → Nat} {M : zM} {j : Nat} {q : zTl} (gds : Int64) (b : Bool) (hp : zP g K X ad M) (hj : 24 ≤ j) (hq : ktl K j = some q) (hW : liW (tlE q)) (hsp : ∀ i, i < q.1 → q.2.2.2 i < K.1 13) (h13 : K.1 13 ≤ 40) : zCt g yX7_divide cX7_divide 8 none 4 86 mkV [.long gds, .ref (ad (7, j)), .int (b2i b)] M 0 0 (fun v M1 => zP g (dvK K q gds b) X ad M1) noX := by
  refine zof [some (.long gds), none, some (.ref (ad (7, j))), some (.int (b2i b)), none, none, none, none] (by decide +kernel) rfl rfl (Nat.le_of_ble_eq_true rfl) ?_
  intro Z C hE hnm
  have C : zC g Z RX7 cX7_divide 8 4 86 0 0 := C
  have hq49 : q.1 ≤ 49 := liW_49 hW
  obtain ⟨sh, esh⟩ : ∃ x, x = shT K b q.2.2.2 q.1 := ⟨_, rfl⟩
  obtain ⟨sv, esv⟩ : ∃ x, x = svT K q gds b := ⟨_, rfl⟩
  have hsh := shT_le K b q.2.2.2 q.1
  rw [← esh] at hsh
  have hdm : gds / (nI sh).toInt64 = sv := by rw [esv, svT, esh]
  have loop2 : ∀ (r i : Nat), i + r = q.1 → 0 < q.1 → ∀ (A : zK) (M : zM), A = givT K b q.2.2.2 sv i → zP g A X ad M → zG g Z M 0 0 61 [some (.long gds), none, some (.ref (ad (7, j))), some (.int (b2i b)), some (.int (nI sh)), some (.long sv), none, some (.int (nI i))] [] := by
    intro r
    induction r with
    | zero =>
      intro i hi hpos A M hA hp
      have hfr := givT_fr K b q.2.2.2 sv i
      rw [← hA] at hfr
      have e13 : A.1 13 = K.1 13 := by rw [hfr.1]
      have hq : ktl A j = some q := by show A.2.2.2.2.2.2.2 j = _; rw [hfr.2.2.2.1]; exact hq
      have hsp : ∀ i, i < q.1 → q.2.2.2 i < A.1 13 := fun i h => by rw [e13]; exact hsp i h
      have hlw : lowT q.2.2.2 (q.1 - 1) < A.1 13 := lowT_in (n := q.1 - 1) (P := fun x => x < A.1 13) (fun x hx => hsp x (by omega)) _ (Nat.le_refl _)
      refine ziload C dX7_divide_61 rfl ?_
      refine zaload_n C dX7_divide_63 rfl ?_
      refine zcallV C (q_size (hp.lqT hj hq hW)) hy_Jx4a65c_size_8abf5 hv_Jx4a65c_size_8abf5 hl_X7_58 (hp.loT hj hq) rfl rfl rfl rfl (by decide) (by decide) (by omega) (by omega) rfl (by exact Nat.le_of_ble_eq_true rfl) dX7_divide_64 (fun v64 M hp64 => ?_)
      obtain ⟨rfl, rfl⟩ := hp64
      refine zicmp_ge (tgt := 110) C dX7_divide_67 (by decide) (fun h67 => ?_) (fun h67 => by first | exact absurd (nI_le (by omega) (by omega)) h67 | exact absurd h67 (nI_le (by omega) (by omega)))
      refine zaload_n C dX7_divide_110 rfl ?_
      refine zcallS C (k_lowestOf hp hj hq hW hsp (by omega) hpos) hy_X7_lowestOf hst_X7_lowestOf hl_X7_461 rfl rfl (by decide) (by decide) (by omega) (by omega) rfl (by exact Nat.le_of_ble_eq_true rfl) dX7_divide_111 (fun v111 M hp111 => ?_)
      obtain ⟨rfl, rfl⟩ := hp111
      refine zdup C dX7_divide_114 rfl ?_
      refine zget C hf_X7_256 (hp.per (p := (lowT q.2.2.2 (q.1 - 1))) hlw) (by rfl) dX7_divide_115 ?_
      refine zlload_n C dX7_divide_118 rfl ?_
      refine zlload C dX7_divide_119 rfl ?_
      refine ziload C dX7_divide_121 rfl ?_
      refine zi2l C dX7_divide_123 ?_
      refine zlmul C dX7_divide_124 ?_
      refine zlsub C dX7_divide_125 ?_
      refine zladd C dX7_divide_126 ?_
      refine zput (fs1 := [_, _, _, _, _, _, _, _, _, _, _]) C hf_X7_256 hp_X4 rfl (hp.per (p := (lowT q.2.2.2 (q.1 - 1))) hlw) rfl rfl (by exact Nat.le_of_ble_eq_true rfl) (by rfl) dX7_divide_127 ?_
      refine kstep (hp.perV (p := (lowT q.2.2.2 (q.1 - 1))) hlw peGoo ((kpe A (lowT q.2.2.2 (q.1 - 1))).2.2.2.2.2.1 + (gds - sv * (nI sh).toInt64))) rfl (fun M hp => ?_)
      exact zend_v C hE dX7_divide_130 (by omega) (by omega) (by rw [dvK, if_neg (by omega), ← esv, ← esh, show q.1 = i by omega, ← hA]; rw [show q.1 = i by omega] at hp; exact hp)
    | succ r ih =>
      intro i hi hpos A M hA hp
      have hfr := givT_fr K b q.2.2.2 sv i
      rw [← hA] at hfr
      have e13 : A.1 13 = K.1 13 := by rw [hfr.1]
      have hq : ktl A j = some q := by show A.2.2.2.2.2.2.2 j = _; rw [hfr.2.2.2.1]; exact hq
      have hsp : ∀ i, i < q.1 → q.2.2.2 i < A.1 13 := fun i h => by rw [e13]; exact hsp i h
      have hil : i < q.1 := by omega
      refine ziload C dX7_divide_61 rfl ?_
      refine zaload_n C dX7_divide_63 rfl ?_
      refine zcallV C (q_size (hp.lqT hj hq hW)) hy_Jx4a65c_size_8abf5 hv_Jx4a65c_size_8abf5 hl_X7_58 (hp.loT hj hq) rfl rfl rfl rfl (by decide) (by decide) (by omega) (by omega) rfl (by exact Nat.le_of_ble_eq_true rfl) dX7_divide_64 (fun v64 M hp64 => ?_)
      obtain ⟨rfl, rfl⟩ := hp64
      refine zicmp_ge (tgt := 110) C dX7_divide_67 (by decide) (fun h67 => by first | exact absurd h67 (nI_ge (by omega) (by omega)) | exact absurd (nI_ge (by omega) (by omega)) h67) (fun h67 => ?_)
      refine zaload_n C dX7_divide_70 rfl ?_
      refine ziload C dX7_divide_71 rfl ?_
      refine zcallV C (q_get i (hp.lqT hj hq hW) (show i < _ from hil)) hy_Jx4a65c_get_915e3 hv_Jx4a65c_get_915e3 hl_X7_384 (hp.loT hj hq) rfl rfl rfl rfl (by decide) (by decide) (by omega) (by omega) rfl (by exact Nat.le_of_ble_eq_true rfl) dX7_divide_73 (fun v73 M hp73 => ?_)
      obtain ⟨rfl, rfl⟩ := hp73
      rw [if_pos (show i < _ from hil)]
      refine zcastS C (hp.per (p := (q.2.2.2 i)) (hsp i hil)) rfl hc_X7_128 dX7_divide_76 ?_
      refine zdup C dX7_divide_79 rfl ?_
      refine zget C hf_X7_256 (hp.per (p := (q.2.2.2 i)) (hsp i hil)) (by rfl) dX7_divide_80 ?_
      refine zlload C dX7_divide_83 rfl ?_
      refine zaload_n C dX7_divide_85 rfl ?_
      refine ziload C dX7_divide_86 rfl ?_
      refine zcallV C (q_get i (hp.lqT hj hq hW) (show i < _ from hil)) hy_Jx4a65c_get_915e3 hv_Jx4a65c_get_915e3 hl_X7_384 (hp.loT hj hq) rfl rfl rfl rfl (by decide) (by decide) (by omega) (by omega) rfl (by exact Nat.le_of_ble_eq_true rfl) dX7_divide_88 (fun v88 M hp88 => ?_)
      obtain ⟨rfl, rfl⟩ := hp88
      rw [if_pos (show i < _ from hil)]
      refine zcastS C (hp.per (p := (q.2.2.2 i)) (hsp i hil)) rfl hc_X7_128 dX7_divide_91 ?_
      refine ziload_n C dX7_divide_94 rfl ?_
      refine zcallV C (p_shares b _ (hp.per (p := q.2.2.2 i) (hsp i hil)) rfl) hy_X4_shares hv_X4_shares hl_X7_465 (hp.per (p := (q.2.2.2 i)) (hsp i hil)) rfl rfl rfl rfl (by decide) (by decide) (by omega) (by omega) rfl (by exact Nat.le_of_ble_eq_true rfl) dX7_divide_95 (fun v95 M hp95 => ?_)
      obtain ⟨hv95, rfl⟩ := hp95
      replace hv95 : v95 = nI (shr K b (q.2.2.2 i)) := by rw [hv95, hfr.2.2.2.2, shr]; split <;> rfl
      subst hv95
      refine zi2l C dX7_divide_98 ?_
      refine zlmul C dX7_divide_99 ?_
      refine zladd C dX7_divide_100 ?_
      refine zput (fs1 := [_, _, _, _, _, _, _, _, _, _, _]) C hf_X7_256 hp_X4 rfl (hp.per (p := (q.2.2.2 i)) (hsp i hil)) rfl rfl (by exact Nat.le_of_ble_eq_true rfl) (by rfl) dX7_divide_101 ?_
      refine kstep (hp.perV (p := (q.2.2.2 i)) (hsp i hil) peGoo ((kpe A (q.2.2.2 i)).2.2.2.2.2.1 + sv * (nI (shr K b (q.2.2.2 i))).toInt64)) rfl (fun M hp => ?_)
      refine ziinc (L1 := [_, _, _, _, _, _, _, _]) (v := nI (i + 1)) C dX7_divide_104 rfl (nI_1 i) rfl ?_
      refine zgoto (tgt := 61) C dX7_divide_107 (by decide) ?_
      exact zcg (ih (i + 1) (by omega) hpos _ M (by rw [hA]; rfl) hp) (by simp [zk1])
  have loop1 : ∀ (r i : Nat), i + r = q.1 → 0 < q.1 → zG g Z M 0 0 14 [some (.long gds), none, some (.ref (ad (7, j))), some (.int (b2i b)), some (.int (nI (shT K b q.2.2.2 i))), some (.int (nI i)), none, none] [] := by
    intro r
    induction r with
    | zero =>
      intro i hi hpos
      refine ziload C dX7_divide_14 rfl ?_
      refine zaload_n C dX7_divide_16 rfl ?_
      refine zcallV C (q_size (hp.lqT hj hq hW)) hy_Jx4a65c_size_8abf5 hv_Jx4a65c_size_8abf5 hl_X7_58 (hp.loT hj hq) rfl rfl rfl rfl (by decide) (by decide) (by omega) (by omega) rfl (by exact Nat.le_of_ble_eq_true rfl) dX7_divide_17 (fun v17 M hp17 => ?_)
      obtain ⟨rfl, rfl⟩ := hp17
      refine zicmp_ge (tgt := 47) C dX7_divide_20 (by decide) (fun h20 => ?_) (fun h20 => by first | exact absurd (nI_le (by omega) (by omega)) h20 | exact absurd h20 (nI_le (by omega) (by omega)))
      refine zlload_n C dX7_divide_47 rfl ?_
      refine ziload C dX7_divide_48 rfl ?_
      refine zconst (v := 1) C dX7_divide_50 (by decide) ?_
      refine zmmax C hl_X7_132 rfl (by decide) (by exact Nat.le_of_ble_eq_true rfl) (by omega) (by omega) dX7_divide_51 ?_
      rw [show q.1 = i by omega] at esh
      rw [← esh, if_neg (by rw [Int32.lt_iff_toInt_lt, nI_toInt (by omega)]; have : (1 : Int32).toInt = 1 := rfl; omega)]
      refine zi2l C dX7_divide_54 ?_
      refine zldiv C dX7_divide_55 (sh_ne (by omega) (by omega)) ?_
      refine zlstore (L1 := [_, _, _, _, _, _, _, _]) C dX7_divide_56 rfl (Nat.le_of_ble_eq_true rfl) ?_
      refine zconst (v := 0) C dX7_divide_58 (by decide) ?_
      refine zistore (L1 := [_, _, _, _, _, _, _, _]) C dX7_divide_59 rfl (Nat.le_of_ble_eq_true rfl) ?_
      refine zfor [true, false, true, true, true, true, false, true] (L1 := [_, _, _, _, _, _, _, _]) rfl ?_
      exact zcg (loop2 q.1 0 (by omega) (by omega) K M rfl hp) (by simp [zk1, zk2, hdm, nI_0])
    | succ r ih =>
      intro i hi hpos
      refine ziload C dX7_divide_14 rfl ?_
      refine zaload_n C dX7_divide_16 rfl ?_
      refine zcallV C (q_size (hp.lqT hj hq hW)) hy_Jx4a65c_size_8abf5 hv_Jx4a65c_size_8abf5 hl_X7_58 (hp.loT hj hq) rfl rfl rfl rfl (by decide) (by decide) (by omega) (by omega) rfl (by exact Nat.le_of_ble_eq_true rfl) dX7_divide_17 (fun v17 M hp17 => ?_)
      obtain ⟨rfl, rfl⟩ := hp17
      refine zicmp_ge (tgt := 47) C dX7_divide_20 (by decide) (fun h20 => by first | exact absurd h20 (nI_ge (by omega) (by omega)) | exact absurd (nI_ge (by omega) (by omega)) h20) (fun h20 => ?_)
      refine ziload C dX7_divide_23 rfl ?_
      refine zaload_n C dX7_divide_25 rfl ?_
      refine ziload C dX7_divide_26 rfl ?_
      refine zcallV C (q_get i (hp.lqT hj hq hW) (show i < _ from (show i < q.1 by omega))) hy_Jx4a65c_get_915e3 hv_Jx4a65c_get_915e3 hl_X7_384 (hp.loT hj hq) rfl rfl rfl rfl (by decide) (by decide) (by omega) (by omega) rfl (by exact Nat.le_of_ble_eq_true rfl) dX7_divide_28 (fun v28 M hp28 => ?_)
      obtain ⟨rfl, rfl⟩ := hp28
      rw [if_pos (show i < _ from (show i < q.1 by omega))]
      refine zcastS C (hp.per (p := (q.2.2.2 i)) (hsp i (show i < q.1 by omega))) rfl hc_X7_128 dX7_divide_31 ?_
      refine ziload_n C dX7_divide_34 rfl ?_
      refine zcallV C (p_shares b _ (hp.per (p := q.2.2.2 i) (hsp i (by omega))) rfl) hy_X4_shares hv_X4_shares hl_X7_465 (hp.per (p := (q.2.2.2 i)) (hsp i (show i < q.1 by omega))) rfl rfl rfl rfl (by decide) (by decide) (by omega) (by omega) rfl (by exact Nat.le_of_ble_eq_true rfl) dX7_divide_35 (fun v35 M hp35 => ?_)
      obtain ⟨hv35, rfl⟩ := hp35
      replace hv35 : v35 = nI (shr K b (q.2.2.2 i)) := by rw [hv35, shr]; split <;> rfl
      subst hv35
      refine ziadd C dX7_divide_38 ?_
      rw [nI_add]
      refine zistore (L1 := [_, _, _, _, _, _, _, _]) C dX7_divide_39 rfl (Nat.le_of_ble_eq_true rfl) ?_
      refine ziinc (L1 := [_, _, _, _, _, _, _, _]) (v := nI (i + 1)) C dX7_divide_41 rfl (nI_1 i) rfl ?_
      refine zgoto (tgt := 14) C dX7_divide_44 (by decide) ?_
      exact zcg (ih (i + 1) (by omega) hpos) (by simp [zk1, shT])
  refine zaload_n C dX7_divide_0 rfl ?_
  refine zcallV C (l_isEmpty (hp.loT hj hq)) hy_Jx4a65c_isEmpty_aae02 hv_Jx4a65c_isEmpty_aae02 hl_X7_452 (hp.loT hj hq) rfl rfl rfl rfl (by decide) (by decide) (by omega) (by omega) rfl (by exact Nat.le_of_ble_eq_true rfl) dX7_divide_1 (fun v1 M hp1 => ?_)
  obtain ⟨hv1, rfl⟩ := hp1
  replace hv1 : v1 = b2i (decide (q.1 = 0)) := by rw [hv1]; congr 1; exact decide_eq_decide.mpr ⟨fun h => (nI_eq (a := q.1) (b := 0) (by omega) (by decide)).mp h, fun h => by show nI q.1 = 0; rw [h]; rfl⟩
  subst hv1
  refine zif_eq (tgt := 8) C dX7_divide_4 (by decide) (fun h4 => ?_) (fun h4 => ?_)
  · replace h4 := b2i_0.mp h4
    have hpos : 0 < q.1 := Nat.pos_of_ne_zero (of_decide_eq_false h4)
    refine zconst (v := 0) C dX7_divide_8 (by decide) ?_
    refine zistore (L1 := [_, _, _, _, _, _, _, _]) C dX7_divide_9 rfl (Nat.le_of_ble_eq_true rfl) ?_
    refine zconst (v := 0) C dX7_divide_11 (by decide) ?_
    refine zistore (L1 := [_, _, _, _, _, _, _, _]) C dX7_divide_12 rfl (Nat.le_of_ble_eq_true rfl) ?_
    exact zcg (loop1 q.1 0 (by omega) hpos) (by simp [zk1, shT, nI_0])
  · replace h4 := b2i_n0.mp h4
    replace h4 := of_decide_eq_true h4
    exact zend_v C hE dX7_divide_7 (by omega) (by omega) (by rw [dvK, if_pos h4]; exact hp)
