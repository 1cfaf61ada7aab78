theorem zastoreN {g : zGh} {X : zX} {own : String} {cc : ByteArray} {nL fr lc mc ms : Nat} {M : zM} {k n pc : Nat} {L L1 : List (Option Value)} {st : List Value} (C : zC g X own cc nL fr lc mc ms) {i : Nat} (hd : decode cc pc = .ok (.astore i, 2)) (hz : zst L i .null = L1) (hi : i + 0 < L.length) (kk : zG g X M k n (pc + 2) L1 st) : zG g X M k n pc L (.null :: st) := fun H locs ls hH hS hL => lv_astoreN C.1 C.2.1 hd hL (by omega) rfl (fun ls1 h1 => kk H locs ls1 hH hS (by rw [show L1.length = L.length from by rw [← hz]; exact zst_len _ _ _ (fun h => by cases h)]; exact zst1 rfl hz h1))
def capF (f : Nat → zCh) : Nat → Nat
  | 0 => 0
  | n + 1 => capF f n + (f (100 + n)).1
theorem capF_up {f : Nat → zCh} {p : Nat} {c : zCh} : ∀ n, p < n → capF (va_up f (100 + p) c) n + (f (100 + p)).1 = capF f n + c.1
  | n + 1, h => by
    unfold capF
    by_cases e : p = n
    · subst e
      have : ∀ m, m ≤ p → capF (va_up f (100 + p) c) m = capF f m := by
        intro m
        induction m with
        | zero => intro _; rfl
        | succ m ih => intro hm; unfold capF; rw [ih (by omega), up_ne (show 100 + m ≠ 100 + p by omega)]
      rw [this p (Nat.le_refl _), up_eq]
      omega
    · rw [up_ne (show 100 + n ≠ 100 + p by omega)]
      have := capF_up (f := f) (c := c) n (show p < n by omega)
      omega
theorem capF_mono {f h : Nat → zCh} (hf : ∀ i, (f i).1 ≤ (h i).1) : ∀ n, capF f n ≤ capF h n
  | 0 => Nat.le_refl _
  | n + 1 => by
    unfold capF
    have := capF_mono hf n
    have := hf (100 + n)
    omega
theorem tellS_cap (c : zCh) (d x : Int32) : c.1 ≤ (tellS c d x).1 := by
  unfold tellS
  split
  · exact Nat.le_refl _
  · split
    · exact Nat.le_refl _
    · show c.1 ≤ 2 * (c.2.1 + 1)
      omega
theorem zgt_nlt {x y : Int32} (h : y ≤ x) : ¬ x < y := by rw [Int32.lt_iff_toInt_lt]; rw [Int32.le_iff_toInt_le] at h; omega
theorem znle_lt2 {x y : Int32} (h : ¬ y ≤ x) : x < y := by rw [Int32.lt_iff_toInt_lt]; rw [Int32.le_iff_toInt_le] at h; omega
def undoK (K : zK) (p : Nat) (f : Int32) : Bool := (decide (1 ≤ (kch K (100 + p)).2.1) && decide ((kch K (100 + p)).2.2.2 ((kch K (100 + p)).2.1 - 1) = f)) && decide (nI (K.1 1) - (kch K (100 + p)).2.2.1 (kch K (100 + p)).2.1 < 100)
def dropC (c : zCh) : zCh := (c.1, c.2.1 - 1, c.2.2.1, c.2.2.2)
def tbtC (K : zK) (p : Nat) (f : Int32) : zCh := if undoK K p f = true then dropC (kch K (100 + p)) else tellS (kch K (100 + p)) (nI (K.1 1)) f
def tbtK (K : zK) (p : Nat) (f : Int32) : zK := sch K (100 + p) (tbtC K p f)
def tbM (K : zK) (p : Nat) (f : Int32) : Nat := if undoK K p f = true then 0 else tgC (kch K (100 + p)) (nI (K.1 1))
def tbS (K : zK) (p : Nat) (f : Int32) : Nat := if undoK K p f = true then 0 else tgS (kch K (100 + p)) (nI (K.1 1))
def clrK (K : zK) : Nat → zK
  | 0 => K
  | n + 1 => spe (clrK K n) n (peLea (kpe (clrK K n) n) 0)
def ldrOf (x : zPe) : Option Nat := match x.2.2.1 with
  | some q => some q
  | none => x.2.1
def ledOf (K : zK) (r : Option Nat) : Bool := match r with
  | some q => decide (¬ (kpe K q).2.2.2.2.2.2.2.2 = 0)
  | none => false
def folK (K : zK) (i : Nat) (f : Int32) : Bool := ledOf K (ldrOf (kpe K i)) && ((kpe K i).2.2.2.2.1 && (minK K i (nI (K.1 1)) && decide (¬ newK K i = f)))
def folS (K : zK) (i : Nat) (f : Int32) : zK := spe (sch K (100 + i) (tellS (kch K (100 + i)) (nI (K.1 1)) f)) i (peLea (kpe K i) 1)
def ledK (K : zK) (f : Int32) (s : Nat) : Nat → zK
  | 0 => K
  | j + 1 => if folK (ledK K f s j) (s + j) f = true then folS (ledK K f s j) (s + j) f else ledK K f s j
def ld2 (K : zK) (p : Nat) : zK := spe (clrK K (K.1 13)) p (peLea (kpe (clrK K (K.1 13)) p) 1)
def ldcK (K : zK) (p : Nat) (f : Int32) : zK := ledK (ld2 K p) f (p + 1) (K.1 13 - (p + 1))
/-- what stays when persons turn: all but chronicles of faiths, turnings and marks -/
def sfr (K K1 : zK) : Prop := K1.1 = K.1 ∧ K1.2.1 = K.2.1 ∧ K1.2.2.2.2 = K.2.2.2.2 ∧ (∀ q, (kpe K1 q).1 = (kpe K q).1 ∧ (kpe K1 q).2.1 = (kpe K q).2.1 ∧ (kpe K1 q).2.2.1 = (kpe K q).2.2.1 ∧ (kpe K1 q).2.2.2.1 = (kpe K q).2.2.2.1 ∧ (kpe K1 q).2.2.2.2.1 = (kpe K q).2.2.2.2.1 ∧ (kpe K1 q).2.2.2.2.2.1 = (kpe K q).2.2.2.2.2.1) ∧ ∀ i, i < 100 → kch K1 i = kch K i
theorem sfr.rf {K : zK} : sfr K K := ⟨rfl, rfl, rfl, fun _ => ⟨rfl, rfl, rfl, rfl, rfl, rfl⟩, fun _ _ => rfl⟩
theorem sfr.trans {K K1 K2 : zK} (h : sfr K K1) (h2 : sfr K1 K2) : sfr K K2 := by
  obtain ⟨a1, a2, a3, a4, a5⟩ := h
  obtain ⟨b1, b2, b3, b4, b5⟩ := h2
  refine ⟨b1.trans a1, b2.trans a2, b3.trans a3, fun q => ?_, fun i hi => (b5 i hi).trans (a5 i hi)⟩
  obtain ⟨c1, c2, c3, c4, c5, c6⟩ := a4 q
  obtain ⟨d1, d2, d3, d4, d5, d6⟩ := b4 q
  exact ⟨d1.trans c1, d2.trans c2, d3.trans c3, d4.trans c4, d5.trans c5, d6.trans c6⟩
theorem sfr.pe {K : zK} {p : Nat} {x : zPe} (h : x.1 = (kpe K p).1 ∧ x.2.1 = (kpe K p).2.1 ∧ x.2.2.1 = (kpe K p).2.2.1 ∧ x.2.2.2.1 = (kpe K p).2.2.2.1 ∧ x.2.2.2.2.1 = (kpe K p).2.2.2.2.1 ∧ x.2.2.2.2.2.1 = (kpe K p).2.2.2.2.2.1) : sfr K (spe K p x) := by
  refine ⟨rfl, rfl, rfl, fun q => ?_, fun _ _ => rfl⟩
  by_cases e : q = p
  · subst e; rw [kpe_s]; exact h
  · rw [kpe_n e]; exact ⟨rfl, rfl, rfl, rfl, rfl, rfl⟩
theorem sfr.ch {K : zK} {p : Nat} {c : zCh} : sfr K (sch K (100 + p) c) := ⟨rfl, rfl, rfl, fun _ => ⟨rfl, rfl, rfl, rfl, rfl, rfl⟩, fun i hi => up_ne (by omega)⟩
theorem sfr.iPa {K K1 : zK} (h : sfr K K1) (hp : iPa K) : iPa K1 := fun p hpn => by
  rw [(h.2.2.2.1 p).2.1, (h.2.2.2.1 p).2.2.1]
  exact hp p (by rw [← h.1]; exact hpn)
theorem clrK_fr (K : zK) : ∀ n, sfr K (clrK K n) ∧ (clrK K n).2.2.1 = K.2.2.1
  | 0 => ⟨sfr.rf, rfl⟩
  | n + 1 => ⟨(clrK_fr K n).1.trans (sfr.pe ⟨rfl, rfl, rfl, rfl, rfl, rfl⟩), (clrK_fr K n).2⟩
theorem ld2_fr (K : zK) (p : Nat) : sfr K (ld2 K p) ∧ kch (ld2 K p) = kch K := ⟨(clrK_fr K _).1.trans (sfr.pe ⟨rfl, rfl, rfl, rfl, rfl, rfl⟩), (clrK_fr K _).2⟩
theorem folS_fr (K : zK) (i : Nat) (f : Int32) : sfr K (folS K i f) := sfr.ch.trans (sfr.pe ⟨rfl, rfl, rfl, rfl, rfl, rfl⟩)
theorem ledK_fr (K : zK) (f : Int32) (s : Nat) : ∀ j, sfr K (ledK K f s j) ∧ (∀ i, (∀ q, s ≤ q → q < s + j → i ≠ 100 + q) → kch (ledK K f s j) i = kch K i) ∧ (∀ i, (kch K i).1 ≤ (kch (ledK K f s j) i).1) ∧ ∀ i, (kch (ledK K f s j) i).2.1 ≤ (kch K i).2.1 + 1
  | 0 => ⟨sfr.rf, fun _ _ => rfl, fun _ => Nat.le_refl _, fun _ => Nat.le_succ _⟩
  | j + 1 => by
    obtain ⟨h1, h2, h3, h4⟩ := ledK_fr K f s j
    unfold ledK
    split
    · refine ⟨h1.trans (folS_fr _ _ _), fun i hi => ?_, fun i => ?_, fun i => ?_⟩
      · show va_up (kch (ledK K f s j)) (100 + (s + j)) _ i = _
        rw [up_ne (hi (s + j) (by omega) (by omega)), h2 i (fun q a b => hi q a (by omega))]
      · show _ ≤ (va_up (kch (ledK K f s j)) (100 + (s + j)) _ i).1
        by_cases e : i = 100 + (s + j)
        · subst e
          rw [up_eq]
          exact Nat.le_trans (h3 _) (tellS_cap _ _ _)
        · rw [up_ne e]
          exact h3 i
      · show (va_up (kch (ledK K f s j)) (100 + (s + j)) _ i).2.1 ≤ _
        by_cases e : i = 100 + (s + j)
        · subst e
          rw [up_eq]
          refine Nat.le_trans (tellS_k _ _ _) ?_
          rw [h2 _ (fun q a b => by omega)]
          exact Nat.le_refl _
        · rw [up_ne e]
          exact h4 i
    · exact ⟨h1, fun i hi => h2 i (fun q a b => hi q a (by omega)), h3, h4⟩
theorem ledK_mono (K : zK) (f : Int32) (s j : Nat) : ∀ r, ∀ i, (kch (ledK K f s j) i).1 ≤ (kch (ledK K f s (j + r)) i).1
  | 0, _ => Nat.le_refl _
  | r + 1, i => by
    refine Nat.le_trans (ledK_mono K f s j r i) ?_
    show _ ≤ (kch (ledK K f s (j + r + 1)) i).1
    rw [ledK]
    split
    · show _ ≤ (va_up (kch (ledK K f s (j + r))) (100 + (s + (j + r))) _ i).1
      by_cases e : i = 100 + (s + (j + r))
      · subst e
        rw [up_eq]
        exact tellS_cap _ _ _
      · rw [up_ne e]
        exact Nat.le_refl _
    · exact Nat.le_refl _
theorem ledK_W (K : zK) (f : Int32) (s : Nat) (hch : iCh K) : ∀ j, (∀ q, s ≤ q → q < s + j → (kch K (100 + q)).2.1 ≤ 1000) → iCh (ledK K f s j)
  | 0, _ => hch
  | j + 1, h => by
    have ih := ledK_W K f s hch j (fun q a b => h q a (by omega))
    rw [ledK]
    split
    · intro i
      show chW (va_up (kch (ledK K f s j)) (100 + (s + j)) _ i)
      by_cases e : i = 100 + (s + j)
      · subst e
        rw [up_eq]
        exact tellS_W (ih _) (by rw [(ledK_fr K f s j).2.1 _ (fun q a b => by omega)]; exact h _ (by omega) (by omega)) _ _
      · rw [up_ne e]
        exact ih i
    · exact ih
section K12
variable {g : zGh} {K : zK} {X : zg → Option va_E} {ad : zg → Nat} {M : zM}
theorem k_drop (hp : zP g K X ad M) {i : Nat} (hi : chA K i) (hc : chW (kch K i)) (h1 : 1 ≤ (kch K i).2.1) : zCt g yX0_dropNewest cX0_dropNewest 1 none 0 0 mkV [.ref (ad (3, i))] M 0 0 (fun _ M1 => ∃ ad1, zP g (sch K i (dropC (kch K i))) X ad1 M1 ∧ ∀ t : zg, t.1 ≠ 4 → t.1 ≠ 5 → ad1 t = ad t) noX := by
  have h := hp.chr hi hc
  refine (c_dropNewest h).post fun _ M1 e => ?_
  rw [if_pos h1] at e
  subst e
  obtain ⟨hA, hD, hN, h2, h3, h4⟩ := h
  refine hp.tell hi (c := dropC (kch K i)) (d1 := ad (4, i)) (n1 := ad (5, i)) ⟨?_, ?_, ?_, ?_, h3, h4⟩ (fun q e hq n1 _ _ => by rw [zup_ne n1]; exact hq) (Or.inl ⟨rfl, rfl⟩)
  · rw [zup_same]
    show some (zob 1 [_, _, .int (nI (kch K i).2.1)]) = some (zob 1 [_, _, .int (nI ((kch K i).2.1 - 1 + 1))])
    rw [Nat.sub_add_cancel h1]
  · rw [zup_ne (zob_ai hA hD).symm]; exact hD
  · rw [zup_ne (zob_ai hA hN).symm]; exact hN
  · show (kch K i).2.1 - 1 + 1 ≤ (kch K i).1
    omega
theorem k_leader (hp : zP g K X ad M) {i : Nat} (h : i < K.1 13) : zCt g yX4_leader cX4_leader 1 (some (.object "Milletcourt$Person")) 0 0 (fun r => some (va_rf r)) [.ref (ad (10, i))] M 0 0 (fun v M1 => v = (ldrOf (kpe K i)).map (fun q => ad (10, q)) ∧ M1 = M) noX := by
  have hA := hp.per h
  unfold perE at hA
  unfold ldrOf
  cases e : (kpe K i).2.2.1 with
  | none =>
    rw [e] at hA
    exact p_leaderN (x := 0) hA
  | some q =>
    rw [e] at hA
    exact p_leaderS hA
end K12
set_option maxRecDepth 100000 in
set_option maxHeartbeats 1000000 in
theorem k_takeBy {g : zGh} {K : zK} {X : zg → Option va_E} {ad : zg → Nat} {M : zM} {p : Nat} (f : Int32) (hpn : p < K.1 13) (hp : zP g K X ad M) (hch : iCh K) (hck : (kch K (100 + p)).2.1 ≤ 1000) : zCt g yX7_takeByTurning cX7_takeByTurning 4 none 4 104 mkV [.ref (ad (0, 0)), .ref (ad (10, p)), .int f] M (tbM K p f) (tbS K p f) (fun v M1 => ∃ ad1, zP g (tbtK K p f) X ad1 M1 ∧ ∀ t : zg, t.1 ≠ 4 → t.1 ≠ 5 → ad1 t = ad t) noX := by
  refine zof [some (.ref (ad (0, 0))), some (.ref (ad (10, p))), some (.int f), none] (by decide +kernel) rfl rfl (Nat.le_of_ble_eq_true rfl) ?_
  intro Z C hE hnm
  have C : zC g Z RX7 cX7_takeByTurning 4 4 104 (tbM K p f) (tbS K p f) := C
  have hck1 : (kch K (100 + p)).2.1 < 2 ^ 30 := Nat.lt_of_le_of_lt hck (by decide)
  refine zaload_n C dX7_takeByTurning_0 rfl ?_
  refine zget C hf_X7_198 (hp.per (p := p) hpn) (by rfl) dX7_takeByTurning_1 ?_
  refine zastore_n (L1 := [_, _, _, _]) C dX7_takeByTurning_4 rfl (Nat.le_of_ble_eq_true rfl) ?_
  refine zaload_n C dX7_takeByTurning_5 rfl ?_
  refine ziload_n C dX7_takeByTurning_6 rfl ?_
  refine zcallV C (c_goesBackBy _ (hp.chr (i := 100 + p) (chA_per hpn) (hch _))) hy_X0_goesBackBy hv_X0_goesBackBy hl_X7_424 (hp.chr (i := 100 + p) (chA_per hpn) (hch _)).1 rfl rfl rfl rfl (by decide) (by decide) (by omega) (by omega) rfl (by exact Nat.le_of_ble_eq_true rfl) dX7_takeByTurning_7 (fun v7 M hp7 => ?_)
  obtain ⟨rfl, rfl⟩ := hp7
  refine zif_eq (tgt := 34) C dX7_takeByTurning_10 (by decide) (fun h10 => ?_) (fun h10 => ?_)
  · replace h10 := b2i_0.mp h10
    have hu : undoK K p f = false := by simp only [undoK, h10]; rfl
    have e1 : tbM K p f = tgC (kch K (100 + p)) (nI (K.1 1)) := by rw [tbM, hu]; rfl
    have e2 : tbS K p f = tgS (kch K (100 + p)) (nI (K.1 1)) := by rw [tbS, hu]; rfl
    have e3 : tbtC K p f = tellS (kch K (100 + p)) (nI (K.1 1)) f := by rw [tbtC, hu]; rfl
    refine zaload_n C dX7_takeByTurning_34 rfl ?_
    refine zaload_n C dX7_takeByTurning_35 rfl ?_
    refine zget C hf_X7_51 hp.main (by rfl) dX7_takeByTurning_36 ?_
    refine ziload_n C dX7_takeByTurning_39 rfl ?_
    refine zcallV C (k_tell hp (chA_per hpn) (hch _) hck (nI (K.1 1)) f) hy_X0_tell hv_X0_tell hl_X7_91 (hp.chr (i := 100 + p) (chA_per hpn) (hch _)).1 rfl rfl rfl rfl (by decide) (by decide) (by omega) (by omega) rfl (by exact Nat.le_of_ble_eq_true rfl) dX7_takeByTurning_40 (fun v40 M hpT => ?_)
    obtain ⟨ad1, hp, hst⟩ := hpT
    exact zend_v C hE dX7_takeByTurning_43 (by omega) (by omega) ⟨ad1, by rw [tbtK, tbtC, hu]; exact hp, hst⟩
  · replace h10 := b2i_n0.mp h10
    refine zaload_n C dX7_takeByTurning_13 rfl ?_
    refine zget C hf_X7_51 hp.main (by rfl) dX7_takeByTurning_14 ?_
    refine zaload_n C dX7_takeByTurning_17 rfl ?_
    refine zcallV C (c_newestDay (hp.chr (i := 100 + p) (chA_per hpn) (hch _))) hy_X0_newestDay hv_X0_newestDay hl_X7_427 (hp.chr (i := 100 + p) (chA_per hpn) (hch _)).1 rfl rfl rfl rfl (by decide) (by decide) (by omega) (by omega) rfl (by exact Nat.le_of_ble_eq_true rfl) dX7_takeByTurning_18 (fun v18 M hp18 => ?_)
    obtain ⟨rfl, rfl⟩ := hp18
    refine zisub C dX7_takeByTurning_21 ?_
    refine zbipush (v := 100) C dX7_takeByTurning_22 (by decide) ?_
    refine zicmp_ge (tgt := 34) C dX7_takeByTurning_24 (by decide) (fun h24 => ?_) (fun h24 => ?_)
    · have hu : undoK K p f = false := by rw [undoK, h10, decide_eq_false (zgt_nlt h24)]; rfl
      have e1 : tbM K p f = tgC (kch K (100 + p)) (nI (K.1 1)) := by rw [tbM, hu]; rfl
      have e2 : tbS K p f = tgS (kch K (100 + p)) (nI (K.1 1)) := by rw [tbS, hu]; rfl
      have e3 : tbtC K p f = tellS (kch K (100 + p)) (nI (K.1 1)) f := by rw [tbtC, hu]; rfl
      refine zaload_n C dX7_takeByTurning_34 rfl ?_
      refine zaload_n C dX7_takeByTurning_35 rfl ?_
      refine zget C hf_X7_51 hp.main (by rfl) dX7_takeByTurning_36 ?_
      refine ziload_n C dX7_takeByTurning_39 rfl ?_
      refine zcallV C (k_tell hp (chA_per hpn) (hch _) hck (nI (K.1 1)) f) hy_X0_tell hv_X0_tell hl_X7_91 (hp.chr (i := 100 + p) (chA_per hpn) (hch _)).1 rfl rfl rfl rfl (by decide) (by decide) (by omega) (by omega) rfl (by exact Nat.le_of_ble_eq_true rfl) dX7_takeByTurning_40 (fun v40 M hpT => ?_)
      obtain ⟨ad1, hp, hst⟩ := hpT
      exact zend_v C hE dX7_takeByTurning_43 (by omega) (by omega) ⟨ad1, by rw [tbtK, tbtC, hu]; exact hp, hst⟩
    · refine zaload_n C dX7_takeByTurning_27 rfl ?_
      have hu : undoK K p f = true := by rw [undoK, h10, decide_eq_true (znle_lt2 h24)]; rfl
      have hk1 : 1 ≤ (kch K (100 + p)).2.1 := by simp at h10; exact h10.1
      refine zcallV C (k_drop hp (chA_per hpn) (hch _) hk1) hy_X0_dropNewest hv_X0_dropNewest hl_X7_430 (hp.chr (i := 100 + p) (chA_per hpn) (hch _)).1 rfl rfl rfl rfl (by decide) (by decide) (by omega) (by omega) rfl (by exact Nat.le_of_ble_eq_true rfl) dX7_takeByTurning_28 (fun v28 M hpT => ?_)
      obtain ⟨ad1, hp, hst⟩ := hpT
      refine zgoto (tgt := 43) C dX7_takeByTurning_31 (by decide) ?_
      exact zend_v C hE dX7_takeByTurning_43 (by omega) (by omega) ⟨ad1, by rw [tbtK, tbtC, hu]; exact hp, hst⟩
