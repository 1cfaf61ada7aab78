theorem sN_s {K : zK} {j v : Nat} : (sN K j v).1 j = v := up_eq
def peTon (x : zPe) : Int32 × Int32 := (x.2.2.2.2.2.2.1, x.2.2.2.2.2.2.2.1)
theorem clrK_ton (K : zK) (q : Nat) : ∀ n, peTon (kpe (clrK K n) q) = peTon (kpe K q)
  | 0 => rfl
  | n + 1 => by
    show peTon (va_up (kpe (clrK K n)) n _ q) = _
    by_cases e : q = n
    · subst e
      rw [up_eq]
      exact clrK_ton K q q
    · rw [up_ne e]
      exact clrK_ton K q n
theorem ld2_ton (K : zK) (p q : Nat) : peTon (kpe (ld2 K p) q) = peTon (kpe K q) := by
  show peTon (va_up (kpe (clrK K (K.1 13))) p _ q) = _
  by_cases e : q = p
  · subst e
    rw [up_eq]
    exact clrK_ton K q _
  · rw [up_ne e]
    exact clrK_ton K q _
theorem ledK_ton (K : zK) (f : Int32) (s q : Nat) : ∀ j, peTon (kpe (ledK K f s j) q) = peTon (kpe K q)
  | 0 => rfl
  | j + 1 => by
    rw [ledK]
    split
    · show peTon (va_up (kpe (ledK K f s j)) (s + j) _ q) = _
      by_cases e : q = s + j
      · subst e
        rw [up_eq]
        exact ledK_ton K f s _ j
      · rw [up_ne e]
        exact ledK_ton K f s q j
    · exact ledK_ton K f s q j
/-- what is laid on one who turns today -/
def du1 (K : zK) (i : Nat) : zK := spe K i (peTurn (kpe K i) (-1) (-1))
def du2 (K : zK) (i : Nat) : zK := tbtK (du1 K i) i (kpe K i).2.2.2.2.2.2.1
def dueK (K : zK) (i : Nat) : zK := if (kpe K i).2.2.2.2.2.2.2.1 = nI (K.1 1) then ldcK (du2 K i) i (kpe K i).2.2.2.2.2.2.1 else K
def tfdK (K : zK) : Nat → zK
  | 0 => K
  | i + 1 => dueK (tfdK K i) i
def dyK (K : zK) : zK := tfdK (sN K 1 (K.1 1 + 1)) (K.1 13)
def psK (K : zK) : Nat → zK
  | 0 => K
  | d + 1 => dyK (psK K d)
def pdK (f : Nat → zPe) : Nat → Nat
  | 0 => 0
  | n + 1 => pdK f n + (if (f n).2.2.2.2.2.2.2.1 = -1 then 0 else 1)
theorem pdK_congr {f h : Nat → zPe} : ∀ n, (∀ q, q < n → (f q).2.2.2.2.2.2.2.1 = (h q).2.2.2.2.2.2.2.1) → pdK f n = pdK h n
  | 0, _ => rfl
  | n + 1, hq => by unfold pdK; rw [pdK_congr n (fun q h => hq q (by omega)), hq n (by omega)]
theorem pdK_less {f h : Nat → zPe} {p : Nat} : ∀ n, p < n → (∀ q, q < n → q ≠ p → (h q).2.2.2.2.2.2.2.1 = (f q).2.2.2.2.2.2.2.1) → (h p).2.2.2.2.2.2.2.1 = -1 → ¬ (f p).2.2.2.2.2.2.2.1 = -1 → pdK h n + 1 = pdK f n
  | n + 1, hp, hq, h1, h2 => by
    unfold pdK
    by_cases e : p = n
    · subst e
      rw [pdK_congr (f := h) (h := f) p (fun q a => hq q (by omega) (by omega)), if_pos h1, if_neg h2]
    · have := pdK_less (f := f) (h := h) n (show p < n by omega) (fun q a b => hq q (by omega) b) h1 h2
      rw [hq n (by omega) (fun e2 => e e2.symm)]
      omega
/-- what chronicles of faiths hold and what all have still to turn is together no more than B -/
def kTB (K : zK) (B : Nat) : Prop := ∀ q, q < K.1 13 → (kch K (100 + q)).2.1 + pdK (kpe K) (K.1 13) ≤ B
theorem tbtC_k (K : zK) (p : Nat) (f : Int32) : (tbtC K p f).2.1 ≤ (kch K (100 + p)).2.1 + 1 ∧ (kch K (100 + p)).1 ≤ (tbtC K p f).1 := by
  unfold tbtC
  split
  · exact ⟨by show (kch K (100 + p)).2.1 - 1 ≤ _; omega, Nat.le_refl _⟩
  · exact ⟨tellS_k _ _ _, tellS_cap _ _ _⟩
theorem tbtC_W {K : zK} {p : Nat} (f : Int32) (h : chW (kch K (100 + p))) (hk : (kch K (100 + p)).2.1 ≤ 1000) : chW (tbtC K p f) := by
  unfold tbtC
  split
  · obtain ⟨h1, h2, h3⟩ := h
    exact ⟨by show (kch K (100 + p)).2.1 - 1 + 1 ≤ (kch K (100 + p)).1; omega, h2, h3⟩
  · exact tellS_W h hk _ _
theorem tbt_cost {K : zK} {p n : Nat} (f : Int32) (h : chW (kch K (100 + p))) (hp : p < n) : capF (kch K) n + tbM K p f ≤ capF (kch (tbtK K p f)) n ∧ 4 * capF (kch K) n + tbS K p f ≤ 4 * capF (kch (tbtK K p f)) n := by
  have hU := capF_up (f := kch K) (p := p) (c := tbtC K p f) n hp
  rw [show capF (kch (tbtK K p f)) n = capF (va_up (kch K) (100 + p) (tbtC K p f)) n from rfl]
  have hg := tg_cap h (nI (K.1 1)) f
  unfold tbM tbS
  unfold tbtC at hU ⊢
  split
  · rename_i e
    rw [if_pos e] at hU
    have : (dropC (kch K (100 + p))).1 = (kch K (100 + p)).1 := rfl
    omega
  · rename_i e
    rw [if_neg e] at hU
    omega
theorem du1_fr (K : zK) (i : Nat) : sfr K (du1 K i) := sfr.pe ⟨rfl, rfl, rfl, rfl, rfl, rfl⟩
theorem du2_fr (K : zK) (i : Nat) : sfr K (du2 K i) := (du1_fr K i).trans sfr.ch
theorem du2_ch (K : zK) (i q : Nat) : (kch (du2 K i) q).2.1 ≤ (kch K q).2.1 + 1 ∧ (kch K q).1 ≤ (kch (du2 K i) q).1 ∧ (q ≠ 100 + i → kch (du2 K i) q = kch K q) := by
  have h : kch (du2 K i) q = va_up (kch K) (100 + i) (tbtC (du1 K i) i (kpe K i).2.2.2.2.2.2.1) q := rfl
  by_cases e : q = 100 + i
  · subst e
    rw [h, up_eq]
    exact ⟨(tbtC_k _ _ _).1, (tbtC_k _ _ _).2, fun h => absurd rfl h⟩
  · rw [h, up_ne e]
    exact ⟨Nat.le_succ _, Nat.le_refl _, fun _ => rfl⟩
theorem du2_W {K : zK} {i : Nat} (h : iCh K) (hk : (kch K (100 + i)).2.1 ≤ 1000) : iCh (du2 K i) := fun q => by
  by_cases e : q = 100 + i
  · subst e
    show chW (va_up (kch K) (100 + i) (tbtC (du1 K i) i (kpe K i).2.2.2.2.2.2.1) (100 + i))
    rw [up_eq]
    exact tbtC_W (K := du1 K i) _ (h _) hk
  · rw [(du2_ch K i q).2.2 e]
    exact h q
theorem ldcK_fr (K : zK) (p : Nat) (f : Int32) : sfr K (ldcK K p f) ∧ (∀ i, (∀ q, p + 1 ≤ q → q < K.1 13 → i ≠ 100 + q) → kch (ldcK K p f) i = kch K i) ∧ (∀ i, (kch K i).1 ≤ (kch (ldcK K p f) i).1) ∧ (∀ i, (kch (ldcK K p f) i).2.1 ≤ (kch K i).2.1 + 1) ∧ ∀ q, peTon (kpe (ldcK K p f) q) = peTon (kpe K q) := by
  obtain ⟨a, b, c, d⟩ := ledK_fr (ld2 K p) f (p + 1) (K.1 13 - (p + 1))
  rw [(ld2_fr K p).2] at b c d
  exact ⟨(ld2_fr K p).1.trans a, fun i hi => b i (fun q h1 h2 => hi q h1 (by omega)), c, d, fun q => (ledK_ton _ _ _ _ _).trans (ld2_ton K p q)⟩
theorem ldcK_W {K : zK} {p : Nat} {f : Int32} (h : iCh K) (hk : ∀ q, p < q → q < K.1 13 → (kch K (100 + q)).2.1 ≤ 1000) : iCh (ldcK K p f) :=
  ledK_W _ _ _ (by unfold iCh; rw [(ld2_fr K p).2]; exact h) _ (fun q a b => by rw [(ld2_fr K p).2]; exact hk q (by omega) (by omega))
theorem dueK_fr (K : zK) (i : Nat) : sfr K (dueK K i) ∧ ∀ c, (kch K c).1 ≤ (kch (dueK K i) c).1 := by
  unfold dueK
  split
  · exact ⟨(du2_fr K i).trans (ldcK_fr _ _ _).1, fun c => Nat.le_trans (du2_ch K i c).2.1 ((ldcK_fr _ _ _).2.2.1 c)⟩
  · exact ⟨sfr.rf, fun _ => Nat.le_refl _⟩
theorem dueK_W {K : zK} {i B : Nat} (hi : i < K.1 13) (h : iCh K) (hTB : kTB K B) (hB : B ≤ 1000) : iCh (dueK K i) := by
  unfold dueK
  split
  · refine ldcK_W (du2_W h (by have := hTB i hi; omega)) (fun q a b => ?_)
    rw [(du2_ch K i _).2.2 (by omega)]
    have := hTB q (by rw [(du2_fr K i).1] at b; exact b)
    omega
  · exact h
theorem dueK_TB {K : zK} {i B : Nat} (hi : i < K.1 13) (h1 : K.1 1 ≤ 30000) (hTB : kTB K B) : kTB (dueK K i) B := by
  unfold dueK
  split
  · rename_i e
    have e13 : (ldcK (du2 K i) i (kpe K i).2.2.2.2.2.2.1).1 13 = K.1 13 := by rw [(ldcK_fr _ _ _).1.1, (du2_fr K i).1]
    intro q hq
    rw [e13] at hq ⊢
    have hton : ∀ q, peTon (kpe (ldcK (du2 K i) i (kpe K i).2.2.2.2.2.2.1) q) = peTon (kpe (du2 K i) q) := (ldcK_fr _ _ _).2.2.2.2
    have hpd : pdK (kpe (ldcK (du2 K i) i (kpe K i).2.2.2.2.2.2.1)) (K.1 13) + 1 = pdK (kpe K) (K.1 13) := by
      refine pdK_less (p := i) _ hi (fun q _ hne => ?_) ?_ ?_
      · have := congrArg Prod.snd (hton q)
        refine this.trans ?_
        show (peTon (va_up (kpe K) i _ q)).2 = _
        rw [up_ne hne]
        rfl
      · have := congrArg Prod.snd (hton i)
        refine this.trans ?_
        show (peTon (va_up (kpe K) i _ i)).2 = _
        rw [up_eq]
        rfl
      · rw [e]
        exact nI_m1 (by omega)
    have hk : (kch (ldcK (du2 K i) i (kpe K i).2.2.2.2.2.2.1) (100 + q)).2.1 ≤ (kch K (100 + q)).2.1 + 1 := by
      by_cases e2 : q = i
      · subst e2
        rw [(ldcK_fr _ _ _).2.1 _ (fun x a b => by omega)]
        exact (du2_ch K q _).1
      · refine Nat.le_trans ((ldcK_fr _ _ _).2.2.2.1 _) ?_
        rw [(du2_ch K i _).2.2 (by omega)]
        exact Nat.le_refl _
    have := hTB q hq
    omega
  · exact hTB
theorem tfdK_all {K : zK} {B : Nat} (h : iCh K) (h1 : K.1 1 ≤ 30000) (hTB : kTB K B) (hB : B ≤ 1000) : ∀ i, i ≤ K.1 13 → sfr K (tfdK K i) ∧ iCh (tfdK K i) ∧ kTB (tfdK K i) B
  | 0, _ => ⟨sfr.rf, h, hTB⟩
  | i + 1, hi => by
    obtain ⟨a, b, c⟩ := tfdK_all h h1 hTB hB i (by omega)
    have e13 : i < (tfdK K i).1 13 := by rw [a.1]; omega
    exact ⟨a.trans (dueK_fr _ _).1, dueK_W e13 b c hB, dueK_TB e13 (by rw [a.1]; exact h1) c⟩
theorem tfdK_mono (K : zK) (i : Nat) : ∀ r c, (kch (tfdK K i) c).1 ≤ (kch (tfdK K (i + r)) c).1
  | 0, _ => Nat.le_refl _
  | r + 1, c => Nat.le_trans (tfdK_mono K i r c) ((dueK_fr _ _).2 c)
theorem psK_all {K : zK} {B : Nat} (h : iCh K) (hTB : kTB K B) (hB : B ≤ 1000) : ∀ d, K.1 1 + d ≤ 30000 → (psK K d).1 1 = K.1 1 + d ∧ (∀ j, j ≠ 1 → (psK K d).1 j = K.1 j) ∧ iCh (psK K d) ∧ kTB (psK K d) B ∧ (iPa K → iPa (psK K d))
  | 0, _ => ⟨rfl, fun _ _ => rfl, h, hTB, id⟩
  | d + 1, hd => by
    obtain ⟨a, b, c, e, f⟩ := psK_all h hTB hB d (by omega)
    obtain ⟨p1, p2, p3⟩ := tfdK_all (K := sN (psK K d) 1 ((psK K d).1 1 + 1)) (B := B) c (by rw [sN_s]; omega) (fun q hq => e q hq) hB ((psK K d).1 13) (Nat.le_refl _)
    refine ⟨?_, fun j hj => ?_, p2, p3, fun hpa => p1.iPa (fun q hq => f hpa q hq)⟩
    · show (tfdK _ _).1 1 = _
      rw [p1.1]
      show va_up (psK K d).1 1 _ 1 = _
      rw [up_eq, a]
      rfl
    · show (tfdK _ _).1 j = _
      rw [p1.1]
      show va_up (psK K d).1 1 _ j = _
      rw [up_ne hj]
      exact b j hj
theorem psK_mono (K : zK) (d : Nat) : ∀ r c, (kch (psK K d) c).1 ≤ (kch (psK K (d + r)) c).1
  | 0, _ => Nat.le_refl _
  | r + 1, c => Nat.le_trans (psK_mono K d r c) (by
    show _ ≤ (kch (tfdK (sN (psK K (d + r)) 1 _) _) c).1
    have := tfdK_mono (sN (psK K (d + r)) 1 ((psK K (d + r)).1 1 + 1)) 0 ((psK K (d + r)).1 13) c
    rw [Nat.zero_add] at this
    exact this)
def x_pass (K : zK) (d : Int32) : Nat := if wthn d 1 2000 = false then 2 else if decide (d ≤ 30000 - nI (K.1 1)) = false then 3 else 0
theorem days_of {d : Int32} (h : wthn d 1 2000 = true) : ∃ n, 1 ≤ n ∧ n ≤ 2000 ∧ d = nI n := by
  unfold wthn at h
  rw [Bool.and_eq_true, decide_eq_true_eq, decide_eq_true_eq, Int32.le_iff_toInt_le, Int32.le_iff_toInt_le] at h
  have e1 : (1 : Int32).toInt = 1 := rfl
  have e2 : (2000 : Int32).toInt = 2000 := rfl
  obtain ⟨j, hj, e⟩ := vp_in_of (x := d) (n := 2001) (vp_in_iff.mpr ⟨by omega, by omega⟩) (by decide)
  have := congrArg Int32.toInt e
  rw [nI_toInt (by omega)] at this
  exact ⟨j, by omega, by omega, e⟩
theorem days_le {n t : Nat} (hn : n ≤ 2000) (ht : t ≤ 30000) : nI n ≤ 30000 - nI t ↔ t + n ≤ 30000 := by
  rw [show (30000 : Int32) = nI 30000 from rfl, pk_sub ht, nI_leI (by omega) (by omega)]
  omega
set_option maxRecDepth 100000 in
set_option maxHeartbeats 1000000 in
theorem k_tfd {g : zGh} {K : zK} {X : zg → Option va_E} {ad : zg → Nat} {M : zM} {B : Nat} (hp : zP g K X ad M) (h13 : K.1 13 ≤ 40) (hb1 : K.1 1 ≤ 30000) (hch : iCh K) (hpa : iPa K) (hTB : kTB K B) (hB : B ≤ 1000) : zCt g yX7_takeFaithsDue cX7_takeFaithsDue 4 none 5 130 mkV [.ref (ad (0, 0))] M (capF (kch (tfdK K (K.1 13))) (K.1 13) - capF (kch K) (K.1 13)) (4 * (capF (kch (tfdK K (K.1 13))) (K.1 13) - capF (kch K) (K.1 13))) (fun v M1 => ∃ ad1, zP g (tfdK K (K.1 13)) X ad1 M1 ∧ ∀ t : zg, t.1 ≠ 4 → t.1 ≠ 5 → ad1 t = ad t) noX := by
  refine zof [some (.ref (ad (0, 0))), none, none, none] (by decide +kernel) rfl rfl (Nat.le_of_ble_eq_true rfl) ?_
  intro Z C hE hnm
  have C : zC g Z RX7 cX7_takeFaithsDue 4 5 130 (capF (kch (tfdK K (K.1 13))) (K.1 13) - capF (kch K) (K.1 13)) (4 * (capF (kch (tfdK K (K.1 13))) (K.1 13) - capF (kch K) (K.1 13))) := C
  have loop : ∀ (r i : Nat), i + r = K.1 13 → ∀ (K1 : zK) (M : zM) (ad1 : zg → Nat), K1 = tfdK K i → zP g K1 X ad1 M → (∀ t : zg, t.1 ≠ 4 → t.1 ≠ 5 → ad1 t = ad t) → zG g Z M (capF (kch K1) (K.1 13) - capF (kch K) (K.1 13)) (4 * (capF (kch K1) (K.1 13) - capF (kch K) (K.1 13))) 2 [some (.ref (ad1 (0, 0))), some (.int (nI i)), none, none] [] := by
    intro r
    induction r with
    | zero =>
      intro i hi K1 M ad1 hK hp hst
      obtain rfl : i = K.1 13 := by omega
      subst hK
      have e13 : (tfdK K (K.1 13)).1 13 = K.1 13 := by rw [(tfdK_all hch hb1 hTB hB _ (Nat.le_refl _)).1.1]
      refine ziload_n C dX7_takeFaithsDue_2 rfl ?_
      refine zaload_n C dX7_takeFaithsDue_3 rfl ?_
      refine zget C hf_X7_35 hp.main (by rfl) dX7_takeFaithsDue_4 ?_
      refine zcallV C (q_size (hp.lq1 (by omega))) hy_Jx4a65c_size_8abf5 hv_Jx4a65c_size_8abf5 hl_X7_58 (hp.lo1) rfl rfl rfl rfl (by decide) (by decide) (by omega) (by omega) rfl (by exact Nat.le_of_ble_eq_true rfl) dX7_takeFaithsDue_7 (fun v7 M hp7 => ?_)
      obtain ⟨rfl, rfl⟩ := hp7
      refine zicmp_ge (tgt := 63) C dX7_takeFaithsDue_10 (by decide) (fun h10 => ?_) (fun h10 => by first | exact absurd (nI_le (by omega) (by omega)) h10 | exact absurd h10 (nI_le (by omega) (by omega)))
      exact zend_v C hE dX7_takeFaithsDue_63 (by omega) (by omega) ⟨ad1, hp, hst⟩
    | succ r ih =>
      intro i hi K1 M ad1 hK hp hst
      obtain ⟨hsf, hch1, hTB1⟩ := tfdK_all hch hb1 hTB hB i (by omega)
      rw [← hK] at hsf hch1 hTB1
      have e1 := hsf.1
      have e13 : K1.1 13 = K.1 13 := by rw [e1]
      have hi1 : i < K1.1 13 := by omega
      have hpa1 : iPa K1 := hsf.iPa hpa
      have hnx : tfdK K (i + 1) = dueK K1 i := by rw [tfdK, hK]
      have hm0 : capF (kch K) (K.1 13) ≤ capF (kch K1) (K.1 13) := by rw [hK]; exact capF_mono (fun c => by have := tfdK_mono K 0 i c; rw [Nat.zero_add] at this; exact this) _
      have hm1 : capF (kch K1) (K.1 13) ≤ capF (kch (tfdK K (K.1 13))) (K.1 13) := by rw [hK, show K.1 13 = i + (r + 1) by omega]; exact capF_mono (tfdK_mono _ _ _) _
      have hm2 : capF (kch (dueK K1 i)) (K.1 13) ≤ capF (kch (tfdK K (K.1 13))) (K.1 13) := by rw [← hnx, show K.1 13 = (i + 1) + r by omega]; exact capF_mono (tfdK_mono _ _ _) _
      refine ziload_n C dX7_takeFaithsDue_2 rfl ?_
      refine zaload_n C dX7_takeFaithsDue_3 rfl ?_
      refine zget C hf_X7_35 hp.main (by rfl) dX7_takeFaithsDue_4 ?_
      refine zcallV C (q_size (hp.lq1 (by omega))) hy_Jx4a65c_size_8abf5 hv_Jx4a65c_size_8abf5 hl_X7_58 (hp.lo1) rfl rfl rfl rfl (by decide) (by decide) (by omega) (by omega) rfl (by exact Nat.le_of_ble_eq_true rfl) dX7_takeFaithsDue_7 (fun v7 M hp7 => ?_)
      obtain ⟨rfl, rfl⟩ := hp7
      refine zicmp_ge (tgt := 63) C dX7_takeFaithsDue_10 (by decide) (fun h10 => by first | exact absurd h10 (nI_ge (by omega) (by omega)) | exact absurd (nI_ge (by omega) (by omega)) h10) (fun h10 => ?_)
      refine zaload_n C dX7_takeFaithsDue_13 rfl ?_
      refine zget C hf_X7_35 hp.main (by rfl) dX7_takeFaithsDue_14 ?_
      refine ziload_n C dX7_takeFaithsDue_17 rfl ?_
      refine zcallV C (q_get i (hp.lq1 (by omega)) (show i < _ from hi1)) hy_Jx4a65c_get_915e3 hv_Jx4a65c_get_915e3 hl_X7_384 (hp.lo1) rfl rfl rfl rfl (by decide) (by decide) (by omega) (by omega) rfl (by exact Nat.le_of_ble_eq_true rfl) dX7_takeFaithsDue_18 (fun v18 M hp18 => ?_)
      obtain ⟨rfl, rfl⟩ := hp18
      rw [if_pos (show i < _ from hi1)]
      refine zcastS C (hp.per (p := i) (show i < _ from hi1)) rfl hc_X7_128 dX7_takeFaithsDue_21 ?_
      refine zastore_n (L1 := [_, _, _, _]) C dX7_takeFaithsDue_24 rfl (Nat.le_of_ble_eq_true rfl) ?_
      refine zaload_n C dX7_takeFaithsDue_25 rfl ?_
      refine zget C hf_X7_190 (hp.per (p := i) (show i < _ from hi1)) (by rfl) dX7_takeFaithsDue_26 ?_
      refine zaload_n C dX7_takeFaithsDue_29 rfl ?_
      refine zget C hf_X7_51 hp.main (by rfl) dX7_takeFaithsDue_30 ?_
      refine zicmp_ne (tgt := 57) C dX7_takeFaithsDue_33 (by decide) (fun h33 => ?_) (fun h33 => ?_)
      · replace h33 : ¬ (kpe K1 i).2.2.2.2.2.2.2.1 = nI (K1.1 1) := h33
        refine ziinc (L1 := [_, _, _, _]) (v := nI (i + 1)) C dX7_takeFaithsDue_57 rfl (nI_1 i) rfl ?_
        refine zgoto (tgt := 2) C dX7_takeFaithsDue_60 (by decide) ?_
        refine zfor [true, true, false, false] (L1 := [_, _, _, _]) rfl ?_
        exact zcg (ih (i + 1) (by omega) K1 M ad1 (by rw [hnx, dueK, if_neg h33]) hp hst) (by simp [zk1])
      · replace h33 : (kpe K1 i).2.2.2.2.2.2.2.1 = nI (K1.1 1) := h33
        have hdu : dueK K1 i = ldcK (du2 K1 i) i (kpe K1 i).2.2.2.2.2.2.1 := if_pos h33
        have hki : (kch K1 (100 + i)).2.1 ≤ 1000 := by have := hTB1 i hi1; omega
        have hc1 := tbt_cost (K := du1 K1 i) (kpe K1 i).2.2.2.2.2.2.1 (hch1 (100 + i)) (show i < K.1 13 by omega)
        have hc2 : capF (kch (du1 K1 i)) (K.1 13) = capF (kch K1) (K.1 13) := rfl
        have hc3 : capF (kch (tbtK (du1 K1 i) i (kpe K1 i).2.2.2.2.2.2.1)) (K.1 13) = capF (kch (du2 K1 i)) (K.1 13) := rfl
        have e13b : (du2 K1 i).1 13 = K.1 13 := by rw [(du2_fr K1 i).1]; exact e13
        have hc4 : capF (kch (du2 K1 i)) (K.1 13) ≤ capF (kch (dueK K1 i)) (K.1 13) := by rw [hdu]; exact capF_mono (ldcK_fr _ _ _).2.2.1 _
        refine zaload_n C dX7_takeFaithsDue_36 rfl ?_
        refine zget C hf_X7_187 (hp.per (p := i) (show i < _ from hi1)) (by rfl) dX7_takeFaithsDue_37 ?_
        refine zistore_n (L1 := [_, _, _, _]) C dX7_takeFaithsDue_40 rfl (Nat.le_of_ble_eq_true rfl) ?_
        refine zaload_n C dX7_takeFaithsDue_41 rfl ?_
        refine zcallV C (k_endTurning hp hi1) hy_X4_endTurning hv_X4_endTurning hl_X7_195 (hp.per (p := i) (show i < _ from hi1)) rfl rfl rfl rfl (by decide) (by decide) (by omega) (by omega) rfl (by exact Nat.le_of_ble_eq_true rfl) dX7_takeFaithsDue_42 (fun v42 M hp => ?_)
        replace hp : zP g (du1 K1 i) X ad1 M := hp
        refine zaload_n C dX7_takeFaithsDue_45 rfl ?_
        refine zaload_n C dX7_takeFaithsDue_46 rfl ?_
        refine ziload_n C dX7_takeFaithsDue_47 rfl ?_
        refine zcallV C (k_takeBy (K := du1 K1 i) (kpe K1 i).2.2.2.2.2.2.1 hi1 hp hch1 hki) hy_X7_takeByTurning hv_X7_takeByTurning hl_X7_417 hp.main rfl rfl rfl rfl (by decide) (by decide) (by omega) (by omega) rfl (by exact Nat.le_of_ble_eq_true rfl) dX7_takeFaithsDue_48 (fun v48 M hpT => ?_)
        obtain ⟨ad2, hp, hst2⟩ := hpT
        replace hp : zP g (du2 K1 i) X ad2 M := hp
        rw [← hst2 (0, 0) (by decide) (by decide), ← hst2 (10, i) (by simp) (by simp)]
        refine zaload_n C dX7_takeFaithsDue_51 rfl ?_
        refine zaload_n C dX7_takeFaithsDue_52 rfl ?_
        refine ziload_n C dX7_takeFaithsDue_53 rfl ?_
        refine zcallV C (k_lead (K := du2 K1 i) (kpe K1 i).2.2.2.2.2.2.1 (show i < (du2 K1 i).1 13 by omega) hp (by omega) (du2_W hch1 hki) (fun q a b => by rw [(du2_ch K1 i _).2.2 (by omega)]; have := hTB1 q (by omega); omega) ((du2_fr K1 i).iPa hpa1)) hy_X7_leadChildren hv_X7_leadChildren hl_X7_421 hp.main rfl rfl rfl rfl (by decide) (by decide) (by rw [← hdu, e13b]; omega) (by rw [← hdu, e13b]; omega) rfl (by exact Nat.le_of_ble_eq_true rfl) dX7_takeFaithsDue_54 (fun v54 M hpT => ?_)
        obtain ⟨ad3, hp, hst3⟩ := hpT
        rw [← hdu, e13b]
        rw [← hdu] at hp
        rw [← hst3 (0, 0) (by decide) (by decide)]
        refine ziinc (L1 := [_, _, _, _]) (v := nI (i + 1)) C dX7_takeFaithsDue_57 rfl (nI_1 i) rfl ?_
        refine zgoto (tgt := 2) C dX7_takeFaithsDue_60 (by decide) ?_
        refine zfor [true, true, false, false] (L1 := [_, _, _, _]) rfl ?_
        exact zcg (zwid (by omega) (by omega) (ih (i + 1) (by omega) _ M ad3 hnx.symm hp (fun t a b => (hst3 t a b).trans ((hst2 t a b).trans (hst t a b))))) (by simp [zk1])
  refine zconst (v := 0) C dX7_takeFaithsDue_0 (by decide) ?_
  refine zistore_n (L1 := [_, _, _, _]) C dX7_takeFaithsDue_1 rfl (Nat.le_of_ble_eq_true rfl) ?_
  exact zcg (zwid (by omega) (by omega) (loop (K.1 13) 0 (by omega) K M ad rfl hp (fun _ _ _ => rfl))) (by simp [zk1, nI_0])
set_option maxRecDepth 100000 in
set_option maxHeartbeats 1000000 in
theorem K_pass {g : zGh} {K : zK} {X : zg → Option va_E} {ad : zg → Nat} {M : zM} (d : Int32) {B : Nat} (hp : zP g K X ad M) (hi : iK K) (hTB : kTB K B) (hB : B ≤ 1000) : zCt g yX7_pass cX7_pass 3 (some .int) 7 153 mkI [.ref (ad (0, 0)), .int d] M (8 + (capF (kch (psK K d.toNatClampNeg)) (K.1 13) - capF (kch K) (K.1 13))) (48 + 4 * (capF (kch (psK K d.toNatClampNeg)) (K.1 13) - capF (kch K) (K.1 13))) (fun v M1 => x_pass K d = 0 ∧ v = nI (K.1 1 + d.toNatClampNeg) ∧ ∃ ad1, zP g (psK K d.toNatClampNeg) X ad1 M1 ∧ ∀ t : zg, t.1 ≠ 4 → t.1 ≠ 5 → ad1 t = ad t) (fun E M1 => thr E (x_pass K d) ∧ M1 = M) := by
  refine zof [some (.ref (ad (0, 0))), some (.int d), none] (by decide +kernel) rfl rfl (Nat.le_of_ble_eq_true rfl) ?_
  intro Z C hE hnm
  have C : zC g Z RX7 cX7_pass 3 7 153 (8 + (capF (kch (psK K d.toNatClampNeg)) (K.1 13) - capF (kch K) (K.1 13))) (48 + 4 * (capF (kch (psK K d.toNatClampNeg)) (K.1 13) - capF (kch K) (K.1 13))) := C
  obtain ⟨⟨hb1, h2, h4, h9, h13, h25, h33⟩, ⟨hch, hf⟩, ⟨hma, hsu, hpa⟩, hwp, hwi, hsc⟩ := hi
  have hw64 : ∀ s, (kws K s).1 ≤ 64 := fun s => Nat.le_trans (hwi s) (by decide)
  refine ziload_n C dX7_pass_0 rfl ?_
  refine zconst (v := 1) C dX7_pass_1 (by decide) ?_
  refine zsipush (v := 2000) C dX7_pass_2 (by decide) ?_
  refine zcallSX C (k_needWithin _ _ _) hy_X7_needWithin hst_X7_needWithin hl_X7_102 rfl rfl (by decide) (by decide) (by omega) (by omega) rfl (by exact Nat.le_of_ble_eq_true rfl) dX7_pass_5 (fun E M1 hx => zout C hE (by omega) (by omega) (by obtain ⟨e, hz, hm⟩ := hx; subst e; subst hm; exact ⟨thr2 (by simp [x_pass, hz]), rfl⟩)) (fun v5 M hp5 => ?_)
  obtain ⟨w5, rfl⟩ := hp5
  obtain ⟨dn, hd1, hd2, rfl⟩ := days_of w5
  have edn : (nI dn).toNatClampNeg = dn := nI_clamp (by omega)
  refine ziload_n C dX7_pass_8 rfl ?_
  refine zsipush (v := 30000) C dX7_pass_9 (by decide) ?_
  refine zaload_n C dX7_pass_12 rfl ?_
  refine zget C hf_X7_51 hp.main (by rfl) dX7_pass_13 ?_
  refine zisub C dX7_pass_16 ?_
  refine zicmp_le (tgt := 31) C dX7_pass_17 (by decide) (fun h17 => ?_) (fun h17 => ?_)
  · have hdd := (days_le hd2 hb1).mp h17
    refine zconst (v := 0) C dX7_pass_31 (by decide) ?_
    refine zistore_n (L1 := [_, _, _]) C dX7_pass_32 rfl (Nat.le_of_ble_eq_true rfl) ?_
    have loop : ∀ (r i : Nat), i + r = dn → ∀ (K1 : zK) (M : zM) (ad1 : zg → Nat), K1 = psK K i → zP g K1 X ad1 M → (∀ t : zg, t.1 ≠ 4 → t.1 ≠ 5 → ad1 t = ad t) → zG g Z M (1 + (capF (kch K1) (K.1 13) - capF (kch K) (K.1 13))) (6 + 4 * (capF (kch K1) (K.1 13) - capF (kch K) (K.1 13))) 33 [some (.ref (ad1 (0, 0))), some (.int (nI dn)), some (.int (nI i))] [] := by
      intro r
      induction r with
      | zero =>
        intro i hi K1 M ad1 hK hp hst
        obtain rfl : i = dn := by omega
        subst hK
        obtain ⟨q1, q2, q3, q4, q5⟩ := psK_all hch hTB hB i hdd
        refine ziload_n C dX7_pass_33 rfl ?_
        refine ziload_n C dX7_pass_34 rfl ?_
        refine zicmp_ge (tgt := 58) C dX7_pass_35 (by decide) (fun h35 => ?_) (fun h35 => by first | exact absurd (nI_le (by omega) (by omega)) h35 | exact absurd h35 (nI_le (by omega) (by omega)))
        refine zaload_n C dX7_pass_58 rfl ?_
        refine zget C hf_X7_51 hp.main (by rfl) dX7_pass_59 ?_
        exact zend_i C hE dX7_pass_62 (by rw [edn]; omega) (by rw [edn]; omega) ⟨by rw [x_pass, w5, decide_eq_true h17]; rfl, by rw [edn, q1], ad1, by rw [edn]; exact hp, hst⟩
      | succ r ih =>
        intro i hi K1 M ad1 hK hp hst
        obtain ⟨q1, q2, q3, q4, q5⟩ := psK_all hch hTB hB i (by omega)
        rw [← hK] at q1 q2 q3 q4 q5
        have e13 : K1.1 13 = K.1 13 := q2 13 (by decide)
        have hnx : psK K (i + 1) = tfdK (sN K1 1 (K1.1 1 + 1)) (K1.1 13) := by rw [psK, dyK, hK]
        have hm0 : capF (kch K) (K.1 13) ≤ capF (kch K1) (K.1 13) := by rw [hK]; exact capF_mono (fun c => by have := psK_mono K 0 i c; rw [Nat.zero_add] at this; exact this) _
        have hm1 : capF (kch K1) (K.1 13) ≤ capF (kch (psK K (i + 1))) (K.1 13) := by rw [hK]; exact capF_mono (psK_mono K i 1) _
        have hm2 : capF (kch (psK K (i + 1))) (K.1 13) ≤ capF (kch (psK K dn)) (K.1 13) := by rw [show dn = (i + 1) + r by omega]; exact capF_mono (psK_mono _ _ _) _
        have hm3 : capF (kch (sN K1 1 (K1.1 1 + 1))) (K.1 13) = capF (kch K1) (K.1 13) := rfl
        have hb2 : (sN K1 1 (K1.1 1 + 1)).1 1 ≤ 30000 := by rw [sN_s]; omega
        have f13 : (sN K1 1 (K1.1 1 + 1)).1 13 = K.1 13 := e13
        refine ziload_n C dX7_pass_33 rfl ?_
        refine ziload_n C dX7_pass_34 rfl ?_
        refine zicmp_ge (tgt := 58) C dX7_pass_35 (by decide) (fun h35 => by first | exact absurd h35 (nI_ge (by omega) (by omega)) | exact absurd (nI_ge (by omega) (by omega)) h35) (fun h35 => ?_)
        refine zaload_n C dX7_pass_38 rfl ?_
        refine zdup C dX7_pass_39 rfl ?_
        refine zget C hf_X7_51 hp.main (by rfl) dX7_pass_40 ?_
        refine zconst (v := 1) C dX7_pass_43 (by decide) ?_
        refine ziadd C dX7_pass_44 ?_
        refine zcg ?_ rfl (congrArg (fun z => (.int z :: _ : List Value)) (nI_1 (K1.1 1)))
        refine zput (fs1 := [_, _, _, _, _, _, _, _, _, _]) C hf_X7_51 hp_X7 rfl hp.main rfl rfl (by exact Nat.le_of_ble_eq_true rfl) (by rfl) dX7_pass_45 ?_
        refine kstep (hp.mainN 1 (K1.1 1 + 1) (by decide)) rfl (fun M hp => ?_)
        refine zaload_n C dX7_pass_48 rfl ?_
        refine zcallV C (k_tfd (K := sN K1 1 (K1.1 1 + 1)) hp (by omega) hb2 q3 (q5 hpa) q4 hB) hy_X7_takeFaithsDue hv_X7_takeFaithsDue hl_X7_390 hp.main rfl rfl rfl rfl (by decide) (by decide) (by rw [show tfdK (sN K1 1 (K1.1 1 + 1)) ((sN K1 1 (K1.1 1 + 1)).1 13) = psK K (i + 1) from hnx.symm, f13]; rw [edn]; omega) (by rw [show tfdK (sN K1 1 (K1.1 1 + 1)) ((sN K1 1 (K1.1 1 + 1)).1 13) = psK K (i + 1) from hnx.symm, f13]; rw [edn]; omega) rfl (by exact Nat.le_of_ble_eq_true rfl) dX7_pass_49 (fun v49 M hpT => ?_)
        obtain ⟨ad2, hp, hst2⟩ := hpT
        rw [show tfdK (sN K1 1 (K1.1 1 + 1)) ((sN K1 1 (K1.1 1 + 1)).1 13) = psK K (i + 1) from hnx.symm, f13]
        rw [show tfdK (sN K1 1 (K1.1 1 + 1)) ((sN K1 1 (K1.1 1 + 1)).1 13) = psK K (i + 1) from hnx.symm] at hp
        rw [← hst2 (0, 0) (by decide) (by decide)]
        refine ziinc (L1 := [_, _, _]) (v := nI (i + 1)) C dX7_pass_52 rfl (nI_1 i) rfl ?_
        refine zgoto (tgt := 33) C dX7_pass_55 (by decide) ?_
        exact zcg (zwid (by omega) (by omega) (ih (i + 1) (by omega) _ M ad2 rfl hp (fun t a b => (hst2 t a b).trans (hst t a b)))) (by simp [zk1])
    exact zcg (zwid (by omega) (by omega) (loop dn 0 (by omega) K M ad rfl hp (fun _ _ _ => rfl))) (by simp [zk1, nI_0])
  · exact zthrowW C hE ht_X7_388_66 rfl (by decide) (by exact Nat.le_of_ble_eq_true rfl) (by omega) (by omega) dX7_pass_20 dX7_pass_23 dX7_pass_24 dX7_pass_27 dX7_pass_30 ⟨thr3 (by rw [x_pass, w5, decide_eq_false h17]; rfl), rfl⟩
