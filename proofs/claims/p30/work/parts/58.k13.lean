theorem ldrOf_lt {x : zPe} {p l : Nat} (h : (∀ q, x.2.1 = some q → q < p) ∧ ∀ q, x.2.2.1 = some q → q < p) (e : ldrOf x = some l) : l < p := by
  unfold ldrOf at e
  cases a : x.2.2.1 with
  | none => rw [a] at e; exact h.1 _ e
  | some q => rw [a] at e; cases e; exact h.2 _ a
set_option maxRecDepth 100000 in
set_option maxHeartbeats 1000000 in
theorem k_lead {g : zGh} {K : zK} {X : zg → Option va_E} {ad : zg → Nat} {M : zM} {p : Nat} (f : Int32) (hpn : p < K.1 13) (hp : zP g K X ad M) (h13 : K.1 13 ≤ 40) (hch : iCh K) (hck : ∀ q, p < q → q < K.1 13 → (kch K (100 + q)).2.1 ≤ 1000) (hpa : iPa K) : zCt g yX7_leadChildren cX7_leadChildren 7 none 4 104 mkV [.ref (ad (0, 0)), .ref (ad (10, p)), .int f] M (capF (kch (ldcK K p f)) (K.1 13) - capF (kch K) (K.1 13)) (4 * (capF (kch (ldcK K p f)) (K.1 13) - capF (kch K) (K.1 13))) (fun v M1 => ∃ ad1, zP g (ldcK K p f) X ad1 M1 ∧ ∀ t : zg, t.1 ≠ 4 → t.1 ≠ 5 → ad1 t = ad t) noX := by
  refine zof [some (.ref (ad (0, 0))), some (.ref (ad (10, p))), some (.int f), none, none, none, none] (by decide +kernel) rfl rfl (Nat.le_of_ble_eq_true rfl) ?_
  intro Z C hE hnm
  have C : zC g Z RX7 cX7_leadChildren 7 4 104 (capF (kch (ldcK K p f)) (K.1 13) - capF (kch K) (K.1 13)) (4 * (capF (kch (ldcK K p f)) (K.1 13) - capF (kch K) (K.1 13))) := C
  have hmF : ∀ i, (kch K i).1 ≤ (kch (ldcK K p f) i).1 := fun i => by have := (ledK_fr (ld2 K p) f (p + 1) (K.1 13 - (p + 1))).2.2.1 i; rw [(ld2_fr K p).2] at this; exact this
  have hF0 : capF (kch K) (K.1 13) ≤ capF (kch (ldcK K p f)) (K.1 13) := capF_mono hmF _
  have loop2 : ∀ (r j : Nat), p + 1 + j + r = K.1 13 → ∀ (K1 : zK) (M : zM) (ad1 : zg → Nat), K1 = ledK (ld2 K p) f (p + 1) j → zP g K1 X ad1 M → (∀ t : zg, t.1 ≠ 4 → t.1 ≠ 5 → ad1 t = ad t) → zG g Z M (capF (kch K1) (K.1 13) - capF (kch K) (K.1 13)) (4 * (capF (kch K1) (K.1 13) - capF (kch K) (K.1 13))) 46 [some (.ref (ad1 (0, 0))), none, some (.int f), some (.int (nI (p + 1 + j))), none, none, none] [] := by
    intro r
    induction r with
    | zero =>
      intro j hj K1 M ad1 hK hp hst
      obtain rfl : K1 = ldcK K p f := by rw [hK, ldcK, show K.1 13 - (p + 1) = j by omega]
      have e13 : (ldcK K p f).1 13 = K.1 13 := by rw [hK, (ledK_fr _ _ _ _).1.1, (ld2_fr K p).1.1]
      refine ziload_n C dX7_leadChildren_46 rfl ?_
      refine zaload_n C dX7_leadChildren_47 rfl ?_
      refine zget C hf_X7_35 hp.main (by rfl) dX7_leadChildren_48 ?_
      refine zcallV C (q_size (hp.lq1 (by omega))) hy_Jx4a65c_size_8abf5 hv_Jx4a65c_size_8abf5 hl_X7_58 (hp.lo1) rfl rfl rfl rfl (by decide) (by decide) (by omega) (by omega) rfl (by exact Nat.le_of_ble_eq_true rfl) dX7_leadChildren_51 (fun v51 M hp51 => ?_)
      obtain ⟨rfl, rfl⟩ := hp51
      refine zicmp_ge (tgt := 156) C dX7_leadChildren_54 (by decide) (fun h54 => ?_) (fun h54 => by first | exact absurd (nI_le (by omega) (by omega)) h54 | exact absurd h54 (nI_le (by omega) (by omega)))
      exact zend_v C hE dX7_leadChildren_156 (by omega) (by omega) ⟨ad1, hp, hst⟩
    | succ r ih =>
      intro j hj K1 M ad1 hK hp hst
      obtain ⟨q, hqe⟩ : ∃ q, q = p + 1 + j := ⟨_, rfl⟩
      rw [← hqe]
      have hfr := ledK_fr (ld2 K p) f (p + 1) j
      rw [← hK] at hfr
      have hsf : sfr K K1 := (ld2_fr K p).1.trans hfr.1
      have e1 := hsf.1
      have e13 : K1.1 13 = K.1 13 := by rw [e1]
      have hq1 : q < K1.1 13 := by omega
      have hpa1 : iPa K1 := hsf.iPa hpa
      have hcq : kch K1 (100 + q) = kch K (100 + q) := by rw [hfr.2.1 _ (fun x a b => by omega), (ld2_fr K p).2]
      have hch1 : iCh K1 := by rw [hK]; exact ledK_W _ _ _ (by unfold iCh; rw [(ld2_fr K p).2]; exact hch) _ (fun x a b => by rw [(ld2_fr K p).2]; exact hck x (by omega) (by omega))
      have hm0 : capF (kch K) (K.1 13) ≤ capF (kch K1) (K.1 13) := capF_mono (fun i => by have := hfr.2.2.1 i; rw [(ld2_fr K p).2] at this; exact this) _
      have hm1 : capF (kch K1) (K.1 13) ≤ capF (kch (ldcK K p f)) (K.1 13) := by rw [hK, ldcK, show K.1 13 - (p + 1) = j + (r + 1) by omega]; exact capF_mono (ledK_mono _ _ _ _ _) _
      have hmN : ∀ K3, K3 = ledK (ld2 K p) f (p + 1) (j + 1) → capF (kch K3) (K.1 13) ≤ capF (kch (ldcK K p f)) (K.1 13) := fun K3 e => by rw [e, ldcK, show K.1 13 - (p + 1) = j + 1 + r by omega]; exact capF_mono (ledK_mono _ _ _ _ r) _
      have hnx : ledK (ld2 K p) f (p + 1) (j + 1) = if folK K1 q f = true then folS K1 q f else K1 := by rw [ledK, ← hK, ← hqe]
      refine ziload_n C dX7_leadChildren_46 rfl ?_
      refine zaload_n C dX7_leadChildren_47 rfl ?_
      refine zget C hf_X7_35 hp.main (by rfl) dX7_leadChildren_48 ?_
      refine zcallV C (q_size (hp.lq1 (by omega))) hy_Jx4a65c_size_8abf5 hv_Jx4a65c_size_8abf5 hl_X7_58 (hp.lo1) rfl rfl rfl rfl (by decide) (by decide) (by omega) (by omega) rfl (by exact Nat.le_of_ble_eq_true rfl) dX7_leadChildren_51 (fun v51 M hp51 => ?_)
      obtain ⟨rfl, rfl⟩ := hp51
      refine zicmp_ge (tgt := 156) C dX7_leadChildren_54 (by decide) (fun h54 => by first | exact absurd h54 (nI_ge (by omega) (by omega)) | exact absurd (nI_ge (by omega) (by omega)) h54) (fun h54 => ?_)
      refine zaload_n C dX7_leadChildren_57 rfl ?_
      refine zget C hf_X7_35 hp.main (by rfl) dX7_leadChildren_58 ?_
      refine ziload_n C dX7_leadChildren_61 rfl ?_
      refine zcallV C (q_get q (hp.lq1 (by omega)) (show q < _ from hq1)) hy_Jx4a65c_get_915e3 hv_Jx4a65c_get_915e3 hl_X7_384 (hp.lo1) rfl rfl rfl rfl (by decide) (by decide) (by omega) (by omega) rfl (by exact Nat.le_of_ble_eq_true rfl) dX7_leadChildren_62 (fun v62 M hp62 => ?_)
      obtain ⟨rfl, rfl⟩ := hp62
      rw [if_pos (show q < _ from hq1)]
      refine zcastS C (hp.per (p := q) (show q < _ from hq1)) rfl hc_X7_128 dX7_leadChildren_65 ?_
      refine zastore (L1 := [_, _, _, _, _, _, _]) C dX7_leadChildren_68 rfl (Nat.le_of_ble_eq_true rfl) ?_
      refine zaload C dX7_leadChildren_70 rfl ?_
      refine zcallV C (k_leader hp (show q < K1.1 13 by omega)) hy_X4_leader hv_X4_leader hl_X7_436 (hp.per (p := q) (show q < _ from hq1)) rfl rfl rfl rfl (by decide) (by decide) (by omega) (by omega) rfl (by exact Nat.le_of_ble_eq_true rfl) dX7_leadChildren_72 (fun v72 M hp72 => ?_)
      obtain ⟨rfl, rfl⟩ := hp72
      cases el : ldrOf (kpe K1 q) with
      | none =>
        have hfo : folK K1 q f = false := by simp [folK, el, ledOf]
        refine zastoreN (L1 := [_, _, _, _, _, _, _]) C dX7_leadChildren_75 rfl (Nat.le_of_ble_eq_true rfl) ?_
        refine zaloadQ (r := none) C dX7_leadChildren_77 rfl ?_
        refine zifnullN (tgt := 123) C dX7_leadChildren_79 (by decide) ?_
        refine zconst (v := 0) C dX7_leadChildren_123 (by decide) ?_
        refine zistore (L1 := [_, _, _, _, _, _, _]) C dX7_leadChildren_124 rfl (Nat.le_of_ble_eq_true rfl) ?_
        refine ziload C dX7_leadChildren_126 rfl ?_
        refine zif_eq_t (tgt := 150) C dX7_leadChildren_128 (by decide) (by decide) ?_
        refine ziinc (L1 := [_, _, _, _, _, _, _]) (v := nI (q + 1)) C dX7_leadChildren_150 rfl (nI_1 q) rfl ?_
        refine zgoto (tgt := 46) C dX7_leadChildren_153 (by decide) ?_
        refine zfor [true, false, true, true, false, false, false] (L1 := [_, _, _, _, _, _, _]) rfl ?_
        exact zcg (ih (j + 1) (by omega) K1 M ad1 (by rw [hnx, if_neg (by rw [hfo]; decide)]) hp hst) (by simp [zk1, hqe, show p + 1 + (j + 1) = p + 1 + j + 1 from rfl])
      | some l =>
        have hl : l < K1.1 13 := by
          have h1 := hpa1 q (by omega)
          have h2 := ldrOf_lt h1 el
          omega
        refine zastore (L1 := [_, _, _, _, _, _, _]) C dX7_leadChildren_75 rfl (Nat.le_of_ble_eq_true rfl) ?_
        refine zaload C dX7_leadChildren_77 rfl ?_
        refine zifnull C dX7_leadChildren_79 ?_
        refine zaload C dX7_leadChildren_82 rfl ?_
        refine zget C hf_X7_433 (hp.per (p := l) hl) (by rfl) dX7_leadChildren_84 ?_
        refine zif_eq (tgt := 123) C dX7_leadChildren_87 (by decide) (fun h87 => ?_) (fun h87 => ?_)
        · replace h87 : (kpe K1 l).2.2.2.2.2.2.2.2 = 0 := h87
          have hfo : folK K1 q f = false := by simp [folK, el, ledOf, h87]
          refine zconst (v := 0) C dX7_leadChildren_123 (by decide) ?_
          refine zistore (L1 := [_, _, _, _, _, _, _]) C dX7_leadChildren_124 rfl (Nat.le_of_ble_eq_true rfl) ?_
          refine ziload C dX7_leadChildren_126 rfl ?_
          refine zif_eq_t (tgt := 150) C dX7_leadChildren_128 (by decide) (by decide) ?_
          refine ziinc (L1 := [_, _, _, _, _, _, _]) (v := nI (q + 1)) C dX7_leadChildren_150 rfl (nI_1 q) rfl ?_
          refine zgoto (tgt := 46) C dX7_leadChildren_153 (by decide) ?_
          refine zfor [true, false, true, true, false, false, false] (L1 := [_, _, _, _, _, _, _]) rfl ?_
          exact zcg (ih (j + 1) (by omega) K1 M ad1 (by rw [hnx, if_neg (by rw [hfo]; decide)]) hp hst) (by simp [zk1, hqe, show p + 1 + (j + 1) = p + 1 + j + 1 from rfl])
        · replace h87 : ¬ (kpe K1 l).2.2.2.2.2.2.2.2 = 0 := h87
          refine zaload C dX7_leadChildren_90 rfl ?_
          refine zget C hf_X7_251 (hp.per (p := q) (show q < _ from hq1)) (by rfl) dX7_leadChildren_92 ?_
          refine zif_eq (tgt := 123) C dX7_leadChildren_95 (by decide) (fun h95 => ?_) (fun h95 => ?_)
          · replace h95 : (kpe K1 q).2.2.2.2.1 = false := b2i_0.mp h95
            have hfo : folK K1 q f = false := by simp [folK, el, ledOf, h87, h95]
            refine zconst (v := 0) C dX7_leadChildren_123 (by decide) ?_
            refine zistore (L1 := [_, _, _, _, _, _, _]) C dX7_leadChildren_124 rfl (Nat.le_of_ble_eq_true rfl) ?_
            refine ziload C dX7_leadChildren_126 rfl ?_
            refine zif_eq_t (tgt := 150) C dX7_leadChildren_128 (by decide) (by decide) ?_
            refine ziinc (L1 := [_, _, _, _, _, _, _]) (v := nI (q + 1)) C dX7_leadChildren_150 rfl (nI_1 q) rfl ?_
            refine zgoto (tgt := 46) C dX7_leadChildren_153 (by decide) ?_
            refine zfor [true, false, true, true, false, false, false] (L1 := [_, _, _, _, _, _, _]) rfl ?_
            exact zcg (ih (j + 1) (by omega) K1 M ad1 (by rw [hnx, if_neg (by rw [hfo]; decide)]) hp hst) (by simp [zk1, hqe, show p + 1 + (j + 1) = p + 1 + j + 1 from rfl])
          · replace h95 : (kpe K1 q).2.2.2.2.1 = true := b2i_n0.mp h95
            refine zaload C dX7_leadChildren_98 rfl ?_
            refine zaload_n C dX7_leadChildren_100 rfl ?_
            refine zget C hf_X7_51 hp.main (by rfl) dX7_leadChildren_101 ?_
            refine zcallV C (p_isMinorOn _ (hp.per (p := q) (show q < _ from hq1))) hy_X4_isMinorOn hv_X4_isMinorOn hl_X7_440 (hp.per (p := q) (show q < _ from hq1)) rfl rfl rfl rfl (by decide) (by decide) (by omega) (by omega) rfl (by exact Nat.le_of_ble_eq_true rfl) dX7_leadChildren_104 (fun v104 M hp104 => ?_)
            obtain ⟨hv104, rfl⟩ := hp104
            replace hv104 : v104 = b2i (minK K1 q (nI (K1.1 1))) := hv104
            subst hv104
            refine zif_eq (tgt := 123) C dX7_leadChildren_107 (by decide) (fun h107 => ?_) (fun h107 => ?_)
            · replace h107 := b2i_0.mp h107
              have hfo : folK K1 q f = false := by simp [folK, el, ledOf, h87, h95, h107]
              refine zconst (v := 0) C dX7_leadChildren_123 (by decide) ?_
              refine zistore (L1 := [_, _, _, _, _, _, _]) C dX7_leadChildren_124 rfl (Nat.le_of_ble_eq_true rfl) ?_
              refine ziload C dX7_leadChildren_126 rfl ?_
              refine zif_eq_t (tgt := 150) C dX7_leadChildren_128 (by decide) (by decide) ?_
              refine ziinc (L1 := [_, _, _, _, _, _, _]) (v := nI (q + 1)) C dX7_leadChildren_150 rfl (nI_1 q) rfl ?_
              refine zgoto (tgt := 46) C dX7_leadChildren_153 (by decide) ?_
              refine zfor [true, false, true, true, false, false, false] (L1 := [_, _, _, _, _, _, _]) rfl ?_
              exact zcg (ih (j + 1) (by omega) K1 M ad1 (by rw [hnx, if_neg (by rw [hfo]; decide)]) hp hst) (by simp [zk1, hqe, show p + 1 + (j + 1) = p + 1 + j + 1 from rfl])
            · replace h107 := b2i_n0.mp h107
              refine zaload C dX7_leadChildren_110 rfl ?_
              refine zcallV C (k_faithNow hp (show q < K1.1 13 by omega) hch1) hy_X4_faithNow hv_X4_faithNow hl_X7_172 (hp.per (p := q) (show q < _ from hq1)) rfl rfl rfl rfl (by decide) (by decide) (by omega) (by omega) rfl (by exact Nat.le_of_ble_eq_true rfl) dX7_leadChildren_112 (fun v112 M hp112 => ?_)
              obtain ⟨rfl, rfl⟩ := hp112
              refine ziload_n C dX7_leadChildren_115 rfl ?_
              refine zicmp_eq (tgt := 123) C dX7_leadChildren_116 (by decide) (fun h116 => ?_) (fun h116 => ?_)
              · replace h116 : newK K1 q = f := h116
                have hfo : folK K1 q f = false := by simp [folK, el, ledOf, h87, h95, h107, h116]
                refine zconst (v := 0) C dX7_leadChildren_123 (by decide) ?_
                refine zistore (L1 := [_, _, _, _, _, _, _]) C dX7_leadChildren_124 rfl (Nat.le_of_ble_eq_true rfl) ?_
                refine ziload C dX7_leadChildren_126 rfl ?_
                refine zif_eq_t (tgt := 150) C dX7_leadChildren_128 (by decide) (by decide) ?_
                refine ziinc (L1 := [_, _, _, _, _, _, _]) (v := nI (q + 1)) C dX7_leadChildren_150 rfl (nI_1 q) rfl ?_
                refine zgoto (tgt := 46) C dX7_leadChildren_153 (by decide) ?_
                refine zfor [true, false, true, true, false, false, false] (L1 := [_, _, _, _, _, _, _]) rfl ?_
                exact zcg (ih (j + 1) (by omega) K1 M ad1 (by rw [hnx, if_neg (by rw [hfo]; decide)]) hp hst) (by simp [zk1, hqe, show p + 1 + (j + 1) = p + 1 + j + 1 from rfl])
              · replace h116 : ¬ newK K1 q = f := h116
                have hfo : folK K1 q f = true := by simp [folK, el, ledOf, h87, h95, h107, h116]
                have hW := hch1 (100 + q)
                have hg := tg_cap hW (nI (K1.1 1)) f
                have hU := capF_up (f := kch K1) (p := q) (c := tellS (kch K1 (100 + q)) (nI (K1.1 1)) f) (K.1 13) (by omega)
                have hU2 : capF (kch (folS K1 q f)) (K.1 13) = capF (va_up (kch K1) (100 + q) (tellS (kch K1 (100 + q)) (nI (K1.1 1)) f)) (K.1 13) := rfl
                have hmX := hmN (folS K1 q f) (by rw [hnx, if_pos hfo])
                refine zconst (v := 1) C dX7_leadChildren_119 (by decide) ?_
                refine zgoto (tgt := 124) C dX7_leadChildren_120 (by decide) ?_
                refine zistore (L1 := [_, _, _, _, _, _, _]) C dX7_leadChildren_124 rfl (Nat.le_of_ble_eq_true rfl) ?_
                refine ziload C dX7_leadChildren_126 rfl ?_
                refine zif_eq_f (tgt := 150) C dX7_leadChildren_128 (by decide) (by decide) ?_
                refine zaload C dX7_leadChildren_131 rfl ?_
                refine zget C hf_X7_198 (hp.per (p := q) (show q < _ from hq1)) (by rfl) dX7_leadChildren_133 ?_
                refine zaload_n C dX7_leadChildren_136 rfl ?_
                refine zget C hf_X7_51 hp.main (by rfl) dX7_leadChildren_137 ?_
                refine ziload_n C dX7_leadChildren_140 rfl ?_
                refine zcallV C (k_tell hp (chA_per (show q < K1.1 13 by omega)) (hch1 _) (by rw [hcq]; exact hck q (by omega) (by omega)) (nI (K1.1 1)) f) hy_X0_tell hv_X0_tell hl_X7_91 (hp.chr (i := 100 + q) (chA_per (show q < _ from hq1)) (hch1 _)).1 rfl rfl rfl rfl (by decide) (by decide) (by omega) (by omega) rfl (by exact Nat.le_of_ble_eq_true rfl) dX7_leadChildren_141 (fun v141 M hpT => ?_)
                obtain ⟨ad2, hp, hst2⟩ := hpT
                rw [← hst2 (0, 0) (by decide) (by decide), ← hst2 (10, q) (by simp) (by simp)]
                refine zaload C dX7_leadChildren_144 rfl ?_
                refine zconst (v := 1) C dX7_leadChildren_146 (by decide) ?_
                refine zput (fs1 := [_, _, _, _, _, _, _, _, _, _, _]) C hf_X7_433 hp_X4 rfl (hp.per (p := q) (show q < _ from hq1)) rfl rfl (by exact Nat.le_of_ble_eq_true rfl) (by rfl) dX7_leadChildren_147 ?_
                refine kstep (hp.perV (p := q) (show q < _ from hq1) peLea 1) rfl (fun M hp => ?_)
                replace hp : zP g (folS K1 q f) X ad2 M := hp
                refine ziinc (L1 := [_, _, _, _, _, _, _]) (v := nI (q + 1)) C dX7_leadChildren_150 rfl (nI_1 q) rfl ?_
                refine zgoto (tgt := 46) C dX7_leadChildren_153 (by decide) ?_
                refine zfor [true, false, true, true, false, false, false] (L1 := [_, _, _, _, _, _, _]) rfl ?_
                exact zcg (zwid (by omega) (by omega) (ih (j + 1) (by omega) _ M ad2 (by rw [hnx, if_pos hfo]) hp (fun t a b => (hst2 t a b).trans (hst t a b)))) (by simp [zk1, hqe, show p + 1 + (j + 1) = p + 1 + j + 1 from rfl])
  have loop1 : ∀ (r i : Nat), i + r = K.1 13 → ∀ (K1 : zK) (M : zM), K1 = clrK K i → zP g K1 X ad M → zG g Z M 0 0 2 [some (.ref (ad (0, 0))), some (.ref (ad (10, p))), some (.int f), some (.int (nI i)), none, none, none] [] := by
    intro r
    induction r with
    | zero =>
      intro i hi K1 M hK hp
      obtain rfl : i = K.1 13 := by omega
      have e13 : K1.1 13 = K.1 13 := by rw [hK, (clrK_fr K _).1.1]
      have hpn1 : p < K1.1 13 := by omega
      refine ziload_n C dX7_leadChildren_2 rfl ?_
      refine zaload_n C dX7_leadChildren_3 rfl ?_
      refine zget C hf_X7_35 hp.main (by rfl) dX7_leadChildren_4 ?_
      refine zcallV C (q_size (hp.lq1 (by omega))) hy_Jx4a65c_size_8abf5 hv_Jx4a65c_size_8abf5 hl_X7_58 (hp.lo1) rfl rfl rfl rfl (by decide) (by decide) (by omega) (by omega) rfl (by exact Nat.le_of_ble_eq_true rfl) dX7_leadChildren_7 (fun v7 M hp7 => ?_)
      obtain ⟨rfl, rfl⟩ := hp7
      refine zicmp_ge (tgt := 34) C dX7_leadChildren_10 (by decide) (fun h10 => ?_) (fun h10 => by first | exact absurd (nI_le (by omega) (by omega)) h10 | exact absurd h10 (nI_le (by omega) (by omega)))
      refine zaload_n C dX7_leadChildren_34 rfl ?_
      refine zconst (v := 1) C dX7_leadChildren_35 (by decide) ?_
      refine zput (fs1 := [_, _, _, _, _, _, _, _, _, _, _]) C hf_X7_433 hp_X4 rfl (hp.per (p := p) hpn1) rfl rfl (by exact Nat.le_of_ble_eq_true rfl) (by rfl) dX7_leadChildren_36 ?_
      refine kstep (hp.perV (p := p) hpn1 peLea 1) rfl (fun M hp => ?_)
      have eK : spe K1 p (peLea (kpe K1 p) 1) = ld2 K p := by rw [hK]; rfl
      rw [eK] at hp
      have hpn1 : p < (ld2 K p).1 13 := by rw [(ld2_fr K p).1.1]; exact hpn
      refine zaload_n C dX7_leadChildren_39 rfl ?_
      refine zget C hf_X7_379 (hp.per (p := p) hpn1) (by rfl) dX7_leadChildren_40 ?_
      refine zconst (v := 1) C dX7_leadChildren_43 (by decide) ?_
      refine ziadd C dX7_leadChildren_44 ?_
      rw [nI_1]
      refine zistore_n (L1 := [_, _, _, _, _, _, _]) C dX7_leadChildren_45 rfl (Nat.le_of_ble_eq_true rfl) ?_
      refine zfor [true, false, true, true, false, false, false] (L1 := [_, _, _, _, _, _, _]) rfl ?_
      exact zcg (zwid (by rw [(ld2_fr K p).2]; omega) (by rw [(ld2_fr K p).2]; omega) (loop2 (K.1 13 - (p + 1)) 0 (by omega) (ld2 K p) M ad rfl hp (fun _ _ _ => rfl))) (by simp [zk1])
    | succ r ih =>
      intro i hi K1 M hK hp
      have e13 : K1.1 13 = K.1 13 := by rw [hK, (clrK_fr K _).1.1]
      refine ziload_n C dX7_leadChildren_2 rfl ?_
      refine zaload_n C dX7_leadChildren_3 rfl ?_
      refine zget C hf_X7_35 hp.main (by rfl) dX7_leadChildren_4 ?_
      refine zcallV C (q_size (hp.lq1 (by omega))) hy_Jx4a65c_size_8abf5 hv_Jx4a65c_size_8abf5 hl_X7_58 (hp.lo1) rfl rfl rfl rfl (by decide) (by decide) (by omega) (by omega) rfl (by exact Nat.le_of_ble_eq_true rfl) dX7_leadChildren_7 (fun v7 M hp7 => ?_)
      obtain ⟨rfl, rfl⟩ := hp7
      refine zicmp_ge (tgt := 34) C dX7_leadChildren_10 (by decide) (fun h10 => by first | exact absurd h10 (nI_ge (by omega) (by omega)) | exact absurd (nI_ge (by omega) (by omega)) h10) (fun h10 => ?_)
      refine zaload_n C dX7_leadChildren_13 rfl ?_
      refine zget C hf_X7_35 hp.main (by rfl) dX7_leadChildren_14 ?_
      refine ziload_n C dX7_leadChildren_17 rfl ?_
      refine zcallV C (q_get i (hp.lq1 (by omega)) (show i < _ from (by omega))) hy_Jx4a65c_get_915e3 hv_Jx4a65c_get_915e3 hl_X7_384 (hp.lo1) rfl rfl rfl rfl (by decide) (by decide) (by omega) (by omega) rfl (by exact Nat.le_of_ble_eq_true rfl) dX7_leadChildren_18 (fun v18 M hp18 => ?_)
      obtain ⟨rfl, rfl⟩ := hp18
      rw [if_pos (show i < _ from (by omega))]
      refine zcastS C (hp.per (p := i) (show i < _ from (by omega))) rfl hc_X7_128 dX7_leadChildren_21 ?_
      refine zconst (v := 0) C dX7_leadChildren_24 (by decide) ?_
      refine zput (fs1 := [_, _, _, _, _, _, _, _, _, _, _]) C hf_X7_433 hp_X4 rfl (hp.per (p := i) (show i < _ from (by omega))) rfl rfl (by exact Nat.le_of_ble_eq_true rfl) (by rfl) dX7_leadChildren_25 ?_
      refine kstep (hp.perV (p := i) (show i < _ from (by omega)) peLea 0) rfl (fun M hp => ?_)
      refine ziinc (L1 := [_, _, _, _, _, _, _]) (v := nI (i + 1)) C dX7_leadChildren_28 rfl (nI_1 i) rfl ?_
      refine zgoto (tgt := 2) C dX7_leadChildren_31 (by decide) ?_
      exact zcg (ih (i + 1) (by omega) _ M (by rw [hK]; rfl) hp) (by simp [zk1])
  refine zconst (v := 0) C dX7_leadChildren_0 (by decide) ?_
  refine zistore_n (L1 := [_, _, _, _, _, _, _]) C dX7_leadChildren_1 rfl (Nat.le_of_ble_eq_true rfl) ?_
  exact zcg (loop1 (K.1 13) 0 (by omega) K M rfl hp) (by simp [zk1, nI_0])
