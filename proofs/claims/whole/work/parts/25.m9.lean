/-- the places that a death may change among the rows of ints -/
def dfx (j : Nat) : Bool := [18, 22, 23, 28, 29, 47].contains j
def dF (S A : zS) : Prop := A.1 = (th S 0).1 ∧ A.2.1 = S.2.1 ∧ ∀ j, dfx j = false → A.2.2.1 j = S.2.2.1 j
theorem dF_A {S A : zS} {j : Nat} {f : Nat → Int32} (h : dF S A) (hj : dfx j = true) : dF S (zsA A j f) := by
  refine ⟨h.1, h.2.1, fun i hi => ?_⟩
  rw [zsA_n _ _ _ (by rintro rfl; rw [hj] at hi; exact absurd hi (by decide))]
  exact h.2.2 i hi
theorem dF_L {S A : zS} {j : Nat} {f : Nat → Int64} (h : dF S A) : dF S (zsL A j f) := ⟨h.1, h.2.1, h.2.2⟩
theorem dF_0 {S : zS} {p : Nat} : dF S (dieS0 S p) := dF_A (dF_A (dF_A (⟨rfl, rfl, fun _ _ => rfl⟩ : dF S (th S 0)) rfl) rfl) rfl
theorem dF_p {S A : zS} {m h w : Nat} (hA : dF S A) : dF S (paysS A m h w) := dF_A (dF_L (dF_L hA)) rfl
theorem dF_K {S A : zS} {p k : Nat} (h : dF S A) : dF S (dieK A p k) := by
  unfold dieK
  refine dF_A ?_ rfl
  unfold dieK1
  split
  · exact dF_p (dF_A h rfl)
  · exact dF_A h rfl
theorem dF_D {S A : zS} {p : Nat} (h : dF S A) : ∀ k, dF S (dieL A p k)
  | 0 => h
  | k + 1 => by
    unfold dieL
    split
    · exact dF_K (dF_D h k)
    · exact dF_D h k
theorem dF_T {S A : zS} {p : Nat} (h : dF S A) (ht : iT S p) : iT A p := by
  obtain ⟨t, h1, h2⟩ := ht
  exact ⟨t, h1, by rw [h.2.2 20 rfl]; exact h2⟩
theorem dF_4 {S : zS} {p : Nat} (h : dF S (dieS2 S p)) : dF S (dieS4 S p) := by
  unfold dieS4
  split
  · exact dF_L (dF_L h)
  · exact dF_L h
theorem dF_6 {S : zS} {p : Nat} (h : dF S (dieS5 S p)) : dF S (dieS6 S p) := by
  unfold dieS6
  split
  · exact dF_A h rfl
  · exact h
theorem lawOf_dF {S A : zS} (h : dF S A) (c w d : Int32) : lawOf A c w d = lawOf S c w d := by
  unfold lawOf
  rw [h.2.2 5 rfl, h.2.2 6 rfl, h.2.2 7 rfl, h.2.2 8 rfl, h.1]
  rfl
theorem oneL_at (low : Int32) (r : Nat → Int32) : ∀ n k, oneL low r n k = if k < n then b2i (decide (nI k = low)) else r k
  | 0, k => by simp [oneL]
  | n + 1, k => by
    unfold oneL upd
    by_cases e : k = n
    · subst e
      simp
    · rw [if_neg e, oneL_at low r n k]
      by_cases h : k < n
      · rw [if_pos h, if_pos (by omega)]
      · rw [if_neg h, if_neg (by omega)]
theorem dies_units {S : zS} {p man : Nat} (hm : 1 ≤ man) (hc : (dieS5 S p).1 13 = S.1 13) (h : ¬ lowest (dieS5 S p) = -1) : 0 < units (dieS6 S p) man := by
  obtain ⟨j, hj, h1, h2⟩ := lowL_some _ (Nat.le_refl _) h
  unfold dieS6
  split
  · refine unitsL_pos hm ((dieS5 S p).1 13) j hj ?_
    rw [zsA_s, oneL_at, if_pos (by omega), show lowest (dieS5 S p) = nI j from h2]
    simp [b2i]
  · exact unitsL_pos hm _ j hj h1
theorem ule0 {n : Nat} (hn : n < 2 ^ 31) (h : 0 < n) : ¬ nI n ≤ 0 := by
  rw [show (0 : Int32) = nI 0 from rfl, nI_leI hn (by decide)]
  omega
theorem ule0n {n : Nat} (h : ¬ 0 < n) : nI n ≤ 0 := by
  obtain rfl : n = 0 := by omega
  decide
set_option maxRecDepth 100000 in
set_option maxHeartbeats 1000000 in
theorem m_dies {g : zGh} {M0 : zM} {mo : Nat} {ad : Nat → Nat} {S : zS} (p : Int32) (hi : iB S) (hP : iPs S) (hM : ∀ m, m < S.1 25 → iM S m) : zMc g M0 mo ad yX8_dies cX8_dies 10 (some .long) 3 71 mkL [.int p] S (fun v S1 => (S1, v) = o_dies S p) := by
  intro M hR
  refine zof [some (.ref mo), some (.int p), none, none, none, none, none, none, none, none] (by decide +kernel) rfl rfl (Nat.le_of_ble_eq_true rfl) ?_
  intro X C hE hnm
  have C : zC g X RX8 cX8_dies 10 3 71 0 0 := C
  obtain ⟨hb1, hb2, hb4, hb9, hb13, hb25, hb33⟩ := id hi
  refine zaload_n C dX8_dies_0 rfl ?_
  refine ziload_n C dX8_dies_1 rfl ?_
  refine zcallV C (m_isPerson p (by omega) M hR) hy_X8_isPerson hv_X8_isPerson hl_X8_191 hR.1 rfl rfl rfl rfl (by decide) (by decide) (by omega) (by omega) rfl (by exact Nat.le_of_ble_eq_true rfl) dX8_dies_2 (fun v2 M hp2 => ?_)
  obtain ⟨S1, ⟨rfl, hs⟩, hR⟩ := hp2
  rw [hs] at hR
  clear hs
  refine zistore_n (L1 := [_, _, _, _, _, _, _, _, _, _]) C dX8_dies_5 rfl (Nat.le_of_ble_eq_true rfl) ?_
  refine zaload_n C dX8_dies_6 rfl ?_
  refine ziload_n C dX8_dies_7 rfl ?_
  refine zif_ne (tgt := 15) C dX8_dies_8 (by decide) (fun h8 => ?_) (fun h8 => ?_)
  · replace h8 := b2i_n0.mp h8
    obtain ⟨pn, hpn, rfl⟩ := zix_of h8 (by omega)
    have epn := nI_clamp (show pn < 2 ^ 31 by omega)
    refine zaload_n C dX8_dies_15 rfl ?_
    refine zmga C hR hf_X8_47 rfl dX8_dies_16 ?_
    refine ziload_n C dX8_dies_19 rfl ?_
    refine zmza C hR rfl rfl rfl (show _ < 40 from by omega) dX8_dies_20 ?_
    refine zif_eq (tgt := 28) C dX8_dies_21 (by decide) (fun h21 => ?_) (fun h21 => ?_)
    · replace h21 : S.2.2.1 18 pn = 0 := h21
      refine zconst (v := 0) C dX8_dies_28 (by decide) ?_
      refine zcallV C (m_holds 0 (by decide) M hR) hy_X8_holds hv_X8_holds hl_X8_157 hR.1 rfl rfl rfl rfl (by decide) (by decide) (by omega) (by omega) rfl (by exact Nat.le_of_ble_eq_true rfl) dX8_dies_29 (fun v29 M hp29 => ?_)
      obtain ⟨S1, ⟨rfl, hs⟩, hR⟩ := hp29
      rw [hs] at hR
      clear hs
      refine zif_ne_t (tgt := 37) C dX8_dies_32 (by decide) (by decide) ?_
      have f0 : dF S (dieS0 S pn) := dF_0
      have f2 : dF S (dieS2 S pn) := dF_D (dF_A f0 rfl) _
      have f4 : dF S (dieS4 S pn) := dF_4 f2
      have f5 : dF S (dieS5 S pn) := dF_A f4 rfl
      have f6 : dF S (dieS6 S pn) := dF_6 f5
      have hod : o_dies S (nI pn) = if lowest (dieS5 S pn) = -1 then (zsC (dieS5 S pn) (S.2.1 + dieR S pn), dieR S pn) else (givesS (dieS6 S pn) (dieR S pn) (if dieSh S pn = 1 then 2 else 1), 0) := by unfold o_dies; rw [h8]; simp only [epn]; rw [h21]; simp
      have L372 : ∀ M, zR g M0 mo ad (dieS6 S pn) M → ¬ lowest (dieS5 S pn) = -1 → zG g X M 0 0 372 [some (.ref mo), some (.int (nI pn)), none, some (.int (dieC S pn)), some (.int (b2i (dieB S pn))), some (.int (dieSh S pn)), some (.long (dieR S pn)), none, none, none] [] := by
        intro M hR hlow
        have hu : 0 < units (dieS6 S pn) (if dieSh S pn = 1 then 2 else 1) := dies_units (by split <;> omega) (congrFun f5.1 13) hlow
        refine zaload_n C dX8_dies_372 rfl ?_
        refine zlload C dX8_dies_373 rfl ?_
        refine zjn 386 (fun x => x = nI (if dieSh S pn = 1 then 2 else 1)) (fun J375_1 => ?_) (fun x375 hx375 => ?_)
        · refine ziload C dX8_dies_375 rfl ?_
          refine zconst (v := 1) C dX8_dies_377 (by decide) ?_
          refine zicmp_ne (tgt := 385) C dX8_dies_378 (by decide) (fun h378 => ?_) (fun h378 => ?_)
          · refine zconst (v := 1) C dX8_dies_385 (by decide) ?_
            exact J375_1 _ (by simp [h378]; rfl)
          · refine zconst (v := 2) C dX8_dies_381 (by decide) ?_
            refine zgoto (tgt := 386) C dX8_dies_382 (by decide) ?_
            exact J375_1 _ (by simp [h378]; rfl)
        · subst hx375
          refine zcallV C (m_gives (S := dieS6 S pn) (dieR S pn) (if dieSh S pn = 1 then 2 else 1) (by show (dieS6 S pn).1 13 ≤ 40; rw [f6.1]; exact hb13) (by split <;> omega) hu M hR) hy_X8_gives hv_X8_gives hl_X8_244 hR.1 rfl rfl rfl rfl (by decide) (by decide) (by omega) (by omega) rfl (by exact Nat.le_of_ble_eq_true rfl) dX8_dies_386 (fun v386 M hp386 => ?_)
          obtain ⟨S1, hs, hR⟩ := hp386
          rw [hs] at hR
          clear hs
          refine zlconst (v := 0) C dX8_dies_389 rfl ?_
          exact zend_l C hE dX8_dies_390 (by omega) (by omega) ⟨_, by rw [hod, if_neg hlow], hR⟩
      have loop332w : dieSh S pn = 2 → ¬ lowest (dieS5 S pn) = -1 → ∀ (r i : Nat), i + r = S.1 13 → ∀ M, zR g M0 mo ad (zsA (dieS5 S pn) 47 (oneL (lowest (dieS5 S pn)) ((dieS5 S pn).2.2.1 47) i)) M → zG g X M 0 0 332 [some (.ref mo), some (.int (nI pn)), none, some (.int (dieC S pn)), some (.int (b2i (dieB S pn))), some (.int (dieSh S pn)), some (.long (dieR S pn)), none, some (.int (lowest (dieS5 S pn))), some (.int (nI i))] [] := by
        intro hsh hlow
        have loop332 : ∀ (r i : Nat), i + r = S.1 13 → ∀ M, zR g M0 mo ad (zsA (dieS5 S pn) 47 (oneL (lowest (dieS5 S pn)) ((dieS5 S pn).2.2.1 47) i)) M → zG g X M 0 0 332 [some (.ref mo), some (.int (nI pn)), none, some (.int (dieC S pn)), some (.int (b2i (dieB S pn))), some (.int (dieSh S pn)), some (.long (dieR S pn)), none, some (.int (lowest (dieS5 S pn))), some (.int (nI i))] [] := by
          intro r
          induction r with
          | zero =>
            intro i hi M hR
            refine ziload C dX8_dies_332 rfl ?_
            refine zaload_n C dX8_dies_334 rfl ?_
            refine zmgi C hR hf_X8_145 rfl dX8_dies_335 ?_
            rw [show (zsA (dieS5 S pn) 47 (oneL (lowest (dieS5 S pn)) ((dieS5 S pn).2.2.1 47) i)).1 13 = S.1 13 from congrFun f5.1 13]
            refine zicmp_ge (tgt := 372) C dX8_dies_338 (by decide) (fun h338 => ?_) (fun h338 => by first | exact absurd (nI_le (by omega) (by omega)) h338 | exact absurd h338 (nI_le (by omega) (by omega)))
            refine zfor [true, true, false, true, true, true, true, false, false, false] (L1 := [_, _, _, _, _, _, _, _, _, _]) rfl ?_
            exact L372 M (hR.eqv (by rw [dieS6, if_pos hsh, show S.1 13 = i by omega])) hlow
          | succ r ih =>
            intro i hi M hR
            have hi2 : i < S.1 13 := by omega
            refine ziload C dX8_dies_332 rfl ?_
            refine zaload_n C dX8_dies_334 rfl ?_
            refine zmgi C hR hf_X8_145 rfl dX8_dies_335 ?_
            rw [show (zsA (dieS5 S pn) 47 (oneL (lowest (dieS5 S pn)) ((dieS5 S pn).2.2.1 47) i)).1 13 = S.1 13 from congrFun f5.1 13]
            refine zicmp_ge (tgt := 372) C dX8_dies_338 (by decide) (fun h338 => by first | exact absurd h338 (nI_ge (by omega) (by omega)) | exact absurd (nI_ge (by omega) (by omega)) h338) (fun h338 => ?_)
            refine ziload C dX8_dies_341 rfl ?_
            refine zconst (v := 2) C dX8_dies_343 (by decide) ?_
            refine zicmp_ne (tgt := 372) C dX8_dies_344 (by decide) (fun h344 => by first | exact absurd h344 hsh | exact absurd hsh h344) (fun h344 => ?_)
            refine zaload_n C dX8_dies_347 rfl ?_
            refine zmga C hR hf_X8_127 rfl dX8_dies_348 ?_
            refine ziload C dX8_dies_351 rfl ?_
            refine zjn 365 (fun x => x = b2i (decide (nI i = lowest (dieS5 S pn)))) (fun J353_1 => ?_) (fun x353 hx353 => ?_)
            · refine ziload C dX8_dies_353 rfl ?_
              refine ziload C dX8_dies_355 rfl ?_
              refine zicmp_ne (tgt := 364) C dX8_dies_357 (by decide) (fun h357 => ?_) (fun h357 => ?_)
              · refine zconst (v := 0) C dX8_dies_364 (by decide) ?_
                exact J353_1 _ (by simp [b2i, h357])
              · refine zconst (v := 1) C dX8_dies_360 (by decide) ?_
                refine zgoto (tgt := 365) C dX8_dies_361 (by decide) ?_
                exact J353_1 _ (by simp [b2i, h357])
            · subst hx353
              refine zmzs C hR rfl rfl rfl (show _ < 40 from by omega) (b2i_b _) dX8_dies_365 (fun M hR => ?_)
              refine ziinc (L1 := [_, _, _, _, _, _, _, _, _, _]) (v := nI (i + 1)) C dX8_dies_366 rfl (nI_1 i) rfl ?_
              refine zgoto (tgt := 332) C dX8_dies_369 (by decide) ?_
              exact ih (i + 1) (by omega) M (hR.eqv (by simp [oneL, zsA_A, zsA_g]))
        exact loop332
      have E332 : ∀ M, zR g M0 mo ad (dieS5 S pn) M → ¬ dieSh S pn = 2 → ¬ lowest (dieS5 S pn) = -1 → zG g X M 0 0 332 [some (.ref mo), some (.int (nI pn)), none, some (.int (dieC S pn)), some (.int (b2i (dieB S pn))), some (.int (dieSh S pn)), some (.long (dieR S pn)), none, some (.int (lowest (dieS5 S pn))), some (.int (nI 0))] [] := by
        intro M hR hsh hlow
        refine ziload C dX8_dies_332 rfl ?_
        refine zaload_n C dX8_dies_334 rfl ?_
        refine zmgi C hR hf_X8_145 rfl dX8_dies_335 ?_
        rw [show (dieS5 S pn).1 13 = S.1 13 from congrFun f5.1 13]
        refine zicmp_ge (tgt := 372) C dX8_dies_338 (by decide) (fun h338 => by first | exact absurd h338 (nI_ge (by omega) (by omega)) | exact absurd (nI_ge (by omega) (by omega)) h338) (fun h338 => ?_)
        refine ziload C dX8_dies_341 rfl ?_
        refine zconst (v := 2) C dX8_dies_343 (by decide) ?_
        refine zicmp_ne (tgt := 372) C dX8_dies_344 (by decide) (fun h344 => ?_) (fun h344 => by first | exact absurd hsh h344 | exact absurd h344 hsh)
        refine zfor [true, true, false, true, true, true, true, false, false, false] (L1 := [_, _, _, _, _, _, _, _, _, _]) rfl ?_
        exact L372 M (hR.eqv (by rw [dieS6, if_neg hsh])) hlow
      have L303 : ∀ M, zR g M0 mo ad (dieS5 S pn) M → zG g X M 0 0 303 [some (.ref mo), some (.int (nI pn)), none, some (.int (dieC S pn)), some (.int (b2i (dieB S pn))), some (.int (dieSh S pn)), some (.long (dieR S pn)), none, none, none] [] := by
        intro M hR
        refine zaload_n C dX8_dies_303 rfl ?_
        refine zcallV C (m_lowestThatGets (S := dieS5 S pn) (by rw [f5.1]; exact hb13) M hR) hy_X8_lowestThatGets hv_X8_lowestThatGets hl_X8_251 hR.1 rfl rfl rfl rfl (by decide) (by decide) (by omega) (by omega) rfl (by exact Nat.le_of_ble_eq_true rfl) dX8_dies_304 (fun v304 M hp304 => ?_)
        obtain ⟨S1, ⟨rfl, hs⟩, hR⟩ := hp304
        rw [hs] at hR
        clear hs
        refine zistore (L1 := [_, _, _, _, _, _, _, _, _, _]) C dX8_dies_307 rfl (Nat.le_of_ble_eq_true rfl) ?_
        refine ziload C dX8_dies_309 rfl ?_
        refine zconst (v := -1) C dX8_dies_311 (by decide) ?_
        refine zicmp_ne (tgt := 329) C dX8_dies_312 (by decide) (fun h312 => ?_) (fun h312 => ?_)
        · refine zconst (v := 0) C dX8_dies_329 (by decide) ?_
          refine zistore (L1 := [_, _, _, _, _, _, _, _, _, _]) C dX8_dies_330 rfl (Nat.le_of_ble_eq_true rfl) ?_
          by_cases hsh : dieSh S pn = 2
          · exact zcg (loop332w hsh h312 (S.1 13) 0 (by omega) M (hR.eqv (by rw [oneL, zsA_id]))) (by simp [zk1, nI_0])
          · exact zcg (E332 M hR hsh h312) (by simp [zk1, nI_0])
        · refine zaload_n C dX8_dies_315 rfl ?_
          refine zdup C dX8_dies_316 rfl ?_
          refine zmgl C hR hf_X8_255 rfl dX8_dies_317 ?_
          refine zlload C dX8_dies_320 rfl ?_
          refine zladd C dX8_dies_322 ?_
          refine zmpl C hR hf_X8_255 dX8_dies_323 (fun M hR => ?_)
          refine zlload C dX8_dies_326 rfl ?_
          exact zend_l C hE dX8_dies_328 (by omega) (by omega) ⟨_, by rw [hod, if_pos h312, f5.2.1], hR⟩
      have loop244 : ∀ (r i : Nat), i + r = S.1 13 → ∀ M, zR g M0 mo ad (zsA (dieS4 S pn) 47 (heirL (dieS4 S pn) pn (dieB S pn) ((dieS4 S pn).2.2.1 47) i)) M → zG g X M 0 0 244 [some (.ref mo), some (.int (nI pn)), none, some (.int (dieC S pn)), some (.int (b2i (dieB S pn))), some (.int (dieSh S pn)), some (.long (dieR S pn)), none, some (.int (nI i)), none] [] := by
        intro r
        induction r with
        | zero =>
          intro i hi M hR
          refine ziload C dX8_dies_244 rfl ?_
          refine zaload_n C dX8_dies_246 rfl ?_
          refine zmgi C hR hf_X8_145 rfl dX8_dies_247 ?_
          rw [show (zsA (dieS4 S pn) 47 (heirL (dieS4 S pn) pn (dieB S pn) ((dieS4 S pn).2.2.1 47) i)).1 13 = S.1 13 from congrFun f4.1 13]
          refine zicmp_ge (tgt := 303) C dX8_dies_250 (by decide) (fun h250 => ?_) (fun h250 => by first | exact absurd (nI_le (by omega) (by omega)) h250 | exact absurd h250 (nI_le (by omega) (by omega)))
          refine zfor [true, true, false, true, true, true, true, false, false, false] (L1 := [_, _, _, _, _, _, _, _, _, _]) rfl ?_
          exact L303 M (hR.eqv (by rw [dieS5, show S.1 13 = i by omega]))
        | succ r ih =>
          intro i hi M hR
          have hi2 : i < S.1 13 := by omega
          refine ziload C dX8_dies_244 rfl ?_
          refine zaload_n C dX8_dies_246 rfl ?_
          refine zmgi C hR hf_X8_145 rfl dX8_dies_247 ?_
          rw [show (zsA (dieS4 S pn) 47 (heirL (dieS4 S pn) pn (dieB S pn) ((dieS4 S pn).2.2.1 47) i)).1 13 = S.1 13 from congrFun f4.1 13]
          refine zicmp_ge (tgt := 303) C dX8_dies_250 (by decide) (fun h250 => by first | exact absurd h250 (nI_ge (by omega) (by omega)) | exact absurd (nI_ge (by omega) (by omega)) h250) (fun h250 => ?_)
          refine zaload_n C dX8_dies_253 rfl ?_
          refine zmga C hR hf_X8_127 rfl dX8_dies_254 ?_
          refine ziload C dX8_dies_257 rfl ?_
          refine zjnM 296 (fun x => x = b2i (heirB (dieS4 S pn) pn (dieB S pn) i)) hR (fun J259_1 => ?_) (fun M x259 hR hx259 => ?_)
          · refine zaload_n C dX8_dies_259 rfl ?_
            refine ziload C dX8_dies_260 rfl ?_
            refine ziload_n C dX8_dies_262 rfl ?_
            refine zcallV C (m_isChild (S := (zsA (dieS4 S pn) 47 (heirL (dieS4 S pn) pn (dieB S pn) ((dieS4 S pn).2.2.1 47) i))) i (nI pn) (by omega) M hR) hy_X8_isChild hv_X8_isChild hl_X8_248 hR.1 rfl rfl rfl rfl (by decide) (by decide) (by omega) (by omega) rfl (by exact Nat.le_of_ble_eq_true rfl) dX8_dies_263 (fun v263 M hp263 => ?_)
            obtain ⟨S1, ⟨hv, hs⟩, hR⟩ := hp263
            have hv : v263 = b2i (isChild ((dieS4 S pn).2.2.1 15) ((dieS4 S pn).2.2.1 16) i (nI pn)) := hv
            subst hv
            rw [hs] at hR
            clear hs
            refine zif_eq (tgt := 295) C dX8_dies_266 (by decide) (fun h266 => ?_) (fun h266 => ?_)
            · replace h266 := b2i_0.mp h266
              refine zconst (v := 0) C dX8_dies_295 (by decide) ?_
              exact J259_1 _ _ hR (by simp [heirB, b2i, h266])
            · replace h266 := b2i_n0.mp h266
              refine zaload_n C dX8_dies_269 rfl ?_
              refine zmga C hR hf_X8_47 rfl dX8_dies_270 ?_
              refine ziload C dX8_dies_273 rfl ?_
              refine zmza C hR rfl rfl rfl (show _ < 40 from by omega) dX8_dies_275 ?_
              refine zif_ne (tgt := 295) C dX8_dies_276 (by decide) (fun h276 => ?_) (fun h276 => ?_)
              · replace h276 : ¬ (dieS4 S pn).2.2.1 18 i = 0 := h276
                refine zconst (v := 0) C dX8_dies_295 (by decide) ?_
                exact J259_1 _ _ hR (by simp [heirB, b2i, h266, h276])
              · replace h276 : (dieS4 S pn).2.2.1 18 i = 0 := h276
                refine zaload_n C dX8_dies_279 rfl ?_
                refine ziload C dX8_dies_280 rfl ?_
                refine ziload_n C dX8_dies_282 rfl ?_
                refine ziload C dX8_dies_283 rfl ?_
                refine zcallV C (m_isBarred (S := (zsA (dieS4 S pn) 47 (heirL (dieS4 S pn) pn (dieB S pn) ((dieS4 S pn).2.2.1 47) i))) i pn (dieB S pn) (by omega) (by omega) (dF_T (dF_A f4 rfl) (hP i hi2).1) (dF_T (dF_A f4 rfl) (hP pn hpn).1) M hR) hy_X8_isBarred hv_X8_isBarred hl_X8_235 hR.1 rfl rfl rfl rfl (by decide) (by decide) (by omega) (by omega) rfl (by exact Nat.le_of_ble_eq_true rfl) dX8_dies_285 (fun v285 M hp285 => ?_)
                obtain ⟨S1, ⟨hv, hs⟩, hR⟩ := hp285
                have hv : v285 = b2i (isBarred (dieS4 S pn) i pn (dieB S pn)) := hv
                subst hv
                rw [hs] at hR
                clear hs
                refine zif_ne (tgt := 295) C dX8_dies_288 (by decide) (fun h288 => ?_) (fun h288 => ?_)
                · replace h288 := b2i_n0.mp h288
                  refine zconst (v := 0) C dX8_dies_295 (by decide) ?_
                  exact J259_1 _ _ hR (by simp [heirB, b2i, h266, h276, h288])
                · replace h288 := b2i_0.mp h288
                  refine zconst (v := 1) C dX8_dies_291 (by decide) ?_
                  refine zgoto (tgt := 296) C dX8_dies_292 (by decide) ?_
                  exact J259_1 _ _ hR (by simp [heirB, b2i, h266, h276, h288])
          · subst hx259
            refine zmzs C hR rfl rfl rfl (show _ < 40 from by omega) (b2i_b _) dX8_dies_296 (fun M hR => ?_)
            refine ziinc (L1 := [_, _, _, _, _, _, _, _, _, _]) (v := nI (i + 1)) C dX8_dies_297 rfl (nI_1 i) rfl ?_
            refine zgoto (tgt := 244) C dX8_dies_300 (by decide) ?_
            exact ih (i + 1) (by omega) M (hR.eqv (by simp [heirL, zsA_A, zsA_g]))
      have L241 : ∀ M, zR g M0 mo ad (dieS4 S pn) M → zG g X M 0 0 241 [some (.ref mo), some (.int (nI pn)), none, some (.int (dieC S pn)), some (.int (b2i (dieB S pn))), some (.int (dieSh S pn)), some (.long (dieR S pn)), none, none, none] [] := by
        intro M hR
        refine zconst (v := 0) C dX8_dies_241 (by decide) ?_
        refine zistore (L1 := [_, _, _, _, _, _, _, _, _, _]) C dX8_dies_242 rfl (Nat.le_of_ble_eq_true rfl) ?_
        exact zcg (loop244 (S.1 13) 0 (by omega) M (hR.eqv (by rw [heirL, zsA_id]))) (by simp [zk1, nI_0])
      have L184 : ∀ M, zR g M0 mo ad (dieS2 S pn) M → zG g X M 0 0 184 [some (.ref mo), some (.int (nI pn)), none, some (.int (dieC S pn)), some (.int (b2i (dieB S pn))), some (.int (dieSh S pn)), none, none, none, none] [] := by
        intro M hR
        have hu8 : units (dieS3 S pn) 1 ≤ 80 := by have := unitsL_le ((dieS3 S pn).2.2.1 14) ((dieS3 S pn).2.2.1 47) 1 (by omega) ((dieS3 S pn).1 13); have : (dieS3 S pn).1 13 = S.1 13 := congrFun f2.1 13; unfold units; omega
        refine zaload_n C dX8_dies_184 rfl ?_
        refine zmga C hR hf_X8_50 rfl dX8_dies_185 ?_
        refine ziload_n C dX8_dies_188 rfl ?_
        refine zmla C hR rfl rfl rfl (show _ < 40 from by omega) dX8_dies_189 ?_
        refine zlstore (L1 := [_, _, _, _, _, _, _, _, _, _]) C dX8_dies_190 rfl (Nat.le_of_ble_eq_true rfl) ?_
        refine zaload_n C dX8_dies_192 rfl ?_
        refine zmga C hR hf_X8_50 rfl dX8_dies_193 ?_
        refine ziload_n C dX8_dies_196 rfl ?_
        refine zlconst (v := 0) C dX8_dies_197 rfl ?_
        refine zmls C hR rfl rfl rfl (show _ < 40 from by omega) dX8_dies_198 (fun M hR => ?_)
        refine zaload_n C dX8_dies_199 rfl ?_
        refine zconst (v := 1) C dX8_dies_200 (by decide) ?_
        refine zcallV C (m_units (S := dieS3 S pn) 1 (by show (dieS2 S pn).1 13 ≤ 40; rw [f2.1]; exact hb13) M hR) hy_X8_units hv_X8_units hl_X8_232 hR.1 rfl rfl rfl rfl (by decide) (by decide) (by omega) (by omega) rfl (by exact Nat.le_of_ble_eq_true rfl) dX8_dies_201 (fun v201 M hp201 => ?_)
        obtain ⟨S1, ⟨rfl, hs⟩, hR⟩ := hp201
        rw [hs] at hR
        clear hs
        refine zif_le (tgt := 241) C dX8_dies_204 (by decide) (fun h204 => ?_) (fun h204 => ?_)
        · replace h204 : ¬ 0 < units (dieS3 S pn) 1 := fun h => ule0 (by omega) h h204
          refine zfor [true, true, false, true, true, true, true, false, false, false] (L1 := [_, _, _, _, _, _, _, _, _, _]) rfl ?_
          first | exact zcg (L241 M (hR.eqv (by first | (rw [dieS4, if_pos h204]; done) | (rw [dieS4, if_pos h204]; rfl)))) (by first | (rw [dieR, if_pos h204]; done) | (rw [dieR, if_pos h204]; rfl)) | exact zcg (L241 M (hR.eqv (by first | (rw [dieS4, if_neg h204]; done) | (rw [dieS4, if_neg h204]; rfl)))) (by first | (rw [dieR, if_neg h204]; done) | (rw [dieR, if_neg h204]; rfl))
        · replace h204 : 0 < units (dieS3 S pn) 1 := by apply Classical.byContradiction; intro hn; exact h204 (ule0n hn)
          refine zlload C dX8_dies_207 rfl ?_
          refine zaload_n C dX8_dies_209 rfl ?_
          refine ziload_n C dX8_dies_210 rfl ?_
          refine zconst (v := 3) C dX8_dies_211 (by decide) ?_
          refine zaload_n C dX8_dies_212 rfl ?_
          refine zmgi C hR hf_X8_154 rfl dX8_dies_213 ?_
          refine zcallV C (m_lawOf (S := dieS3 S pn) _ 3 _ (by show (dieS2 S pn).1 4 ≤ 100; rw [f2.1]; exact hb4) M hR) hy_X8_lawOf hv_X8_lawOf hl_X8_177 hR.1 rfl rfl rfl rfl (by decide) (by decide) (by omega) (by omega) rfl (by exact Nat.le_of_ble_eq_true rfl) dX8_dies_216 (fun v216 M hp216 => ?_)
          obtain ⟨S1, ⟨hv, hs⟩, hR⟩ := hp216
          replace hv : v216 = lawOf S (dieC S pn) 3 (nI (S.1 1)) := by rw [hv, lawOf_dF (show dF S (dieS3 S pn) from dF_L f2), show (dieS3 S pn).1 1 = S.1 1 from congrFun f2.1 1]
          subst hv
          rw [hs] at hR
          clear hs
          refine zi2l C dX8_dies_219 ?_
          refine zlmul C dX8_dies_220 ?_
          refine zldc2 C hk_X8_242 dX8_dies_221 ?_
          refine zldiv C dX8_dies_224 (by decide) ?_
          refine zlstore (L1 := [_, _, _, _, _, _, _, _, _, _]) C dX8_dies_225 rfl (Nat.le_of_ble_eq_true rfl) ?_
          refine zaload_n C dX8_dies_227 rfl ?_
          refine zlload C dX8_dies_228 rfl ?_
          refine zconst (v := 1) C dX8_dies_230 (by decide) ?_
          refine zcallV C (m_gives (S := dieS3 S pn) (dieP S pn) 1 (by show (dieS2 S pn).1 13 ≤ 40; rw [f2.1]; exact hb13) (by omega) h204 M hR) hy_X8_gives hv_X8_gives hl_X8_244 hR.1 rfl rfl rfl rfl (by decide) (by decide) (by omega) (by omega) rfl (by exact Nat.le_of_ble_eq_true rfl) dX8_dies_231 (fun v231 M hp231 => ?_)
          obtain ⟨S1, hs, hR⟩ := hp231
          rw [hs] at hR
          clear hs
          refine zlload C dX8_dies_234 rfl ?_
          refine zlload C dX8_dies_236 rfl ?_
          refine zlsub C dX8_dies_238 ?_
          refine zlstore (L1 := [_, _, _, _, _, _, _, _, _, _]) C dX8_dies_239 rfl (Nat.le_of_ble_eq_true rfl) ?_
          refine zfor [true, true, false, true, true, true, true, false, false, false] (L1 := [_, _, _, _, _, _, _, _, _, _]) rfl ?_
          first | exact zcg (L241 M (hR.eqv (by first | (rw [dieS4, if_pos h204]; done) | (rw [dieS4, if_pos h204]; rfl)))) (by first | (rw [dieR, if_pos h204]; done) | (rw [dieR, if_pos h204]; rfl)) | exact zcg (L241 M (hR.eqv (by first | (rw [dieS4, if_neg h204]; done) | (rw [dieS4, if_neg h204]; rfl)))) (by first | (rw [dieR, if_neg h204]; done) | (rw [dieR, if_neg h204]; rfl))
      have loop104 : ∀ (r i : Nat), i + r = S.1 25 → ∀ M A, A = dieL (widS (dieS0 S pn) pn (dieB S pn)) pn i → dF S A → zR g M0 mo ad A M → zG g X M 0 0 104 [some (.ref mo), some (.int (nI pn)), none, some (.int (dieC S pn)), some (.int (b2i (dieB S pn))), some (.int (dieSh S pn)), some (.int (nI i)), none, none, none] [] := by
        intro r
        induction r with
        | zero =>
          intro i hi M A eA hA hR
          refine ziload C dX8_dies_104 rfl ?_
          refine zaload_n C dX8_dies_106 rfl ?_
          refine zmgi C hR hf_X8_148 rfl dX8_dies_107 ?_
          rw [show A.1 25 = S.1 25 from congrFun hA.1 25]
          refine zicmp_ge (tgt := 184) C dX8_dies_110 (by decide) (fun h110 => ?_) (fun h110 => by first | exact absurd (nI_le (by omega) (by omega)) h110 | exact absurd h110 (nI_le (by omega) (by omega)))
          refine zfor [true, true, false, true, true, true, false, false, false, false] (L1 := [_, _, _, _, _, _, _, _, _, _]) rfl ?_
          exact L184 M (hR.eqv (by rw [eA, dieS2, show S.1 25 = i by omega]))
        | succ r ih =>
          intro i hi M A eA hA hR
          have hi2 : i < S.1 25 := by omega
          obtain ⟨hn, wn, hhn, hwn, eh, ew⟩ := hM i hi2
          have ew1 : A.2.2.1 27 i = nI wn := (congrFun (hA.2.2 27 rfl) i).trans ew
          have hw1 : (A.2.2.1 27 i).toNatClampNeg = wn := by rw [ew1]; exact nI_clamp (by omega)
          refine ziload C dX8_dies_104 rfl ?_
          refine zaload_n C dX8_dies_106 rfl ?_
          refine zmgi C hR hf_X8_148 rfl dX8_dies_107 ?_
          rw [show A.1 25 = S.1 25 from congrFun hA.1 25]
          refine zicmp_ge (tgt := 184) C dX8_dies_110 (by decide) (fun h110 => by first | exact absurd h110 (nI_ge (by omega) (by omega)) | exact absurd (nI_ge (by omega) (by omega)) h110) (fun h110 => ?_)
          refine zaload_n C dX8_dies_113 rfl ?_
          refine zmga C hR hf_X8_76 rfl dX8_dies_114 ?_
          refine ziload C dX8_dies_117 rfl ?_
          refine zmia C hR rfl rfl rfl (show _ < 30 from by omega) dX8_dies_119 ?_
          refine zif_ne (tgt := 178) C dX8_dies_120 (by decide) (fun h120 => ?_) (fun h120 => ?_)
          · refine ziinc (L1 := [_, _, _, _, _, _, _, _, _, _]) (v := nI (i + 1)) C dX8_dies_178 rfl (nI_1 i) rfl ?_
            refine zgoto (tgt := 104) C dX8_dies_181 (by decide) ?_
            exact ih (i + 1) (by omega) M A (by rw [dieL, ← eA, if_neg (by simp [lastsFor, h120])]) hA hR
          · refine zaload_n C dX8_dies_123 rfl ?_
            refine zmga C hR hf_X8_70 rfl dX8_dies_124 ?_
            refine ziload C dX8_dies_127 rfl ?_
            refine zmia C hR rfl rfl rfl (show _ < 30 from by omega) dX8_dies_129 ?_
            refine ziload_n C dX8_dies_130 rfl ?_
            refine zicmp_eq (tgt := 145) C dX8_dies_131 (by decide) (fun h131 => ?_) (fun h131 => ?_)
            · replace h131 : A.2.2.1 26 i = nI pn := h131
              refine zaload_n C dX8_dies_145 rfl ?_
              refine zmga C hR hf_X8_76 rfl dX8_dies_146 ?_
              refine ziload C dX8_dies_149 rfl ?_
              refine zconst (v := 2) C dX8_dies_151 (by decide) ?_
              refine zmis C hR rfl rfl rfl (show _ < 30 from by omega) dX8_dies_152 (fun M hR => ?_)
              refine zaload_n C dX8_dies_153 rfl ?_
              refine zmga C hR hf_X8_70 rfl dX8_dies_154 ?_
              refine ziload C dX8_dies_157 rfl ?_
              refine zmia C hR rfl rfl rfl (show _ < 30 from by omega) dX8_dies_159 ?_
              refine ziload_n C dX8_dies_160 rfl ?_
              refine zicmp_ne (tgt := 170) C dX8_dies_161 (by decide) (fun h161 => ?_) (fun h161 => ?_)
              · replace h161 : ¬ A.2.2.1 26 i = nI pn := h161
                refine zaload_n C dX8_dies_170 rfl ?_
                refine zmga C hR hf_X8_79 rfl dX8_dies_171 ?_
                refine ziload C dX8_dies_174 rfl ?_
                refine zconst (v := 0) C dX8_dies_176 (by decide) ?_
                refine zmis C hR rfl rfl rfl (show _ < 30 from by omega) dX8_dies_177 (fun M hR => ?_)
                refine ziinc (L1 := [_, _, _, _, _, _, _, _, _, _]) (v := nI (i + 1)) C dX8_dies_178 rfl (nI_1 i) rfl ?_
                refine zgoto (tgt := 104) C dX8_dies_181 (by decide) ?_
                exact absurd h131 h161
              · replace h161 : A.2.2.1 26 i = nI pn := h161
                refine zaload_n C dX8_dies_164 rfl ?_
                refine ziload C dX8_dies_165 rfl ?_
                refine zcallV C (m_paysDower (S := zsA A 28 (upd (A.2.2.1 28) i 2)) i pn (A.2.2.1 27 i).toNatClampNeg (by omega) (by omega) (by rw [hw1]; omega) h161 (by rw [hw1]; exact ew1) M hR) hy_X8_paysDower hv_X8_paysDower hl_X8_229 hR.1 rfl rfl rfl rfl (by decide) (by decide) (by omega) (by omega) rfl (by exact Nat.le_of_ble_eq_true rfl) dX8_dies_167 (fun v167 M hp167 => ?_)
                obtain ⟨S1, hs, hR⟩ := hp167
                rw [hs] at hR
                clear hs
                refine zaload_n C dX8_dies_170 rfl ?_
                refine zmga C hR hf_X8_79 rfl dX8_dies_171 ?_
                refine ziload C dX8_dies_174 rfl ?_
                refine zconst (v := 0) C dX8_dies_176 (by decide) ?_
                refine zmis C hR rfl rfl rfl (show _ < 30 from by omega) dX8_dies_177 (fun M hR => ?_)
                refine ziinc (L1 := [_, _, _, _, _, _, _, _, _, _]) (v := nI (i + 1)) C dX8_dies_178 rfl (nI_1 i) rfl ?_
                refine zgoto (tgt := 104) C dX8_dies_181 (by decide) ?_
                exact ih (i + 1) (by omega) M (dieK A pn i) (by rw [dieL, ← eA, if_pos (by simp [lastsFor, h120, h131])]) (dF_K hA) (hR.eqv (by rw [dieK, dieK1, if_pos h161]))
            · replace h131 : ¬ A.2.2.1 26 i = nI pn := h131
              refine zaload_n C dX8_dies_134 rfl ?_
              refine zmga C hR hf_X8_73 rfl dX8_dies_135 ?_
              refine ziload C dX8_dies_138 rfl ?_
              refine zmia C hR rfl rfl rfl (show _ < 30 from by omega) dX8_dies_140 ?_
              refine ziload_n C dX8_dies_141 rfl ?_
              refine zicmp_ne (tgt := 178) C dX8_dies_142 (by decide) (fun h142 => ?_) (fun h142 => ?_)
              · replace h142 : ¬ A.2.2.1 27 i = nI pn := h142
                refine ziinc (L1 := [_, _, _, _, _, _, _, _, _, _]) (v := nI (i + 1)) C dX8_dies_178 rfl (nI_1 i) rfl ?_
                refine zgoto (tgt := 104) C dX8_dies_181 (by decide) ?_
                exact ih (i + 1) (by omega) M A (by rw [dieL, ← eA, if_neg (by simp [lastsFor, h131, h142])]) hA hR
              · replace h142 : A.2.2.1 27 i = nI pn := h142
                refine zaload_n C dX8_dies_145 rfl ?_
                refine zmga C hR hf_X8_76 rfl dX8_dies_146 ?_
                refine ziload C dX8_dies_149 rfl ?_
                refine zconst (v := 2) C dX8_dies_151 (by decide) ?_
                refine zmis C hR rfl rfl rfl (show _ < 30 from by omega) dX8_dies_152 (fun M hR => ?_)
                refine zaload_n C dX8_dies_153 rfl ?_
                refine zmga C hR hf_X8_70 rfl dX8_dies_154 ?_
                refine ziload C dX8_dies_157 rfl ?_
                refine zmia C hR rfl rfl rfl (show _ < 30 from by omega) dX8_dies_159 ?_
                refine ziload_n C dX8_dies_160 rfl ?_
                refine zicmp_ne (tgt := 170) C dX8_dies_161 (by decide) (fun h161 => ?_) (fun h161 => ?_)
                · replace h161 : ¬ A.2.2.1 26 i = nI pn := h161
                  refine zaload_n C dX8_dies_170 rfl ?_
                  refine zmga C hR hf_X8_79 rfl dX8_dies_171 ?_
                  refine ziload C dX8_dies_174 rfl ?_
                  refine zconst (v := 0) C dX8_dies_176 (by decide) ?_
                  refine zmis C hR rfl rfl rfl (show _ < 30 from by omega) dX8_dies_177 (fun M hR => ?_)
                  refine ziinc (L1 := [_, _, _, _, _, _, _, _, _, _]) (v := nI (i + 1)) C dX8_dies_178 rfl (nI_1 i) rfl ?_
                  refine zgoto (tgt := 104) C dX8_dies_181 (by decide) ?_
                  exact ih (i + 1) (by omega) M (dieK A pn i) (by rw [dieL, ← eA, if_pos (by simp [lastsFor, h120, h142])]) (dF_K hA) (hR.eqv (by rw [dieK, dieK1, if_neg h161]))
                · replace h161 : A.2.2.1 26 i = nI pn := h161
                  refine zaload_n C dX8_dies_164 rfl ?_
                  refine ziload C dX8_dies_165 rfl ?_
                  refine zcallV C (m_paysDower (S := zsA A 28 (upd (A.2.2.1 28) i 2)) i pn (A.2.2.1 27 i).toNatClampNeg (by omega) (by omega) (by rw [hw1]; omega) h161 (by rw [hw1]; exact ew1) M hR) hy_X8_paysDower hv_X8_paysDower hl_X8_229 hR.1 rfl rfl rfl rfl (by decide) (by decide) (by omega) (by omega) rfl (by exact Nat.le_of_ble_eq_true rfl) dX8_dies_167 (fun v167 M hp167 => ?_)
                  obtain ⟨S1, hs, hR⟩ := hp167
                  rw [hs] at hR
                  clear hs
                  refine zaload_n C dX8_dies_170 rfl ?_
                  refine zmga C hR hf_X8_79 rfl dX8_dies_171 ?_
                  refine ziload C dX8_dies_174 rfl ?_
                  refine zconst (v := 0) C dX8_dies_176 (by decide) ?_
                  refine zmis C hR rfl rfl rfl (show _ < 30 from by omega) dX8_dies_177 (fun M hR => ?_)
                  refine ziinc (L1 := [_, _, _, _, _, _, _, _, _, _]) (v := nI (i + 1)) C dX8_dies_178 rfl (nI_1 i) rfl ?_
                  refine zgoto (tgt := 104) C dX8_dies_181 (by decide) ?_
                  exact absurd h161 h131
      refine zaload_n C dX8_dies_37 rfl ?_
      refine zconst (v := 2) C dX8_dies_38 (by decide) ?_
      refine ziload_n C dX8_dies_39 rfl ?_
      refine ziload_n C dX8_dies_40 rfl ?_
      refine zaload_n C dX8_dies_41 rfl ?_
      refine zmgi C hR hf_X8_154 rfl dX8_dies_42 ?_
      refine zcallV C (m_courtOn (S := th S 0) 2 pn pn (S.1 1) hb9 hb1 (by omega) (by omega) (hP pn hpn).1 (hP pn hpn).1 (by obtain ⟨c, h1, h2⟩ := (hP pn hpn).2.2 (nI (S.1 1)); exact ⟨c, by omega, h2⟩) (by obtain ⟨c, h1, h2⟩ := (hP pn hpn).2.2 (nI (S.1 1)); exact ⟨c, by omega, h2⟩) M hR) hy_X8_courtOn hv_X8_courtOn hl_X8_194 hR.1 rfl rfl rfl rfl (by decide) (by decide) (by omega) (by omega) rfl (by exact Nat.le_of_ble_eq_true rfl) dX8_dies_45 (fun v45 M hp45 => ?_)
      obtain ⟨S1, ⟨hv, hs⟩, hR⟩ := hp45
      have hv : v45 = dieC S pn := hv
      subst hv
      rw [hs] at hR
      clear hs
      refine zistore_n (L1 := [_, _, _, _, _, _, _, _, _, _]) C dX8_dies_48 rfl (Nat.le_of_ble_eq_true rfl) ?_
      refine zjnM 68 (fun x => x = b2i (dieB S pn)) hR (fun J49_3 => ?_) (fun M x49 hR hx49 => ?_)
      · refine zaload_n C dX8_dies_49 rfl ?_
        refine ziload_n C dX8_dies_50 rfl ?_
        refine zconst (v := 5) C dX8_dies_51 (by decide) ?_
        refine zaload_n C dX8_dies_52 rfl ?_
        refine zmgi C hR hf_X8_154 rfl dX8_dies_53 ?_
        refine zcallV C (m_lawOf (S := th S 0) _ 5 (nI (S.1 1)) hb4 M hR) hy_X8_lawOf hv_X8_lawOf hl_X8_177 hR.1 rfl rfl rfl rfl (by decide) (by decide) (by omega) (by omega) rfl (by exact Nat.le_of_ble_eq_true rfl) dX8_dies_56 (fun v56 M hp56 => ?_)
        obtain ⟨S1, ⟨hv, hs⟩, hR⟩ := hp56
        have hv : v56 = lawOf S (dieC S pn) 5 (nI (S.1 1)) := hv
        subst hv
        rw [hs] at hR
        clear hs
        refine zconst (v := 1) C dX8_dies_59 (by decide) ?_
        refine zicmp_ne (tgt := 67) C dX8_dies_60 (by decide) (fun h60 => ?_) (fun h60 => ?_)
        · refine zconst (v := 0) C dX8_dies_67 (by decide) ?_
          exact J49_3 _ _ hR (by simp [dieB, b2i, h60])
        · refine zconst (v := 1) C dX8_dies_63 (by decide) ?_
          refine zgoto (tgt := 68) C dX8_dies_64 (by decide) ?_
          exact J49_3 _ _ hR (by simp [dieB, b2i, h60])
      · subst hx49
        refine zistore (L1 := [_, _, _, _, _, _, _, _, _, _]) C dX8_dies_68 rfl (Nat.le_of_ble_eq_true rfl) ?_
        refine zaload_n C dX8_dies_70 rfl ?_
        refine ziload_n C dX8_dies_71 rfl ?_
        refine zconst (v := 0) C dX8_dies_72 (by decide) ?_
        refine zaload_n C dX8_dies_73 rfl ?_
        refine zmgi C hR hf_X8_154 rfl dX8_dies_74 ?_
        refine zcallV C (m_lawOf (S := th S 0) _ 0 (nI (S.1 1)) hb4 M hR) hy_X8_lawOf hv_X8_lawOf hl_X8_177 hR.1 rfl rfl rfl rfl (by decide) (by decide) (by omega) (by omega) rfl (by exact Nat.le_of_ble_eq_true rfl) dX8_dies_77 (fun v77 M hp77 => ?_)
        obtain ⟨S1, ⟨hv, hs⟩, hR⟩ := hp77
        have hv : v77 = dieSh S pn := hv
        subst hv
        rw [hs] at hR
        clear hs
        refine zistore (L1 := [_, _, _, _, _, _, _, _, _, _]) C dX8_dies_80 rfl (Nat.le_of_ble_eq_true rfl) ?_
        refine zaload_n C dX8_dies_82 rfl ?_
        refine zmga C hR hf_X8_47 rfl dX8_dies_83 ?_
        refine ziload_n C dX8_dies_86 rfl ?_
        refine zconst (v := 1) C dX8_dies_87 (by decide) ?_
        refine zmzs C hR rfl rfl rfl (show _ < 40 from by omega) (Or.inr rfl) dX8_dies_88 (fun M hR => ?_)
        refine zaload_n C dX8_dies_89 rfl ?_
        refine ziload_n C dX8_dies_90 rfl ?_
        refine zcallV C (m_stays (S := zsA (th S 0) 18 (upd (S.2.2.1 18) pn 1)) pn (by omega) M hR) hy_X8_stays hv_X8_stays hl_X8_211 hR.1 rfl rfl rfl rfl (by decide) (by decide) (by omega) (by omega) rfl (by exact Nat.le_of_ble_eq_true rfl) dX8_dies_91 (fun v91 M hp91 => ?_)
        obtain ⟨S1, hs, hR⟩ := hp91
        rw [hs] at hR
        clear hs
        refine zaload_n C dX8_dies_94 rfl ?_
        refine ziload_n C dX8_dies_95 rfl ?_
        refine ziload C dX8_dies_96 rfl ?_
        refine zcallV C (m_findsWidows (S := dieS0 S pn) pn (dieB S pn) hi hpn (fun q hq => (hP q hq).1) hM M hR) hy_X8_findsWidows hv_X8_findsWidows hl_X8_239 hR.1 rfl rfl rfl rfl (by decide) (by decide) (by omega) (by omega) rfl (by exact Nat.le_of_ble_eq_true rfl) dX8_dies_98 (fun v98 M hp98 => ?_)
        obtain ⟨S1, hs, hR⟩ := hp98
        rw [hs] at hR
        clear hs
        refine zconst (v := 0) C dX8_dies_101 (by decide) ?_
        refine zistore (L1 := [_, _, _, _, _, _, _, _, _, _]) C dX8_dies_102 rfl (Nat.le_of_ble_eq_true rfl) ?_
        refine zfor [true, true, false, true, true, true, true, false, false, false] (L1 := [_, _, _, _, _, _, _, _, _, _]) rfl ?_
        exact zcg (loop104 (S.1 25) 0 (by omega) M _ rfl (dF_A f0 rfl) hR) (by simp [zk1, nI_0])
    · refine zconst (v := 2) C dX8_dies_24 (by decide) ?_
      refine zgoto (tgt := 29) C dX8_dies_25 (by decide) ?_
      refine zcallV C (m_holds 2 (by decide) M hR) hy_X8_holds hv_X8_holds hl_X8_157 hR.1 rfl rfl rfl rfl (by decide) (by decide) (by omega) (by omega) rfl (by exact Nat.le_of_ble_eq_true rfl) dX8_dies_29 (fun v29 M hp29 => ?_)
      obtain ⟨S1, ⟨rfl, hs⟩, hR⟩ := hp29
      rw [hs] at hR
      clear hs
      refine zif_ne_f (tgt := 37) C dX8_dies_32 (by decide) (by decide) ?_
      refine zlconst (v := 0) C dX8_dies_35 rfl ?_
      exact zend_l C hE dX8_dies_36 (by omega) (by omega) ⟨_, by simp [o_dies, zsA_g, zsN_g, zsN_2, zsA_1, zsA_c, zsA_l, zsL_g, zsL_1, zsL_c, zsL_a, zsN_N, h8, epn, h21], hR⟩
  · replace h8 := b2i_0.mp h8
    refine zconst (v := 1) C dX8_dies_11 (by decide) ?_
    refine zgoto (tgt := 29) C dX8_dies_12 (by decide) ?_
    refine zcallV C (m_holds 1 (by decide) M hR) hy_X8_holds hv_X8_holds hl_X8_157 hR.1 rfl rfl rfl rfl (by decide) (by decide) (by omega) (by omega) rfl (by exact Nat.le_of_ble_eq_true rfl) dX8_dies_29 (fun v29 M hp29 => ?_)
    obtain ⟨S1, ⟨rfl, hs⟩, hR⟩ := hp29
    rw [hs] at hR
    clear hs
    refine zif_ne_f (tgt := 37) C dX8_dies_32 (by decide) (by decide) ?_
    refine zlconst (v := 0) C dX8_dies_35 rfl ?_
    exact zend_l C hE dX8_dies_36 (by omega) (by omega) ⟨_, by simp [o_dies, zsA_g, zsN_g, zsN_2, zsA_1, zsA_c, zsA_l, zsL_g, zsL_1, zsL_c, zsL_a, zsN_N, h8], hR⟩
