/-! areGoods -/
def lasS (K : zK) : Nat → Nat
  | 0 => 0
  | i + 1 => lasS K i + hml K i
def cntL (K : zK) : Nat → Nat
  | 0 => 0
  | m + 1 => cntL K m + (if (kma K m).2.2.2.1 = 0 then 1 else 0)
theorem cntL_le (K : zK) {a : Nat} : ∀ r, cntL K a ≤ cntL K (a + r)
  | 0 => Nat.le_refl _
  | r + 1 => Nat.le_trans (cntL_le K r) (Nat.le_add_right _ _)
def gPer (K : zK) : Prop := ∀ i, i < K.1 13 → 0 ≤ (kpe K i).2.2.2.2.2.1.toInt ∧ ((kpe K i).2.2.2.2.1 = true ∨ ((kpe K i).2.2.2.2.2.1 = 0 ∧ hml K i = 0 ∧ (kpe K i).2.2.2.2.2.2.2.1 = -1)) ∧ ((hml K i = 0 ∧ lowK K i (K.1 25) (K.1 25) = -1) ∨ (0 < hml K i ∧ ∃ f, f < K.1 25 ∧ lowK K i (K.1 25) (K.1 25) = nI f ∧ (kma K f).2.2.2.1 = 0 ∧ ((kma K f).1 = i ∨ ((kma K f).2.1 = i ∧ hml K i = 1))))
def gMar (K : zK) : Prop := ∀ m, m < K.1 25 → ((kma K m).2.2.2.1 = 0 ∨ (kma K m).2.2.2.1 = 1 ∨ (kma K m).2.2.2.1 = 2) ∧ (∃ x, x ≤ 1000000 ∧ (kma K m).2.2.2.2.1 = nI x) ∧ (¬ (kma K m).2.2.2.1 = 0 → (kma K m).2.2.2.2.1 = 0)
theorem hmlL_le (K : zK) (p : Nat) : ∀ k, hmlL K p k ≤ k
  | 0 => Nat.le_refl _
  | k + 1 => by
    have := hmlL_le K p k
    unfold hmlL
    split <;> omega
section AP
variable {K : zK} {i : Nat}
theorem ap0 (h : i < 2 ^ 31) : a_ofPerson K (nI i) 0 = (kpe K i).2.2.2.2.2.1 := by unfold a_ofPerson; rw [if_pos rfl, nI_clamp h]
theorem ap1 (h : i < 2 ^ 31) : a_ofPerson K (nI i) 1 = if (kpe K i).2.2.2.2.1 = true then 1 else 0 := by unfold a_ofPerson; rw [if_neg (by decide), if_pos rfl, nI_clamp h]
theorem ap2 (h : i < 2 ^ 31) : a_ofPerson K (nI i) 2 = (nI (hml K i)).toInt64 := by unfold a_ofPerson; rw [if_neg (by decide), if_neg (by decide), if_pos rfl, nI_clamp h]
theorem ap3 (h : i < 2 ^ 31) : a_ofPerson K (nI i) 3 = (kpe K i).2.2.2.2.2.2.2.1.toInt64 := by unfold a_ofPerson; rw [if_neg (by decide), if_neg (by decide), if_neg (by decide), if_pos rfl, nI_clamp h]
theorem ap4 (h : i < 2 ^ 31) : a_ofPerson K (nI i) 4 = (lowK K i (K.1 25) (K.1 25)).toInt64 := by unfold a_ofPerson; rw [if_neg (by decide), if_neg (by decide), if_neg (by decide), if_neg (by decide), if_pos rfl, nI_clamp h]
theorem am0 (h : i < 2 ^ 31) : a_ofMarriage K (nI i) 0 = (kma K i).2.2.2.1 := by unfold a_ofMarriage; rw [if_pos rfl, nI_clamp h]
theorem am1 (h : i < 2 ^ 31) : a_ofMarriage K (nI i) 1 = nI (kma K i).1 := by unfold a_ofMarriage; rw [if_neg (by decide), if_pos rfl, nI_clamp h]
theorem am2 (h : i < 2 ^ 31) : a_ofMarriage K (nI i) 2 = nI (kma K i).2.1 := by unfold a_ofMarriage; rw [if_neg (by decide), if_neg (by decide), if_pos rfl, nI_clamp h]
theorem am3 (h : i < 2 ^ 31) : a_ofMarriage K (nI i) 3 = (kma K i).2.2.2.2.1 := by unfold a_ofMarriage; rw [if_neg (by decide), if_neg (by decide), if_neg (by decide), if_pos rfl, nI_clamp h]
theorem xof_ok {n : Nat} {hi w : Int32} (h : i < n) (hn : n < 2 ^ 31) (hw : wthn w 0 hi = true) : x_of n hi (nI i) w = 0 := by
  unfold x_of
  rw [zix_t h hn, hw, if_neg (by decide), if_neg (by decide)]
theorem xof_no {n : Nat} {hi w : Int32} (hn : n < 2 ^ 30) : ¬ x_of n hi (nI n) w = 0 := by
  unfold x_of
  rw [zix_nI (by omega), decide_eq_false (Nat.lt_irrefl n), if_pos rfl]
  decide
theorem dR21 (h : i < K.1 13) (hn : K.1 13 ≤ 40) : dR K 21 (nI i) 1 0 0 = if (kpe K i).2.2.2.2.1 = true then 1 else 0 := by
  unfold dR
  rw [if_pos (show dX K 21 (nI i) 1 0 0 = 0 from xof_ok h (by omega) (by decide))]
  exact ap1 (by omega)
theorem dR21n (hn : K.1 13 ≤ 40) : dR K 21 (nI (K.1 13)) 1 0 0 = -2100000000 := if_neg (show ¬ x_of (K.1 13) 5 (nI (K.1 13)) 1 = 0 from xof_no (by omega))
theorem dR22 (h : i < K.1 25) (hn : K.1 25 ≤ 30) : dR K 22 (nI i) 0 0 0 = (kma K i).2.2.2.1.toInt64 := by
  unfold dR
  rw [if_pos (show dX K 22 (nI i) 0 0 0 = 0 from xof_ok h (by omega) (by decide))]
  exact congrArg Int32.toInt64 (am0 (by omega))
theorem dR22n (hn : K.1 25 ≤ 30) : dR K 22 (nI (K.1 25)) 0 0 0 = -2100000000 := if_neg (show ¬ x_of (K.1 25) 4 (nI (K.1 25)) 0 = 0 from xof_no (by omega))
theorem lg_pos {x : Int64} (h : 0 < x.toInt) : lg_cmp x 0 = 1 := by
  unfold lg_cmp
  rw [if_pos (show x > 0 from Int64.lt_iff_toInt_lt.mpr h)]
theorem lg_nn {x : Int64} (h : 0 ≤ x.toInt) : ¬ lg_cmp x 0 < 0 := by
  rw [lg_cmp_lt]
  rw [Int64.lt_iff_toInt_lt]
  exact Int.not_lt.mpr h
theorem nI64i {n : Nat} (h : n < 2 ^ 31) : (nI n).toInt64.toInt = (n : Int) := by rw [Int32.toInt_toInt64, nI_toInt h]
theorem nI_subN {a b : Nat} (h : b ≤ a) (ha : a < 2 ^ 30) : nI a - nI b = nI (a - b) := by
  apply Int32.toInt_inj.mp
  rw [pk_sub_toInt (by omega) (by omega), nI_toInt (by omega)]
  omega
end AP
set_option maxRecDepth 100000 in
set_option maxHeartbeats 4000000 in
theorem l_goods {g : zGh} {K : zK} {a : zg → Nat} {M : zM} (hp : zP g K nX a M) (hok : zOk K) (br : Int64) (hbr : allK K (K.1 13) = br) (hcr : 0 ≤ K.2.1.toInt) (gp : gPer K) (gm : gMar K) (hl : lasS K (K.1 13) = 2 * cntL K (K.1 25)) : zCn g yL_areGoods cL_areGoods 14 (some .boolean) 11 251 mkI [.ref (a (0, 0)), .long br] M 4200 25200 (fun r M1 => r = 1 ∧ M1 = M) := by
  have hb13 : K.1 13 ≤ 40 := hok.1.1.2.2.2.2.1
  have hb25 : K.1 25 ≤ 30 := hok.1.1.2.2.2.2.2.1
  refine zofn [some (.ref (a (0, 0))), some (.long br), none, none, none, none, none, none, none, none, none, none, none, none] (by decide +kernel) rfl rfl (Nat.le_of_ble_eq_true rfl) ?_
  intro X C hE hN
  have C : zC g X RL cL_areGoods 14 11 251 4200 25200 := C
  have mar : ∀ r m, m + r = K.1 25 → ∀ k n, k ≤ 3208 + 32 * m → n ≤ 19248 + 192 * m → zG g X M k n 238 [some (.ref (a (0, 0))), some (.long br), none, some (.int 1), some (.long (allK K (K.1 13))), none, some (.int (nI (2 * (cntL K (K.1 25) - cntL K m)))), some (.int (nI m)), none, none, none, none, none, none] [] := by
    intro r
    induction r with
    | zero =>
      intro m hm k n hk hn
      obtain rfl : m = K.1 25 := by omega
      refine zaload_n C dL_areGoods_238 rfl ?_
      refine zbipush (v := 22) C dL_areGoods_239 (by decide) ?_
      refine ziload C dL_areGoods_241 rfl ?_
      refine zconst (v := 0) C dL_areGoods_243 (by decide) ?_
      refine zconst (v := 0) C dL_areGoods_244 (by decide) ?_
      refine zconst (v := 0) C dL_areGoods_245 (by decide) ?_
      refine zcallSW (np := 6) C hN (does_22 _ _ _ _ hp hok) hcw_does zinL (by decide) (by decide +kernel) hl_L_118 rfl rfl (by decide) (by decide) (by omega) (by omega) rfl (by exact Nat.le_of_ble_eq_true rfl) dL_areGoods_246 (fun r M1 hr => ?_)
      obtain ⟨rfl, rfl⟩ := hr
      rw [dR22n hb25]
      refine zlconst (v := 0) C dL_areGoods_249 rfl ?_
      refine zlcmp C dL_areGoods_250 ?_
      rw [show lg_cmp (-2100000000) 0 = -1 from by decide]
      refine zif_lt_t (tgt := 325) C dL_areGoods_251 (by decide) (by decide) ?_
      refine ziload_n C dL_areGoods_325 rfl ?_
      refine zif_eq_f (tgt := 345) C dL_areGoods_326 (by decide) (by decide) ?_
      refine zlload C dL_areGoods_329 rfl ?_
      refine zlload_n C dL_areGoods_331 rfl ?_
      refine zlcmp C dL_areGoods_332 ?_
      rw [hbr, lcmp_self]
      refine zif_ne_f (tgt := 345) C dL_areGoods_333 (by decide) (by decide) ?_
      refine ziload C dL_areGoods_336 rfl ?_
      refine zif_ne_f (tgt := 345) C dL_areGoods_338 (by decide) (show nI (2 * (cntL K (K.1 25) - cntL K (K.1 25))) = 0 from by rw [Nat.sub_self]; rfl) ?_
      refine zconst (v := 1) C dL_areGoods_341 (by decide) ?_
      refine zgoto (tgt := 346) C dL_areGoods_342 (by decide) ?_
      exact zend_z C hE dL_areGoods_346 (by omega) (by omega) (Or.inr rfl) ⟨rfl, rfl⟩
    | succ r ih =>
      intro m hm k n hk hn
      have hm : m < K.1 25 := by omega
      have hle : cntL K m + (if (kma K m).2.2.2.1 = 0 then 1 else 0) ≤ cntL K (K.1 25) := by
        have := cntL_le K (a := m + 1) (K.1 25 - (m + 1))
        rw [show m + 1 + (K.1 25 - (m + 1)) = K.1 25 by omega] at this
        exact this
      have hcn : ∀ j, cntL K j ≤ j := by
        intro j
        induction j with
        | zero => exact Nat.le_refl _
        | succ j ihj => unfold cntL; split <;> omega
      have hcn := hcn (K.1 25)
      obtain ⟨hst, ⟨ow, how, hoe⟩, ho0⟩ := gm m hm
      rcases hst with hs | hs | hs
      · refine zaload_n C dL_areGoods_238 rfl ?_
        refine zbipush (v := 22) C dL_areGoods_239 (by decide) ?_
        refine ziload C dL_areGoods_241 rfl ?_
        refine zconst (v := 0) C dL_areGoods_243 (by decide) ?_
        refine zconst (v := 0) C dL_areGoods_244 (by decide) ?_
        refine zconst (v := 0) C dL_areGoods_245 (by decide) ?_
        refine zcallSW (np := 6) C hN (does_22 _ _ _ _ hp hok) hcw_does zinL (by decide) (by decide +kernel) hl_L_118 rfl rfl (by decide) (by decide) (by omega) (by omega) rfl (by exact Nat.le_of_ble_eq_true rfl) dL_areGoods_246 (fun r M1 hr => ?_)
        obtain ⟨rfl, rfl⟩ := hr
        rw [dR22 hm hb25, hs]
        refine zlconst (v := 0) C dL_areGoods_249 rfl ?_
        refine zlcmp C dL_areGoods_250 ?_
        rw [show lg_cmp (0 : Int32).toInt64 0 = 0 from by decide]
        refine zif_lt_f (tgt := 325) C dL_areGoods_251 (by decide) (by decide) ?_
        refine ziload_n C dL_areGoods_254 rfl ?_
        refine zif_eq_f (tgt := 325) C dL_areGoods_255 (by decide) (by decide) ?_
        refine zaload_n C dL_areGoods_258 rfl ?_
        refine ziload C dL_areGoods_259 rfl ?_
        refine zconst (v := 0) C dL_areGoods_261 (by decide) ?_
        refine zcallVX C (K_ofMarriage _ _ hp hok.1) hy_X7_ofMarriage hv_X7_ofMarriage hl_L_56 hp.main rfl rfl rfl rfl (by decide) (by decide) (by omega) (by omega) rfl (by exact Nat.le_of_ble_eq_true rfl) dL_areGoods_262 (fun E M1 hx => absurd (xof_ok hm (by omega) (by decide)) (exI hx.1)) (fun v M1 hv => ?_)
        obtain ⟨-, rfl, rfl⟩ := hv
        rw [am0 (show m < 2 ^ 31 by omega), hs]
        refine zistore (L1 := [_, _, _, _, _, _, _, _, _, _, _, _, _, _]) C dL_areGoods_265 rfl (Nat.le_of_ble_eq_true rfl) ?_
        refine ziload C dL_areGoods_267 rfl ?_
        refine ziload C dL_areGoods_269 rfl ?_
        refine zif_ne_f (tgt := 278) C dL_areGoods_271 (by decide) (by decide) ?_
        refine zconst (v := 2) C dL_areGoods_274 (by decide) ?_
        refine zgoto (tgt := 279) C dL_areGoods_275 (by decide) ?_
        refine zisub C dL_areGoods_279 ?_
        have ec : cntL K (m + 1) = cntL K m + 1 := by show cntL K m + (if (kma K m).2.2.2.1 = 0 then 1 else 0) = _; rw [hs]; rfl
        rw [hs, if_pos rfl] at hle
        rw [show (2 : Int32) = nI 2 from rfl, nI_subN (by omega) (by omega), show 2 * (cntL K (K.1 25) - cntL K m) - 2 = 2 * (cntL K (K.1 25) - cntL K (m + 1)) by omega]
        refine zistore (L1 := [_, _, _, _, _, _, _, _, _, _, _, _, _, _]) C dL_areGoods_280 rfl (Nat.le_of_ble_eq_true rfl) ?_
        refine ziload C dL_areGoods_282 rfl ?_
        refine zconst (v := 3) C dL_areGoods_284 (by decide) ?_
        refine zicmp_ge (tgt := 317) C dL_areGoods_285 (by decide) (fun h285 => by first | exact absurd h285 (by decide) | exact absurd (by decide) h285) (fun h285 => ?_)
        refine zaload_n C dL_areGoods_288 rfl ?_
        refine ziload C dL_areGoods_289 rfl ?_
        refine zconst (v := 3) C dL_areGoods_291 (by decide) ?_
        refine zcallVX C (K_ofMarriage _ _ hp hok.1) hy_X7_ofMarriage hv_X7_ofMarriage hl_L_56 hp.main rfl rfl rfl rfl (by decide) (by decide) (by omega) (by omega) rfl (by exact Nat.le_of_ble_eq_true rfl) dL_areGoods_292 (fun E M1 hx => absurd (xof_ok hm (by omega) (by decide)) (exI hx.1)) (fun v M1 hv => ?_)
        obtain ⟨-, rfl, rfl⟩ := hv
        rw [am3 (show m < 2 ^ 31 by omega), hoe]
        refine zif_lt_f (tgt := 317) C dL_areGoods_295 (by decide) (nI_nn (by omega)) ?_
        refine ziload C dL_areGoods_298 rfl ?_
        refine zif_eq_t (tgt := 313) C dL_areGoods_300 (by decide) (by decide) ?_
        refine zconst (v := 1) C dL_areGoods_313 (by decide) ?_
        refine zgoto (tgt := 318) C dL_areGoods_314 (by decide) ?_
        refine zistore_n (L1 := [_, _, _, _, _, _, _, _, _, _, _, _, _, _]) C dL_areGoods_318 rfl (Nat.le_of_ble_eq_true rfl) ?_
        refine ziinc (L1 := [_, _, _, _, _, _, _, _, _, _, _, _, _, _]) (v := nI (m + 1)) C dL_areGoods_319 rfl (nI_add m 1) rfl ?_
        refine zgoto (tgt := 238) C dL_areGoods_322 (by decide) ?_
        refine zfor [true, true, false, true, true, false, true, true, false, false, false, false, false, false] rfl ?_
        exact ih (m + 1) (by omega) _ _ (by omega) (by omega)
      · refine zaload_n C dL_areGoods_238 rfl ?_
        refine zbipush (v := 22) C dL_areGoods_239 (by decide) ?_
        refine ziload C dL_areGoods_241 rfl ?_
        refine zconst (v := 0) C dL_areGoods_243 (by decide) ?_
        refine zconst (v := 0) C dL_areGoods_244 (by decide) ?_
        refine zconst (v := 0) C dL_areGoods_245 (by decide) ?_
        refine zcallSW (np := 6) C hN (does_22 _ _ _ _ hp hok) hcw_does zinL (by decide) (by decide +kernel) hl_L_118 rfl rfl (by decide) (by decide) (by omega) (by omega) rfl (by exact Nat.le_of_ble_eq_true rfl) dL_areGoods_246 (fun r M1 hr => ?_)
        obtain ⟨rfl, rfl⟩ := hr
        rw [dR22 hm hb25, hs]
        refine zlconst (v := 0) C dL_areGoods_249 rfl ?_
        refine zlcmp C dL_areGoods_250 ?_
        rw [show lg_cmp (1 : Int32).toInt64 0 = 1 from by decide]
        refine zif_lt_f (tgt := 325) C dL_areGoods_251 (by decide) (by decide) ?_
        refine ziload_n C dL_areGoods_254 rfl ?_
        refine zif_eq_f (tgt := 325) C dL_areGoods_255 (by decide) (by decide) ?_
        refine zaload_n C dL_areGoods_258 rfl ?_
        refine ziload C dL_areGoods_259 rfl ?_
        refine zconst (v := 0) C dL_areGoods_261 (by decide) ?_
        refine zcallVX C (K_ofMarriage _ _ hp hok.1) hy_X7_ofMarriage hv_X7_ofMarriage hl_L_56 hp.main rfl rfl rfl rfl (by decide) (by decide) (by omega) (by omega) rfl (by exact Nat.le_of_ble_eq_true rfl) dL_areGoods_262 (fun E M1 hx => absurd (xof_ok hm (by omega) (by decide)) (exI hx.1)) (fun v M1 hv => ?_)
        obtain ⟨-, rfl, rfl⟩ := hv
        rw [am0 (show m < 2 ^ 31 by omega), hs]
        refine zistore (L1 := [_, _, _, _, _, _, _, _, _, _, _, _, _, _]) C dL_areGoods_265 rfl (Nat.le_of_ble_eq_true rfl) ?_
        refine ziload C dL_areGoods_267 rfl ?_
        refine ziload C dL_areGoods_269 rfl ?_
        refine zif_ne_t (tgt := 278) C dL_areGoods_271 (by decide) (by decide) ?_
        refine zconst (v := 0) C dL_areGoods_278 (by decide) ?_
        refine zisub C dL_areGoods_279 ?_
        have ec : cntL K (m + 1) = cntL K m + 0 := by show cntL K m + (if (kma K m).2.2.2.1 = 0 then 1 else 0) = _; rw [hs]; rfl
        rw [show (0 : Int32) = nI 0 from rfl, nI_subN (Nat.zero_le _) (by omega), show 2 * (cntL K (K.1 25) - cntL K m) - 0 = 2 * (cntL K (K.1 25) - cntL K (m + 1)) by rw [ec]; rfl]
        refine zistore (L1 := [_, _, _, _, _, _, _, _, _, _, _, _, _, _]) C dL_areGoods_280 rfl (Nat.le_of_ble_eq_true rfl) ?_
        refine ziload C dL_areGoods_282 rfl ?_
        refine zconst (v := 3) C dL_areGoods_284 (by decide) ?_
        refine zicmp_ge (tgt := 317) C dL_areGoods_285 (by decide) (fun h285 => by first | exact absurd h285 (by decide) | exact absurd (by decide) h285) (fun h285 => ?_)
        refine zaload_n C dL_areGoods_288 rfl ?_
        refine ziload C dL_areGoods_289 rfl ?_
        refine zconst (v := 3) C dL_areGoods_291 (by decide) ?_
        refine zcallVX C (K_ofMarriage _ _ hp hok.1) hy_X7_ofMarriage hv_X7_ofMarriage hl_L_56 hp.main rfl rfl rfl rfl (by decide) (by decide) (by omega) (by omega) rfl (by exact Nat.le_of_ble_eq_true rfl) dL_areGoods_292 (fun E M1 hx => absurd (xof_ok hm (by omega) (by decide)) (exI hx.1)) (fun v M1 hv => ?_)
        obtain ⟨-, rfl, rfl⟩ := hv
        rw [am3 (show m < 2 ^ 31 by omega), hoe]
        refine zif_lt_f (tgt := 317) C dL_areGoods_295 (by decide) (nI_nn (by omega)) ?_
        refine ziload C dL_areGoods_298 rfl ?_
        refine zif_eq_f (tgt := 313) C dL_areGoods_300 (by decide) (by decide) ?_
        refine zaload_n C dL_areGoods_303 rfl ?_
        refine ziload C dL_areGoods_304 rfl ?_
        refine zconst (v := 3) C dL_areGoods_306 (by decide) ?_
        refine zcallVX C (K_ofMarriage _ _ hp hok.1) hy_X7_ofMarriage hv_X7_ofMarriage hl_L_56 hp.main rfl rfl rfl rfl (by decide) (by decide) (by omega) (by omega) rfl (by exact Nat.le_of_ble_eq_true rfl) dL_areGoods_307 (fun E M1 hx => absurd (xof_ok hm (by omega) (by decide)) (exI hx.1)) (fun v M1 hv => ?_)
        obtain ⟨-, rfl, rfl⟩ := hv
        rw [am3 (show m < 2 ^ 31 by omega), ho0 (by rw [hs]; decide)]
        refine zif_ne_f (tgt := 317) C dL_areGoods_310 (by decide) (by decide) ?_
        refine zconst (v := 1) C dL_areGoods_313 (by decide) ?_
        refine zgoto (tgt := 318) C dL_areGoods_314 (by decide) ?_
        refine zistore_n (L1 := [_, _, _, _, _, _, _, _, _, _, _, _, _, _]) C dL_areGoods_318 rfl (Nat.le_of_ble_eq_true rfl) ?_
        refine ziinc (L1 := [_, _, _, _, _, _, _, _, _, _, _, _, _, _]) (v := nI (m + 1)) C dL_areGoods_319 rfl (nI_add m 1) rfl ?_
        refine zgoto (tgt := 238) C dL_areGoods_322 (by decide) ?_
        refine zfor [true, true, false, true, true, false, true, true, false, false, false, false, false, false] rfl ?_
        exact ih (m + 1) (by omega) _ _ (by omega) (by omega)
      · refine zaload_n C dL_areGoods_238 rfl ?_
        refine zbipush (v := 22) C dL_areGoods_239 (by decide) ?_
        refine ziload C dL_areGoods_241 rfl ?_
        refine zconst (v := 0) C dL_areGoods_243 (by decide) ?_
        refine zconst (v := 0) C dL_areGoods_244 (by decide) ?_
        refine zconst (v := 0) C dL_areGoods_245 (by decide) ?_
        refine zcallSW (np := 6) C hN (does_22 _ _ _ _ hp hok) hcw_does zinL (by decide) (by decide +kernel) hl_L_118 rfl rfl (by decide) (by decide) (by omega) (by omega) rfl (by exact Nat.le_of_ble_eq_true rfl) dL_areGoods_246 (fun r M1 hr => ?_)
        obtain ⟨rfl, rfl⟩ := hr
        rw [dR22 hm hb25, hs]
        refine zlconst (v := 0) C dL_areGoods_249 rfl ?_
        refine zlcmp C dL_areGoods_250 ?_
        rw [show lg_cmp (2 : Int32).toInt64 0 = 1 from by decide]
        refine zif_lt_f (tgt := 325) C dL_areGoods_251 (by decide) (by decide) ?_
        refine ziload_n C dL_areGoods_254 rfl ?_
        refine zif_eq_f (tgt := 325) C dL_areGoods_255 (by decide) (by decide) ?_
        refine zaload_n C dL_areGoods_258 rfl ?_
        refine ziload C dL_areGoods_259 rfl ?_
        refine zconst (v := 0) C dL_areGoods_261 (by decide) ?_
        refine zcallVX C (K_ofMarriage _ _ hp hok.1) hy_X7_ofMarriage hv_X7_ofMarriage hl_L_56 hp.main rfl rfl rfl rfl (by decide) (by decide) (by omega) (by omega) rfl (by exact Nat.le_of_ble_eq_true rfl) dL_areGoods_262 (fun E M1 hx => absurd (xof_ok hm (by omega) (by decide)) (exI hx.1)) (fun v M1 hv => ?_)
        obtain ⟨-, rfl, rfl⟩ := hv
        rw [am0 (show m < 2 ^ 31 by omega), hs]
        refine zistore (L1 := [_, _, _, _, _, _, _, _, _, _, _, _, _, _]) C dL_areGoods_265 rfl (Nat.le_of_ble_eq_true rfl) ?_
        refine ziload C dL_areGoods_267 rfl ?_
        refine ziload C dL_areGoods_269 rfl ?_
        refine zif_ne_t (tgt := 278) C dL_areGoods_271 (by decide) (by decide) ?_
        refine zconst (v := 0) C dL_areGoods_278 (by decide) ?_
        refine zisub C dL_areGoods_279 ?_
        have ec : cntL K (m + 1) = cntL K m + 0 := by show cntL K m + (if (kma K m).2.2.2.1 = 0 then 1 else 0) = _; rw [hs]; rfl
        rw [show (0 : Int32) = nI 0 from rfl, nI_subN (Nat.zero_le _) (by omega), show 2 * (cntL K (K.1 25) - cntL K m) - 0 = 2 * (cntL K (K.1 25) - cntL K (m + 1)) by rw [ec]; rfl]
        refine zistore (L1 := [_, _, _, _, _, _, _, _, _, _, _, _, _, _]) C dL_areGoods_280 rfl (Nat.le_of_ble_eq_true rfl) ?_
        refine ziload C dL_areGoods_282 rfl ?_
        refine zconst (v := 3) C dL_areGoods_284 (by decide) ?_
        refine zicmp_ge (tgt := 317) C dL_areGoods_285 (by decide) (fun h285 => by first | exact absurd h285 (by decide) | exact absurd (by decide) h285) (fun h285 => ?_)
        refine zaload_n C dL_areGoods_288 rfl ?_
        refine ziload C dL_areGoods_289 rfl ?_
        refine zconst (v := 3) C dL_areGoods_291 (by decide) ?_
        refine zcallVX C (K_ofMarriage _ _ hp hok.1) hy_X7_ofMarriage hv_X7_ofMarriage hl_L_56 hp.main rfl rfl rfl rfl (by decide) (by decide) (by omega) (by omega) rfl (by exact Nat.le_of_ble_eq_true rfl) dL_areGoods_292 (fun E M1 hx => absurd (xof_ok hm (by omega) (by decide)) (exI hx.1)) (fun v M1 hv => ?_)
        obtain ⟨-, rfl, rfl⟩ := hv
        rw [am3 (show m < 2 ^ 31 by omega), hoe]
        refine zif_lt_f (tgt := 317) C dL_areGoods_295 (by decide) (nI_nn (by omega)) ?_
        refine ziload C dL_areGoods_298 rfl ?_
        refine zif_eq_f (tgt := 313) C dL_areGoods_300 (by decide) (by decide) ?_
        refine zaload_n C dL_areGoods_303 rfl ?_
        refine ziload C dL_areGoods_304 rfl ?_
        refine zconst (v := 3) C dL_areGoods_306 (by decide) ?_
        refine zcallVX C (K_ofMarriage _ _ hp hok.1) hy_X7_ofMarriage hv_X7_ofMarriage hl_L_56 hp.main rfl rfl rfl rfl (by decide) (by decide) (by omega) (by omega) rfl (by exact Nat.le_of_ble_eq_true rfl) dL_areGoods_307 (fun E M1 hx => absurd (xof_ok hm (by omega) (by decide)) (exI hx.1)) (fun v M1 hv => ?_)
        obtain ⟨-, rfl, rfl⟩ := hv
        rw [am3 (show m < 2 ^ 31 by omega), ho0 (by rw [hs]; decide)]
        refine zif_ne_f (tgt := 317) C dL_areGoods_310 (by decide) (by decide) ?_
        refine zconst (v := 1) C dL_areGoods_313 (by decide) ?_
        refine zgoto (tgt := 318) C dL_areGoods_314 (by decide) ?_
        refine zistore_n (L1 := [_, _, _, _, _, _, _, _, _, _, _, _, _, _]) C dL_areGoods_318 rfl (Nat.le_of_ble_eq_true rfl) ?_
        refine ziinc (L1 := [_, _, _, _, _, _, _, _, _, _, _, _, _, _]) (v := nI (m + 1)) C dL_areGoods_319 rfl (nI_add m 1) rfl ?_
        refine zgoto (tgt := 238) C dL_areGoods_322 (by decide) ?_
        refine zfor [true, true, false, true, true, false, true, true, false, false, false, false, false, false] rfl ?_
        exact ih (m + 1) (by omega) _ _ (by omega) (by omega)
  have per : ∀ r i, i + r = K.1 13 → ∀ k n, k ≤ 80 * i → n ≤ 480 * i → zG g X M k n 36 [some (.ref (a (0, 0))), some (.long br), none, some (.int 1), some (.long (allK K i)), none, some (.int (nI (lasS K i))), some (.int (nI i)), none, none, none, none, none, none] [] := by
    intro r
    induction r with
    | zero =>
      intro i hi k n hk hn
      obtain rfl : i = K.1 13 := by omega
      refine zaload_n C dL_areGoods_36 rfl ?_
      refine zbipush (v := 21) C dL_areGoods_37 (by decide) ?_
      refine ziload C dL_areGoods_39 rfl ?_
      refine zconst (v := 1) C dL_areGoods_41 (by decide) ?_
      refine zconst (v := 0) C dL_areGoods_42 (by decide) ?_
      refine zconst (v := 0) C dL_areGoods_43 (by decide) ?_
      refine zcallSW (np := 6) C hN (does_21 _ _ _ _ hp hok) hcw_does zinL (by decide) (by decide +kernel) hl_L_118 rfl rfl (by decide) (by decide) (by omega) (by omega) rfl (by exact Nat.le_of_ble_eq_true rfl) dL_areGoods_44 (fun r M1 hr => ?_)
      obtain ⟨rfl, rfl⟩ := hr
      rw [dR21n hb13]
      refine zlconst (v := 0) C dL_areGoods_47 rfl ?_
      refine zlcmp C dL_areGoods_48 ?_
      rw [show lg_cmp (-2100000000) 0 = -1 from by decide]
      refine zif_lt_t (tgt := 235) C dL_areGoods_49 (by decide) (by decide) ?_
      refine zconst (v := 0) C dL_areGoods_235 (by decide) ?_
      refine zistore (L1 := [_, _, _, _, _, _, _, _, _, _, _, _, _, _]) C dL_areGoods_236 rfl (Nat.le_of_ble_eq_true rfl) ?_
      refine zcg (mar (K.1 25) 0 (by omega) _ _ (by omega) (by omega)) ?_ rfl
      rw [hl]
      rfl
    | succ r ih =>
      intro i hi k n hk hn
      have hi : i < K.1 13 := by omega
      have hi31 : i < 2 ^ 31 := by omega
      obtain ⟨hg, hlv, hmr⟩ := gp i hi
      have hml25 : hml K i ≤ K.1 25 := hmlL_le K i _
      have k145 : ∀ k n, k ≤ 80 * i + 48 → n ≤ 480 * i + 288 → zG g X M k n 145 [some (.ref (a (0, 0))), some (.long br), none, some (.int 1), some (.long (allK K i + (kpe K i).2.2.2.2.2.1)), none, some (.int (nI (lasS K i + hml K i))), some (.int (nI i)), some (.long (kpe K i).2.2.2.2.2.1), none, some (.long (nI (hml K i)).toInt64), none, some (.long (lowK K i (K.1 25) (K.1 25)).toInt64), none] [] := by
        intro k n hk hn
        have k223 : ∀ k n, k ≤ 80 * i + 80 → n ≤ 480 * i + 480 → zG g X M k n 223 [some (.ref (a (0, 0))), some (.long br), none, some (.int 1), some (.long (allK K i + (kpe K i).2.2.2.2.2.1)), none, some (.int (nI (lasS K i + hml K i))), some (.int (nI i)), some (.long (kpe K i).2.2.2.2.2.1), none, some (.long (nI (hml K i)).toInt64), none, none, none] [] := by
          intro k n hk hn
          refine zconst (v := 1) C dL_areGoods_223 (by decide) ?_
          refine zgoto (tgt := 228) C dL_areGoods_224 (by decide) ?_
          refine zistore_n (L1 := [_, _, _, _, _, _, _, _, _, _, _, _, _, _]) C dL_areGoods_228 rfl (Nat.le_of_ble_eq_true rfl) ?_
          refine ziinc (L1 := [_, _, _, _, _, _, _, _, _, _, _, _, _, _]) (v := nI (i + 1)) C dL_areGoods_229 rfl (nI_add i 1) rfl ?_
          refine zgoto (tgt := 36) C dL_areGoods_232 (by decide) ?_
          refine zfor [true, true, false, true, true, false, true, true, false, false, false, false, false, false] rfl ?_
          exact ih (i + 1) (by omega) _ _ (by omega) (by omega)
        rcases hmr with ⟨hm0, hlo⟩ | ⟨hm0, f, hf, hlo, hst, hpar⟩
        · have e10 : (nI (hml K i)).toInt64 = 0 := by rw [hm0]; rfl
          refine zlload C dL_areGoods_145 rfl ?_
          refine zlconst (v := 0) C dL_areGoods_147 rfl ?_
          refine zlcmp C dL_areGoods_148 ?_
          rw [show lg_cmp (nI (hml K i)).toInt64 0 = 0 from by rw [e10]; exact lcmp_self _]
          refine zif_le_t (tgt := 156) C dL_areGoods_149 (by decide) (by decide) ?_
          refine zconst (v := 0) C dL_areGoods_156 (by decide) ?_
          refine zlload C dL_areGoods_157 rfl ?_
          refine zlconst (v := 0) C dL_areGoods_159 rfl ?_
          refine zlcmp C dL_areGoods_160 ?_
          rw [show lg_cmp (lowK K i (K.1 25) (K.1 25)).toInt64 0 = -1 from by rw [hlo]; decide]
          refine zif_lt_t (tgt := 168) C dL_areGoods_161 (by decide) (by decide) ?_
          refine zconst (v := 0) C dL_areGoods_168 (by decide) ?_
          refine zicmp_ne (tgt := 227) C dL_areGoods_169 (by decide) (fun h169 => by first | exact absurd h169 (by decide) | exact absurd (by decide) h169) (fun h169 => ?_)
          refine zlload C dL_areGoods_172 rfl ?_
          refine zlconst (v := 0) C dL_areGoods_174 rfl ?_
          refine zlcmp C dL_areGoods_175 ?_
          rw [show lg_cmp (lowK K i (K.1 25) (K.1 25)).toInt64 0 = -1 from by rw [hlo]; decide]
          refine zif_lt_t (tgt := 223) C dL_areGoods_176 (by decide) (by decide) ?_
          refine zfor [true, true, false, true, true, false, true, true, true, false, true, false, false, false] rfl ?_
          exact k223 _ _ (by omega) (by omega)
        · have hf31 : f < 2 ^ 31 := by omega
          have q0 : 0 ≤ (lowK K i (K.1 25) (K.1 25)).toInt64.toInt := by rw [hlo, nI64i hf31]; exact Int.natCast_nonneg f
          have q1 : lg_cmp (nI (hml K i)).toInt64 0 = 1 := lg_pos (by rw [nI64i (by omega)]; omega)
          rcases hpar with hh | ⟨hw, h1⟩
          · refine zlload C dL_areGoods_145 rfl ?_
            refine zlconst (v := 0) C dL_areGoods_147 rfl ?_
            refine zlcmp C dL_areGoods_148 ?_
            rw [q1]
            refine zif_le_f (tgt := 156) C dL_areGoods_149 (by decide) (by decide) ?_
            refine zconst (v := 1) C dL_areGoods_152 (by decide) ?_
            refine zgoto (tgt := 157) C dL_areGoods_153 (by decide) ?_
            refine zlload C dL_areGoods_157 rfl ?_
            refine zlconst (v := 0) C dL_areGoods_159 rfl ?_
            refine zlcmp C dL_areGoods_160 ?_
            refine zif_lt_f (tgt := 168) C dL_areGoods_161 (by decide) (lg_nn q0) ?_
            refine zconst (v := 1) C dL_areGoods_164 (by decide) ?_
            refine zgoto (tgt := 169) C dL_areGoods_165 (by decide) ?_
            refine zicmp_ne (tgt := 227) C dL_areGoods_169 (by decide) (fun h169 => by first | exact absurd h169 (by decide) | exact absurd (by decide) h169) (fun h169 => ?_)
            refine zlload C dL_areGoods_172 rfl ?_
            refine zlconst (v := 0) C dL_areGoods_174 rfl ?_
            refine zlcmp C dL_areGoods_175 ?_
            refine zif_lt_f (tgt := 223) C dL_areGoods_176 (by decide) (lg_nn q0) ?_
            refine zaload_n C dL_areGoods_179 rfl ?_
            refine zlload C dL_areGoods_180 rfl ?_
            refine zl2i C dL_areGoods_182 ?_
            rw [Int32.toInt32_toInt64, hlo]
            refine zconst (v := 0) C dL_areGoods_183 (by decide) ?_
            refine zcallVX C (K_ofMarriage _ _ hp hok.1) hy_X7_ofMarriage hv_X7_ofMarriage hl_L_56 hp.main rfl rfl rfl rfl (by decide) (by decide) (by omega) (by omega) rfl (by exact Nat.le_of_ble_eq_true rfl) dL_areGoods_184 (fun E M1 hx => absurd (xof_ok hf (by omega) (by decide)) (exI hx.1)) (fun v M1 hv => ?_)
            obtain ⟨-, rfl, rfl⟩ := hv
            rw [am0 hf31, hst]
            refine zif_ne_f (tgt := 227) C dL_areGoods_187 (by decide) (by decide) ?_
            refine zaload_n C dL_areGoods_190 rfl ?_
            refine zlload C dL_areGoods_191 rfl ?_
            refine zl2i C dL_areGoods_193 ?_
            rw [Int32.toInt32_toInt64]
            refine zconst (v := 1) C dL_areGoods_194 (by decide) ?_
            refine zcallVX C (K_ofMarriage _ _ hp hok.1) hy_X7_ofMarriage hv_X7_ofMarriage hl_L_56 hp.main rfl rfl rfl rfl (by decide) (by decide) (by omega) (by omega) rfl (by exact Nat.le_of_ble_eq_true rfl) dL_areGoods_195 (fun E M1 hx => absurd (xof_ok hf (by omega) (by decide)) (exI hx.1)) (fun v M1 hv => ?_)
            obtain ⟨-, rfl, rfl⟩ := hv
            rw [am1 hf31, hh]
            refine ziload C dL_areGoods_198 rfl ?_
            refine zicmp_eq (tgt := 223) C dL_areGoods_200 (by decide) (fun h200 => ?_) (fun h200 => by first | exact absurd rfl h200 | exact absurd h200 rfl)
            refine zfor [true, true, false, true, true, false, true, true, true, false, true, false, false, false] rfl ?_
            exact k223 _ _ (by omega) (by omega)
          · refine zlload C dL_areGoods_145 rfl ?_
            refine zlconst (v := 0) C dL_areGoods_147 rfl ?_
            refine zlcmp C dL_areGoods_148 ?_
            rw [q1]
            refine zif_le_f (tgt := 156) C dL_areGoods_149 (by decide) (by decide) ?_
            refine zconst (v := 1) C dL_areGoods_152 (by decide) ?_
            refine zgoto (tgt := 157) C dL_areGoods_153 (by decide) ?_
            refine zlload C dL_areGoods_157 rfl ?_
            refine zlconst (v := 0) C dL_areGoods_159 rfl ?_
            refine zlcmp C dL_areGoods_160 ?_
            refine zif_lt_f (tgt := 168) C dL_areGoods_161 (by decide) (lg_nn q0) ?_
            refine zconst (v := 1) C dL_areGoods_164 (by decide) ?_
            refine zgoto (tgt := 169) C dL_areGoods_165 (by decide) ?_
            refine zicmp_ne (tgt := 227) C dL_areGoods_169 (by decide) (fun h169 => by first | exact absurd h169 (by decide) | exact absurd (by decide) h169) (fun h169 => ?_)
            refine zlload C dL_areGoods_172 rfl ?_
            refine zlconst (v := 0) C dL_areGoods_174 rfl ?_
            refine zlcmp C dL_areGoods_175 ?_
            refine zif_lt_f (tgt := 223) C dL_areGoods_176 (by decide) (lg_nn q0) ?_
            refine zaload_n C dL_areGoods_179 rfl ?_
            refine zlload C dL_areGoods_180 rfl ?_
            refine zl2i C dL_areGoods_182 ?_
            rw [Int32.toInt32_toInt64, hlo]
            refine zconst (v := 0) C dL_areGoods_183 (by decide) ?_
            refine zcallVX C (K_ofMarriage _ _ hp hok.1) hy_X7_ofMarriage hv_X7_ofMarriage hl_L_56 hp.main rfl rfl rfl rfl (by decide) (by decide) (by omega) (by omega) rfl (by exact Nat.le_of_ble_eq_true rfl) dL_areGoods_184 (fun E M1 hx => absurd (xof_ok hf (by omega) (by decide)) (exI hx.1)) (fun v M1 hv => ?_)
            obtain ⟨-, rfl, rfl⟩ := hv
            rw [am0 hf31, hst]
            refine zif_ne_f (tgt := 227) C dL_areGoods_187 (by decide) (by decide) ?_
            refine zaload_n C dL_areGoods_190 rfl ?_
            refine zlload C dL_areGoods_191 rfl ?_
            refine zl2i C dL_areGoods_193 ?_
            rw [Int32.toInt32_toInt64]
            refine zconst (v := 1) C dL_areGoods_194 (by decide) ?_
            refine zcallVX C (K_ofMarriage _ _ hp hok.1) hy_X7_ofMarriage hv_X7_ofMarriage hl_L_56 hp.main rfl rfl rfl rfl (by decide) (by decide) (by omega) (by omega) rfl (by exact Nat.le_of_ble_eq_true rfl) dL_areGoods_195 (fun E M1 hx => absurd (xof_ok hf (by omega) (by decide)) (exI hx.1)) (fun v M1 hv => ?_)
            obtain ⟨-, rfl, rfl⟩ := hv
            rw [am1 hf31]
            refine ziload C dL_areGoods_198 rfl ?_
            refine zicmp_eq (tgt := 223) C dL_areGoods_200 (by decide) (fun h200 => ?_) (fun h200 => ?_)
            · refine zfor [true, true, false, true, true, false, true, true, true, false, true, false, false, false] rfl ?_
              exact k223 _ _ (by omega) (by omega)
            · refine zaload_n C dL_areGoods_203 rfl ?_
              refine zlload C dL_areGoods_204 rfl ?_
              refine zl2i C dL_areGoods_206 ?_
              rw [Int32.toInt32_toInt64]
              refine zconst (v := 2) C dL_areGoods_207 (by decide) ?_
              refine zcallVX C (K_ofMarriage _ _ hp hok.1) hy_X7_ofMarriage hv_X7_ofMarriage hl_L_56 hp.main rfl rfl rfl rfl (by decide) (by decide) (by omega) (by omega) rfl (by exact Nat.le_of_ble_eq_true rfl) dL_areGoods_208 (fun E M1 hx => absurd (xof_ok hf (by omega) (by decide)) (exI hx.1)) (fun v M1 hv => ?_)
              obtain ⟨-, rfl, rfl⟩ := hv
              rw [am2 hf31, hw]
              refine ziload C dL_areGoods_211 rfl ?_
              refine zicmp_ne (tgt := 227) C dL_areGoods_213 (by decide) (fun h213 => by first | exact absurd h213 rfl | exact absurd rfl h213) (fun h213 => ?_)
              refine zlload C dL_areGoods_216 rfl ?_
              refine zlconst (v := 1) C dL_areGoods_218 rfl ?_
              refine zlcmp C dL_areGoods_219 ?_
              rw [show lg_cmp (nI (hml K i)).toInt64 1 = 0 from by rw [h1]; decide]
              refine zif_ne_f (tgt := 227) C dL_areGoods_220 (by decide) (by decide) ?_
              refine zfor [true, true, false, true, true, false, true, true, true, false, true, false, false, false] rfl ?_
              exact k223 _ _ (by omega) (by omega)
      refine zaload_n C dL_areGoods_36 rfl ?_
      refine zbipush (v := 21) C dL_areGoods_37 (by decide) ?_
      refine ziload C dL_areGoods_39 rfl ?_
      refine zconst (v := 1) C dL_areGoods_41 (by decide) ?_
      refine zconst (v := 0) C dL_areGoods_42 (by decide) ?_
      refine zconst (v := 0) C dL_areGoods_43 (by decide) ?_
      refine zcallSW (np := 6) C hN (does_21 _ _ _ _ hp hok) hcw_does zinL (by decide) (by decide +kernel) hl_L_118 rfl rfl (by decide) (by decide) (by omega) (by omega) rfl (by exact Nat.le_of_ble_eq_true rfl) dL_areGoods_44 (fun r M1 hr => ?_)
      obtain ⟨rfl, rfl⟩ := hr
      rw [dR21 hi hb13]
      refine zlconst (v := 0) C dL_areGoods_47 rfl ?_
      refine zlcmp C dL_areGoods_48 ?_
      refine zif_lt_f (tgt := 235) C dL_areGoods_49 (by decide) (lg_nn (by split <;> decide)) ?_
      refine ziload_n C dL_areGoods_52 rfl ?_
      refine zif_eq_f (tgt := 235) C dL_areGoods_53 (by decide) (by decide) ?_
      refine zaload_n C dL_areGoods_56 rfl ?_
      refine ziload C dL_areGoods_57 rfl ?_
      refine zconst (v := 0) C dL_areGoods_59 (by decide) ?_
      refine zcallVX C (K_ofPerson _ _ hp hok.1) hy_X7_ofPerson hv_X7_ofPerson hl_L_53 hp.main rfl rfl rfl rfl (by decide) (by decide) (by omega) (by omega) rfl (by exact Nat.le_of_ble_eq_true rfl) dL_areGoods_60 (fun E M1 hx => absurd (xof_ok hi (by omega) (by decide)) (exI hx.1)) (fun v M1 hv => ?_)
      obtain ⟨-, rfl, rfl⟩ := hv
      rw [ap0 hi31]
      refine zlstore (L1 := [_, _, _, _, _, _, _, _, _, _, _, _, _, _]) C dL_areGoods_63 rfl (Nat.le_of_ble_eq_true rfl) ?_
      refine zaload_n C dL_areGoods_65 rfl ?_
      refine ziload C dL_areGoods_66 rfl ?_
      refine zconst (v := 2) C dL_areGoods_68 (by decide) ?_
      refine zcallVX C (K_ofPerson _ _ hp hok.1) hy_X7_ofPerson hv_X7_ofPerson hl_L_53 hp.main rfl rfl rfl rfl (by decide) (by decide) (by omega) (by omega) rfl (by exact Nat.le_of_ble_eq_true rfl) dL_areGoods_69 (fun E M1 hx => absurd (xof_ok hi (by omega) (by decide)) (exI hx.1)) (fun v M1 hv => ?_)
      obtain ⟨-, rfl, rfl⟩ := hv
      rw [ap2 hi31]
      refine zlstore (L1 := [_, _, _, _, _, _, _, _, _, _, _, _, _, _]) C dL_areGoods_72 rfl (Nat.le_of_ble_eq_true rfl) ?_
      refine zaload_n C dL_areGoods_74 rfl ?_
      refine ziload C dL_areGoods_75 rfl ?_
      refine zconst (v := 4) C dL_areGoods_77 (by decide) ?_
      refine zcallVX C (K_ofPerson _ _ hp hok.1) hy_X7_ofPerson hv_X7_ofPerson hl_L_53 hp.main rfl rfl rfl rfl (by decide) (by decide) (by omega) (by omega) rfl (by exact Nat.le_of_ble_eq_true rfl) dL_areGoods_78 (fun E M1 hx => absurd (xof_ok hi (by omega) (by decide)) (exI hx.1)) (fun v M1 hv => ?_)
      obtain ⟨-, rfl, rfl⟩ := hv
      rw [ap4 hi31]
      refine zlstore (L1 := [_, _, _, _, _, _, _, _, _, _, _, _, _, _]) C dL_areGoods_81 rfl (Nat.le_of_ble_eq_true rfl) ?_
      refine zlload C dL_areGoods_83 rfl ?_
      refine zlload C dL_areGoods_85 rfl ?_
      refine zladd C dL_areGoods_87 ?_
      refine zlstore (L1 := [_, _, _, _, _, _, _, _, _, _, _, _, _, _]) C dL_areGoods_88 rfl (Nat.le_of_ble_eq_true rfl) ?_
      refine ziload C dL_areGoods_90 rfl ?_
      refine zlload C dL_areGoods_92 rfl ?_
      refine zl2i C dL_areGoods_94 ?_
      rw [Int32.toInt32_toInt64]
      refine ziadd C dL_areGoods_95 ?_
      rw [nI_add]
      refine zistore (L1 := [_, _, _, _, _, _, _, _, _, _, _, _, _, _]) C dL_areGoods_96 rfl (Nat.le_of_ble_eq_true rfl) ?_
      refine zlload C dL_areGoods_98 rfl ?_
      refine zlconst (v := 0) C dL_areGoods_100 rfl ?_
      refine zlcmp C dL_areGoods_101 ?_
      refine zif_lt_f (tgt := 227) C dL_areGoods_102 (by decide) (lg_nn hg) ?_
      by_cases hlb : (kpe K i).2.2.2.2.1 = true
      · refine zaload_n C dL_areGoods_105 rfl ?_
        refine ziload C dL_areGoods_106 rfl ?_
        refine zconst (v := 1) C dL_areGoods_108 (by decide) ?_
        refine zcallVX C (K_ofPerson _ _ hp hok.1) hy_X7_ofPerson hv_X7_ofPerson hl_L_53 hp.main rfl rfl rfl rfl (by decide) (by decide) (by omega) (by omega) rfl (by exact Nat.le_of_ble_eq_true rfl) dL_areGoods_109 (fun E M1 hx => absurd (xof_ok hi (by omega) (by decide)) (exI hx.1)) (fun v M1 hv => ?_)
        obtain ⟨-, rfl, rfl⟩ := hv
        rw [ap1 hi31, if_pos hlb]
        refine zlconst (v := 1) C dL_areGoods_112 rfl ?_
        refine zlcmp C dL_areGoods_113 ?_
        rw [lcmp_self]
        refine zif_eq_t (tgt := 145) C dL_areGoods_114 (by decide) (by decide) ?_
        exact k145 _ _ (by omega) (by omega)
      · obtain ⟨hg0, hm0, ht0⟩ := hlv.resolve_left hlb
        refine zaload_n C dL_areGoods_105 rfl ?_
        refine ziload C dL_areGoods_106 rfl ?_
        refine zconst (v := 1) C dL_areGoods_108 (by decide) ?_
        refine zcallVX C (K_ofPerson _ _ hp hok.1) hy_X7_ofPerson hv_X7_ofPerson hl_L_53 hp.main rfl rfl rfl rfl (by decide) (by decide) (by omega) (by omega) rfl (by exact Nat.le_of_ble_eq_true rfl) dL_areGoods_109 (fun E M1 hx => absurd (xof_ok hi (by omega) (by decide)) (exI hx.1)) (fun v M1 hv => ?_)
        obtain ⟨-, rfl, rfl⟩ := hv
        rw [ap1 hi31, if_neg hlb]
        refine zlconst (v := 1) C dL_areGoods_112 rfl ?_
        refine zlcmp C dL_areGoods_113 ?_
        rw [show lg_cmp 0 1 = -1 from by decide]
        refine zif_eq_f (tgt := 145) C dL_areGoods_114 (by decide) (by decide) ?_
        refine zlload C dL_areGoods_117 rfl ?_
        refine zlconst (v := 0) C dL_areGoods_119 rfl ?_
        refine zlcmp C dL_areGoods_120 ?_
        rw [show lg_cmp (kpe K i).2.2.2.2.2.1 0 = 0 from by rw [hg0]; exact lcmp_self _]
        refine zif_ne_f (tgt := 227) C dL_areGoods_121 (by decide) (by decide) ?_
        refine zlload C dL_areGoods_124 rfl ?_
        refine zlconst (v := 0) C dL_areGoods_126 rfl ?_
        refine zlcmp C dL_areGoods_127 ?_
        rw [show lg_cmp (nI (hml K i)).toInt64 0 = 0 from by rw [hm0]; decide]
        refine zif_ne_f (tgt := 227) C dL_areGoods_128 (by decide) (by decide) ?_
        refine zaload_n C dL_areGoods_131 rfl ?_
        refine ziload C dL_areGoods_132 rfl ?_
        refine zconst (v := 3) C dL_areGoods_134 (by decide) ?_
        refine zcallVX C (K_ofPerson _ _ hp hok.1) hy_X7_ofPerson hv_X7_ofPerson hl_L_53 hp.main rfl rfl rfl rfl (by decide) (by decide) (by omega) (by omega) rfl (by exact Nat.le_of_ble_eq_true rfl) dL_areGoods_135 (fun E M1 hx => absurd (xof_ok hi (by omega) (by decide)) (exI hx.1)) (fun v M1 hv => ?_)
        obtain ⟨-, rfl, rfl⟩ := hv
        rw [ap3 hi31, ht0]
        refine zldc2 C hk_L_129 dL_areGoods_138 ?_
        refine zlcmp C dL_areGoods_141 ?_
        rw [show (-1 : Int32).toInt64 = (-1 : Int64) from rfl, lcmp_self]
        refine zif_ne_f (tgt := 227) C dL_areGoods_142 (by decide) (by decide) ?_
        exact k145 _ _ (by omega) (by omega)
  refine zaload_n C dL_areGoods_0 rfl ?_
  refine zcallV C (k_all hp hok.1.1.2.2.2.2.1) hy_X7_all hv_X7_all hl_L_126 hp.main rfl rfl rfl rfl (by decide) (by decide) (by omega) (by omega) rfl (by exact Nat.le_of_ble_eq_true rfl) dL_areGoods_1 (fun v M hv => ?_)
  obtain ⟨rfl, rfl⟩ := hv
  refine zlload_n C dL_areGoods_4 rfl ?_
  refine zlcmp C dL_areGoods_5 ?_
  rw [hbr, lcmp_self]
  refine zif_ne_f (tgt := 22) C dL_areGoods_6 (by decide) (by decide) ?_
  refine zaload_n C dL_areGoods_9 rfl ?_
  refine zcallV C (k_treasury hp) hy_X7_treasury hv_X7_treasury hl_L_122 hp.main rfl rfl rfl rfl (by decide) (by decide) (by omega) (by omega) rfl (by exact Nat.le_of_ble_eq_true rfl) dL_areGoods_10 (fun v M hv => ?_)
  obtain ⟨rfl, rfl⟩ := hv
  refine zlconst (v := 0) C dL_areGoods_13 rfl ?_
  refine zlcmp C dL_areGoods_14 ?_
  refine zif_lt_f (tgt := 22) C dL_areGoods_15 (by decide) (lg_nn hcr) ?_
  refine zconst (v := 1) C dL_areGoods_18 (by decide) ?_
  refine zgoto (tgt := 23) C dL_areGoods_19 (by decide) ?_
  refine zistore_n (L1 := [_, _, _, _, _, _, _, _, _, _, _, _, _, _]) C dL_areGoods_23 rfl (Nat.le_of_ble_eq_true rfl) ?_
  refine zaload_n C dL_areGoods_24 rfl ?_
  refine zcallV C (k_treasury hp) hy_X7_treasury hv_X7_treasury hl_L_122 hp.main rfl rfl rfl rfl (by decide) (by decide) (by omega) (by omega) rfl (by exact Nat.le_of_ble_eq_true rfl) dL_areGoods_25 (fun v M hv => ?_)
  obtain ⟨rfl, rfl⟩ := hv
  refine zlstore (L1 := [_, _, _, _, _, _, _, _, _, _, _, _, _, _]) C dL_areGoods_28 rfl (Nat.le_of_ble_eq_true rfl) ?_
  refine zconst (v := 0) C dL_areGoods_30 (by decide) ?_
  refine zistore (L1 := [_, _, _, _, _, _, _, _, _, _, _, _, _, _]) C dL_areGoods_31 rfl (Nat.le_of_ble_eq_true rfl) ?_
  refine zconst (v := 0) C dL_areGoods_33 (by decide) ?_
  refine zistore (L1 := [_, _, _, _, _, _, _, _, _, _, _, _, _, _]) C dL_areGoods_34 rfl (Nat.le_of_ble_eq_true rfl) ?_
  exact per (K.1 13) 0 (by omega) _ _ (by omega) (by omega)
