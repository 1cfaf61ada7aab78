theorem nIj {j : Nat} (h : j < 3) : nI (j + 1) ≠ 0 := by rcases (by omega : j = 0 ∨ j = 1 ∨ j = 2) with rfl | rfl | rfl <;> decide
theorem xc0 {j c : Nat} (h : ([2, 3] : List Nat)[j]? = some c) : ¬ (0 : Nat) = c := by
  rcases j with _ | _ | j <;> simp at h <;> omega
theorem clrK1 {K : zK} : ∀ n, (clrK K n).1 = K.1
  | 0 => rfl
  | n + 1 => clrK1 n
theorem ledK1 {K : zK} {f : Int32} {s : Nat} : ∀ n, (ledK K f s n).1 = K.1
  | 0 => rfl
  | n + 1 => by
    unfold ledK
    split
    · exact ledK1 n
    · exact ledK1 n
theorem dueK1 {K : zK} {i : Nat} : (dueK K i).1 = K.1 := by
  unfold dueK
  split
  · unfold ldcK
    rw [ledK1]
    exact clrK1 (K := du2 K i) _
  · rfl
theorem tfdK1 {K : zK} : ∀ n, (tfdK K n).1 = K.1
  | 0 => rfl
  | n + 1 => by rw [tfdK, dueK1, tfdK1 n]
theorem psK13 (K : zK) : ∀ d, (psK K d).1 13 = K.1 13
  | 0 => rfl
  | d + 1 => by
    rw [psK, dyK, tfdK1]
    exact psK13 K d
set_option maxRecDepth 100000 in
set_option maxHeartbeats 2000000 in
theorem lc_community {g : zGh} {X : zX} (C : zC g X RL cL_law_ 8 12 454 711863 6960515) (hN : zNc X.1.2.2.2) {b Ls n : Nat} {xs : Nat → Int32} (hX : va_X b Ls xs X.1.2.2.2 X.1.2.2.2.heap) (hbl : b < X.1.2.2.2.heap.size) (hbA : ¬ zA g b) (hn : 5 * n + 5 ≤ Ls) (hLs : Ls ≤ 2560) {mo : Nat} {mad : Nat → Nat} {o x : Nat} {K : zK} {S : zS} {f : Nat → Int64} {ad : zg → Nat} {M : zM} {k m : Nat} (hL : zLw g mo mad o x K S f ad M) (hok : zOK K S) (T : Nat → zK → zS → Prop) (hs : lcal T n K (x_community K) [3] (newC K (nI (K.1 1))) (o_community S).1 ((nI (K.1 2)) = (o_community S).2)) (hk : k ≤ 100 + 100 * n + cF K) (hm : m ≤ 50000 + 6000 * n + 4 * cF K) (kk : ∀ M1 k1 m1, zLI T g mo mad o x (n + 1) M1 k1 m1 → zG g X M1 k1 m1 2026 [some (.ref b), some (.ref x), some (.ref mo), some (.ref o), some (.int (nI (5 * n))), none, none, none] []) : zG g X M k m 160 [some (.ref b), some (.ref x), some (.ref mo), some (.ref o), some (.int (nI (5 * n))), none, none, none] [] := by
  have hc := hok.1.2.2.2.2.2
  refine zaload_n C dL_law__160 rfl ?_
  refine zaload_n C dL_law__161 rfl ?_
  refine zcallSW (np := 2) C hN (v_community  hL hok) hcw_community zini (by decide) (by decide +kernel) hl_L_106 rfl rfl (by decide) (by decide) (by omega) (by omega) rfl (by exact Nat.le_of_ble_eq_true rfl) dL_law__162 (fun w M1 hp => ?_)
  rcases hp with ⟨rfl, hx0, f2, ad1, hL, hf⟩ | ⟨j, c, hj, hj3, rfl, hxc, rfl⟩
  · obtain ⟨hS0, hev, hT1, hcF⟩ := hs.1 hx0
    refine zistore (L1 := [_, _, _, _, _, _, _, _]) C dL_law__165 rfl (Nat.le_of_ble_eq_true rfl) ?_
    refine zaload_n C dL_law__167 rfl ?_
    refine zcallV C (hL.call (m_community hok.2.1)) hy_X8_community hv_X8_community hl_L_111 hL.atmo rfl rfl rfl rfl (by decide) (by decide) (by omega) (by omega) rfl (by exact Nat.le_of_ble_eq_true rfl) dL_law__168 (fun v M hp => ?_)
    obtain ⟨S1, hv, hL⟩ := hp
    have e1 : S1 = (o_community S).1 := congrArg Prod.fst hv
    have e2 : v = (o_community S).2 := congrArg Prod.snd hv
    clear hv
    subst e1
    subst e2
    refine zistore (L1 := [_, _, _, _, _, _, _, _]) C dL_law__171 rfl (Nat.le_of_ble_eq_true rfl) ?_
    refine zaload_n C dL_law__173 rfl ?_
    refine zcallV C (hL.call m_thrown) hy_X8_thrown hv_X8_thrown hl_L_112 hL.atmo rfl rfl rfl rfl (by decide) (by decide) (by omega) (by omega) rfl (by exact Nat.le_of_ble_eq_true rfl) dL_law__174 (fun vt M hp => ?_)
    obtain ⟨S2, ⟨rfl, rfl⟩, hL⟩ := hp
    rw [hS0]
    refine ziload C dL_law__177 rfl ?_
    refine zicmp_eq (tgt := 184) C dL_law__179 (by decide) (fun _ => ?_) (fun h => absurd rfl h)
    refine ziload C dL_law__184 rfl ?_
    refine zif_ne_f (tgt := 201) C dL_law__186 (by decide) (by decide) ?_
    refine zaload_n C dL_law__189 rfl ?_
    refine zconst (v := 0) C dL_law__190 (by decide) ?_
    refine zrjald (i0 := 0) C hL.atout rfl (by decide) (by decide) dL_law__191 ?_
    refine ziload C dL_law__192 rfl ?_
    refine zi2l C dL_law__194 ?_
    refine zlcmp C dL_law__195 ?_
    refine zif_eq_t (tgt := 201) C dL_law__196 (by decide) ((lg_cmp_eq _ _).mpr (hf.trans (congrArg Int32.toInt64 hev))) ?_
    refine zgoto (tgt := 2026) C dL_law__201 (by decide) ?_
    refine zfor [true, true, true, true, true, false, false, false] rfl ?_
    exact kk _ _ _ ⟨_, _, f2, ad1, hL, hT1, by omega, by omega⟩
  · obtain ⟨hS0, hT1⟩ := hs.2 j c hj hxc
    refine zistore (L1 := [_, _, _, _, _, _, _, _]) C dL_law__165 rfl (Nat.le_of_ble_eq_true rfl) ?_
    refine zaload_n C dL_law__167 rfl ?_
    refine zcallV C (hL.call (m_community hok.2.1)) hy_X8_community hv_X8_community hl_L_111 hL.atmo rfl rfl rfl rfl (by decide) (by decide) (by omega) (by omega) rfl (by exact Nat.le_of_ble_eq_true rfl) dL_law__168 (fun v M hp => ?_)
    obtain ⟨S1, hv, hL⟩ := hp
    have e1 : S1 = (o_community S).1 := congrArg Prod.fst hv
    have e2 : v = (o_community S).2 := congrArg Prod.snd hv
    clear hv
    subst e1
    subst e2
    refine zistore (L1 := [_, _, _, _, _, _, _, _]) C dL_law__171 rfl (Nat.le_of_ble_eq_true rfl) ?_
    refine zaload_n C dL_law__173 rfl ?_
    refine zcallV C (hL.call m_thrown) hy_X8_thrown hv_X8_thrown hl_L_112 hL.atmo rfl rfl rfl rfl (by decide) (by decide) (by omega) (by omega) rfl (by exact Nat.le_of_ble_eq_true rfl) dL_law__174 (fun vt M hp => ?_)
    obtain ⟨S2, ⟨rfl, rfl⟩, hL⟩ := hp
    rw [hS0]
    refine ziload C dL_law__177 rfl ?_
    refine zicmp_eq (tgt := 184) C dL_law__179 (by decide) (fun _ => ?_) (fun h => absurd rfl h)
    refine ziload C dL_law__184 rfl ?_
    refine zif_ne_t (tgt := 201) C dL_law__186 (by decide) (nIj hj3) ?_
    refine zgoto (tgt := 2026) C dL_law__201 (by decide) ?_
    refine zfor [true, true, true, true, true, false, false, false] rfl ?_
    exact kk _ _ _ ⟨K, _, f, ad, hL, hT1, by omega, by omega⟩
set_option maxRecDepth 100000 in
set_option maxHeartbeats 2000000 in
theorem lc_recognise {g : zGh} {X : zX} (C : zC g X RL cL_law_ 8 12 454 711863 6960515) (hN : zNc X.1.2.2.2) {b Ls n : Nat} {xs : Nat → Int32} (hX : va_X b Ls xs X.1.2.2.2 X.1.2.2.2.heap) (hbl : b < X.1.2.2.2.heap.size) (hbA : ¬ zA g b) (hn : 5 * n + 5 ≤ Ls) (hLs : Ls ≤ 2560) {mo : Nat} {mad : Nat → Nat} {o x : Nat} {K : zK} {S : zS} {f : Nat → Int64} {ad : zg → Nat} {M : zM} {k m : Nat} (hL : zLw g mo mad o x K S f ad M) (hok : zOK K S) (T : Nat → zK → zS → Prop) (hs : ∀ (a0 : Int32) (a1 : Bool), lcal T n K (x_recognise K a0) [1] (k_recognise K a0 a1) (o_recognise S a0 a1).1 (b2i (a_recognise K a0) = (o_recognise S a0 a1).2)) (hk : k ≤ 100 + 100 * n + cF K) (hm : m ≤ 50000 + 6000 * n + 4 * cF K) (kk : ∀ M1 k1 m1, zLI T g mo mad o x (n + 1) M1 k1 m1 → zG g X M1 k1 m1 2026 [some (.ref b), some (.ref x), some (.ref mo), some (.ref o), some (.int (nI (5 * n))), none, none, none] []) : zG g X M k m 204 [some (.ref b), some (.ref x), some (.ref mo), some (.ref o), some (.int (nI (5 * n))), none, none, none] [] := by
  have hc := hok.1.2.2.2.2.2
  refine zaload_n C dL_law__204 rfl ?_
  refine zaload_n C dL_law__205 rfl ?_
  refine ziload C dL_law__206 rfl ?_
  refine zconst (v := 1) C dL_law__208 (by decide) ?_
  refine ziadd C dL_law__209 ?_
  refine zsldG (i0 := 5 * n + 1) C hX hbl hbA (nI_add (5 * n) 1) (by omega) (by omega) dL_law__210 ?_
  refine zaload_n C dL_law__211 rfl ?_
  refine ziload C dL_law__212 rfl ?_
  refine zconst (v := 2) C dL_law__214 (by decide) ?_
  refine ziadd C dL_law__215 ?_
  refine zsldG (i0 := 5 * n + 2) C hX hbl hbA (nI_add (5 * n) 2) (by omega) (by omega) dL_law__216 ?_
  refine zif_eq (tgt := 224) C dL_law__217 (by decide) (fun hx2 => ?_) (fun hx2 => ?_)
  · refine zconst (v := 0) C dL_law__224 (by decide) ?_
    refine zaload_n C dL_law__225 rfl ?_
    refine zcallSW (np := 4) C hN (v_recognise (xs (5 * n + 1)) false hL hok) hcw_recognise zini (by decide) (by decide +kernel) hl_L_115 rfl rfl (by decide) (by decide) (by omega) (by omega) rfl (by exact Nat.le_of_ble_eq_true rfl) dL_law__226 (fun w M1 hp => ?_)
    rcases hp with ⟨rfl, hx0, f2, ad1, hL, hf⟩ | ⟨j, c, hj, hj3, rfl, hxc, rfl⟩
    · obtain ⟨hS0, hev, hT1, hcF⟩ := (hs (xs (5 * n + 1)) false).1 hx0
      refine zistore (L1 := [_, _, _, _, _, _, _, _]) C dL_law__229 rfl (Nat.le_of_ble_eq_true rfl) ?_
      refine zaload_n C dL_law__231 rfl ?_
      refine zaload_n C dL_law__232 rfl ?_
      refine ziload C dL_law__233 rfl ?_
      refine zconst (v := 1) C dL_law__235 (by decide) ?_
      refine ziadd C dL_law__236 ?_
      refine zsldG (i0 := 5 * n + 1) C hX hbl hbA (nI_add (5 * n) 1) (by omega) (by omega) dL_law__237 ?_
      refine zaload_n C dL_law__238 rfl ?_
      refine ziload C dL_law__239 rfl ?_
      refine zconst (v := 2) C dL_law__241 (by decide) ?_
      refine ziadd C dL_law__242 ?_
      refine zsldG (i0 := 5 * n + 2) C hX hbl hbA (nI_add (5 * n) 2) (by omega) (by omega) dL_law__243 ?_
      refine zif_eq_t (tgt := 251) C dL_law__244 (by decide) hx2 ?_
      refine zconst (v := 0) C dL_law__251 (by decide) ?_
      refine zcallV C (hL.call (m_recognise (xs (5 * n + 1)) false hok.2.1)) hy_X8_recognise hv_X8_recognise hl_L_118 hL.atmo rfl rfl rfl rfl (by decide) (by decide) (by omega) (by omega) rfl (by exact Nat.le_of_ble_eq_true rfl) dL_law__252 (fun v M hp => ?_)
      obtain ⟨S1, hv, hL⟩ := hp
      have e1 : S1 = (o_recognise S (xs (5 * n + 1)) false).1 := congrArg Prod.fst hv
      have e2 : v = (o_recognise S (xs (5 * n + 1)) false).2 := congrArg Prod.snd hv
      clear hv
      subst e1
      subst e2
      refine zistore (L1 := [_, _, _, _, _, _, _, _]) C dL_law__255 rfl (Nat.le_of_ble_eq_true rfl) ?_
      refine zaload_n C dL_law__257 rfl ?_
      refine zcallV C (hL.call m_thrown) hy_X8_thrown hv_X8_thrown hl_L_112 hL.atmo rfl rfl rfl rfl (by decide) (by decide) (by omega) (by omega) rfl (by exact Nat.le_of_ble_eq_true rfl) dL_law__258 (fun vt M hp => ?_)
      obtain ⟨S2, ⟨rfl, rfl⟩, hL⟩ := hp
      rw [hS0]
      refine ziload C dL_law__261 rfl ?_
      refine zicmp_eq (tgt := 268) C dL_law__263 (by decide) (fun _ => ?_) (fun h => absurd rfl h)
      refine ziload C dL_law__268 rfl ?_
      refine zif_ne_f (tgt := 292) C dL_law__270 (by decide) (by decide) ?_
      refine zaload_n C dL_law__273 rfl ?_
      refine zconst (v := 0) C dL_law__274 (by decide) ?_
      refine zrjald (i0 := 0) C hL.atout rfl (by decide) (by decide) dL_law__275 ?_
      refine ziload C dL_law__276 rfl ?_
      refine zif_eq (tgt := 285) C dL_law__278 (by decide) (fun hvv => ?_) (fun hvv => ?_)
      · refine zlconst (v := 0) C dL_law__285 rfl ?_
        refine zlcmp C dL_law__286 ?_
        refine zif_eq_t (tgt := 292) C dL_law__287 (by decide) ((lg_cmp_eq _ _).mpr (hf.trans (if_pos (hev.trans hvv)))) ?_
        refine zgoto (tgt := 2026) C dL_law__292 (by decide) ?_
        refine zfor [true, true, true, true, true, false, false, false] rfl ?_
        exact kk _ _ _ ⟨_, _, f2, ad1, hL, hT1, by omega, by omega⟩
      · refine zlconst (v := 1) C dL_law__281 rfl ?_
        refine zgoto (tgt := 286) C dL_law__282 (by decide) ?_
        refine zlcmp C dL_law__286 ?_
        refine zif_eq_t (tgt := 292) C dL_law__287 (by decide) ((lg_cmp_eq _ _).mpr (hf.trans (if_neg (fun h => hvv (hev.symm.trans h))))) ?_
        refine zgoto (tgt := 2026) C dL_law__292 (by decide) ?_
        refine zfor [true, true, true, true, true, false, false, false] rfl ?_
        exact kk _ _ _ ⟨_, _, f2, ad1, hL, hT1, by omega, by omega⟩
    · obtain ⟨hS0, hT1⟩ := (hs (xs (5 * n + 1)) false).2 j c hj hxc
      refine zistore (L1 := [_, _, _, _, _, _, _, _]) C dL_law__229 rfl (Nat.le_of_ble_eq_true rfl) ?_
      refine zaload_n C dL_law__231 rfl ?_
      refine zaload_n C dL_law__232 rfl ?_
      refine ziload C dL_law__233 rfl ?_
      refine zconst (v := 1) C dL_law__235 (by decide) ?_
      refine ziadd C dL_law__236 ?_
      refine zsldG (i0 := 5 * n + 1) C hX hbl hbA (nI_add (5 * n) 1) (by omega) (by omega) dL_law__237 ?_
      refine zaload_n C dL_law__238 rfl ?_
      refine ziload C dL_law__239 rfl ?_
      refine zconst (v := 2) C dL_law__241 (by decide) ?_
      refine ziadd C dL_law__242 ?_
      refine zsldG (i0 := 5 * n + 2) C hX hbl hbA (nI_add (5 * n) 2) (by omega) (by omega) dL_law__243 ?_
      refine zif_eq_t (tgt := 251) C dL_law__244 (by decide) hx2 ?_
      refine zconst (v := 0) C dL_law__251 (by decide) ?_
      refine zcallV C (hL.call (m_recognise (xs (5 * n + 1)) false hok.2.1)) hy_X8_recognise hv_X8_recognise hl_L_118 hL.atmo rfl rfl rfl rfl (by decide) (by decide) (by omega) (by omega) rfl (by exact Nat.le_of_ble_eq_true rfl) dL_law__252 (fun v M hp => ?_)
      obtain ⟨S1, hv, hL⟩ := hp
      have e1 : S1 = (o_recognise S (xs (5 * n + 1)) false).1 := congrArg Prod.fst hv
      have e2 : v = (o_recognise S (xs (5 * n + 1)) false).2 := congrArg Prod.snd hv
      clear hv
      subst e1
      subst e2
      refine zistore (L1 := [_, _, _, _, _, _, _, _]) C dL_law__255 rfl (Nat.le_of_ble_eq_true rfl) ?_
      refine zaload_n C dL_law__257 rfl ?_
      refine zcallV C (hL.call m_thrown) hy_X8_thrown hv_X8_thrown hl_L_112 hL.atmo rfl rfl rfl rfl (by decide) (by decide) (by omega) (by omega) rfl (by exact Nat.le_of_ble_eq_true rfl) dL_law__258 (fun vt M hp => ?_)
      obtain ⟨S2, ⟨rfl, rfl⟩, hL⟩ := hp
      rw [hS0]
      refine ziload C dL_law__261 rfl ?_
      refine zicmp_eq (tgt := 268) C dL_law__263 (by decide) (fun _ => ?_) (fun h => absurd rfl h)
      refine ziload C dL_law__268 rfl ?_
      refine zif_ne_t (tgt := 292) C dL_law__270 (by decide) (nIj hj3) ?_
      refine zgoto (tgt := 2026) C dL_law__292 (by decide) ?_
      refine zfor [true, true, true, true, true, false, false, false] rfl ?_
      exact kk _ _ _ ⟨K, _, f, ad, hL, hT1, by omega, by omega⟩
  · refine zconst (v := 1) C dL_law__220 (by decide) ?_
    refine zgoto (tgt := 225) C dL_law__221 (by decide) ?_
    refine zaload_n C dL_law__225 rfl ?_
    refine zcallSW (np := 4) C hN (v_recognise (xs (5 * n + 1)) true hL hok) hcw_recognise zini (by decide) (by decide +kernel) hl_L_115 rfl rfl (by decide) (by decide) (by omega) (by omega) rfl (by exact Nat.le_of_ble_eq_true rfl) dL_law__226 (fun w M1 hp => ?_)
    rcases hp with ⟨rfl, hx0, f2, ad1, hL, hf⟩ | ⟨j, c, hj, hj3, rfl, hxc, rfl⟩
    · obtain ⟨hS0, hev, hT1, hcF⟩ := (hs (xs (5 * n + 1)) true).1 hx0
      refine zistore (L1 := [_, _, _, _, _, _, _, _]) C dL_law__229 rfl (Nat.le_of_ble_eq_true rfl) ?_
      refine zaload_n C dL_law__231 rfl ?_
      refine zaload_n C dL_law__232 rfl ?_
      refine ziload C dL_law__233 rfl ?_
      refine zconst (v := 1) C dL_law__235 (by decide) ?_
      refine ziadd C dL_law__236 ?_
      refine zsldG (i0 := 5 * n + 1) C hX hbl hbA (nI_add (5 * n) 1) (by omega) (by omega) dL_law__237 ?_
      refine zaload_n C dL_law__238 rfl ?_
      refine ziload C dL_law__239 rfl ?_
      refine zconst (v := 2) C dL_law__241 (by decide) ?_
      refine ziadd C dL_law__242 ?_
      refine zsldG (i0 := 5 * n + 2) C hX hbl hbA (nI_add (5 * n) 2) (by omega) (by omega) dL_law__243 ?_
      refine zif_eq_f (tgt := 251) C dL_law__244 (by decide) hx2 ?_
      refine zconst (v := 1) C dL_law__247 (by decide) ?_
      refine zgoto (tgt := 252) C dL_law__248 (by decide) ?_
      refine zcallV C (hL.call (m_recognise (xs (5 * n + 1)) true hok.2.1)) hy_X8_recognise hv_X8_recognise hl_L_118 hL.atmo rfl rfl rfl rfl (by decide) (by decide) (by omega) (by omega) rfl (by exact Nat.le_of_ble_eq_true rfl) dL_law__252 (fun v M hp => ?_)
      obtain ⟨S1, hv, hL⟩ := hp
      have e1 : S1 = (o_recognise S (xs (5 * n + 1)) true).1 := congrArg Prod.fst hv
      have e2 : v = (o_recognise S (xs (5 * n + 1)) true).2 := congrArg Prod.snd hv
      clear hv
      subst e1
      subst e2
      refine zistore (L1 := [_, _, _, _, _, _, _, _]) C dL_law__255 rfl (Nat.le_of_ble_eq_true rfl) ?_
      refine zaload_n C dL_law__257 rfl ?_
      refine zcallV C (hL.call m_thrown) hy_X8_thrown hv_X8_thrown hl_L_112 hL.atmo rfl rfl rfl rfl (by decide) (by decide) (by omega) (by omega) rfl (by exact Nat.le_of_ble_eq_true rfl) dL_law__258 (fun vt M hp => ?_)
      obtain ⟨S2, ⟨rfl, rfl⟩, hL⟩ := hp
      rw [hS0]
      refine ziload C dL_law__261 rfl ?_
      refine zicmp_eq (tgt := 268) C dL_law__263 (by decide) (fun _ => ?_) (fun h => absurd rfl h)
      refine ziload C dL_law__268 rfl ?_
      refine zif_ne_f (tgt := 292) C dL_law__270 (by decide) (by decide) ?_
      refine zaload_n C dL_law__273 rfl ?_
      refine zconst (v := 0) C dL_law__274 (by decide) ?_
      refine zrjald (i0 := 0) C hL.atout rfl (by decide) (by decide) dL_law__275 ?_
      refine ziload C dL_law__276 rfl ?_
      refine zif_eq (tgt := 285) C dL_law__278 (by decide) (fun hvv => ?_) (fun hvv => ?_)
      · refine zlconst (v := 0) C dL_law__285 rfl ?_
        refine zlcmp C dL_law__286 ?_
        refine zif_eq_t (tgt := 292) C dL_law__287 (by decide) ((lg_cmp_eq _ _).mpr (hf.trans (if_pos (hev.trans hvv)))) ?_
        refine zgoto (tgt := 2026) C dL_law__292 (by decide) ?_
        refine zfor [true, true, true, true, true, false, false, false] rfl ?_
        exact kk _ _ _ ⟨_, _, f2, ad1, hL, hT1, by omega, by omega⟩
      · refine zlconst (v := 1) C dL_law__281 rfl ?_
        refine zgoto (tgt := 286) C dL_law__282 (by decide) ?_
        refine zlcmp C dL_law__286 ?_
        refine zif_eq_t (tgt := 292) C dL_law__287 (by decide) ((lg_cmp_eq _ _).mpr (hf.trans (if_neg (fun h => hvv (hev.symm.trans h))))) ?_
        refine zgoto (tgt := 2026) C dL_law__292 (by decide) ?_
        refine zfor [true, true, true, true, true, false, false, false] rfl ?_
        exact kk _ _ _ ⟨_, _, f2, ad1, hL, hT1, by omega, by omega⟩
    · obtain ⟨hS0, hT1⟩ := (hs (xs (5 * n + 1)) true).2 j c hj hxc
      refine zistore (L1 := [_, _, _, _, _, _, _, _]) C dL_law__229 rfl (Nat.le_of_ble_eq_true rfl) ?_
      refine zaload_n C dL_law__231 rfl ?_
      refine zaload_n C dL_law__232 rfl ?_
      refine ziload C dL_law__233 rfl ?_
      refine zconst (v := 1) C dL_law__235 (by decide) ?_
      refine ziadd C dL_law__236 ?_
      refine zsldG (i0 := 5 * n + 1) C hX hbl hbA (nI_add (5 * n) 1) (by omega) (by omega) dL_law__237 ?_
      refine zaload_n C dL_law__238 rfl ?_
      refine ziload C dL_law__239 rfl ?_
      refine zconst (v := 2) C dL_law__241 (by decide) ?_
      refine ziadd C dL_law__242 ?_
      refine zsldG (i0 := 5 * n + 2) C hX hbl hbA (nI_add (5 * n) 2) (by omega) (by omega) dL_law__243 ?_
      refine zif_eq_f (tgt := 251) C dL_law__244 (by decide) hx2 ?_
      refine zconst (v := 1) C dL_law__247 (by decide) ?_
      refine zgoto (tgt := 252) C dL_law__248 (by decide) ?_
      refine zcallV C (hL.call (m_recognise (xs (5 * n + 1)) true hok.2.1)) hy_X8_recognise hv_X8_recognise hl_L_118 hL.atmo rfl rfl rfl rfl (by decide) (by decide) (by omega) (by omega) rfl (by exact Nat.le_of_ble_eq_true rfl) dL_law__252 (fun v M hp => ?_)
      obtain ⟨S1, hv, hL⟩ := hp
      have e1 : S1 = (o_recognise S (xs (5 * n + 1)) true).1 := congrArg Prod.fst hv
      have e2 : v = (o_recognise S (xs (5 * n + 1)) true).2 := congrArg Prod.snd hv
      clear hv
      subst e1
      subst e2
      refine zistore (L1 := [_, _, _, _, _, _, _, _]) C dL_law__255 rfl (Nat.le_of_ble_eq_true rfl) ?_
      refine zaload_n C dL_law__257 rfl ?_
      refine zcallV C (hL.call m_thrown) hy_X8_thrown hv_X8_thrown hl_L_112 hL.atmo rfl rfl rfl rfl (by decide) (by decide) (by omega) (by omega) rfl (by exact Nat.le_of_ble_eq_true rfl) dL_law__258 (fun vt M hp => ?_)
      obtain ⟨S2, ⟨rfl, rfl⟩, hL⟩ := hp
      rw [hS0]
      refine ziload C dL_law__261 rfl ?_
      refine zicmp_eq (tgt := 268) C dL_law__263 (by decide) (fun _ => ?_) (fun h => absurd rfl h)
      refine ziload C dL_law__268 rfl ?_
      refine zif_ne_t (tgt := 292) C dL_law__270 (by decide) (nIj hj3) ?_
      refine zgoto (tgt := 2026) C dL_law__292 (by decide) ?_
      refine zfor [true, true, true, true, true, false, false, false] rfl ?_
      exact kk _ _ _ ⟨K, _, f, ad, hL, hT1, by omega, by omega⟩
set_option maxRecDepth 100000 in
set_option maxHeartbeats 2000000 in
theorem lc_decree {g : zGh} {X : zX} (C : zC g X RL cL_law_ 8 12 454 711863 6960515) (hN : zNc X.1.2.2.2) {b Ls n : Nat} {xs : Nat → Int32} (hX : va_X b Ls xs X.1.2.2.2 X.1.2.2.2.heap) (hbl : b < X.1.2.2.2.heap.size) (hbA : ¬ zA g b) (hn : 5 * n + 5 ≤ Ls) (hLs : Ls ≤ 2560) {mo : Nat} {mad : Nat → Nat} {o x : Nat} {K : zK} {S : zS} {f : Nat → Int64} {ad : zg → Nat} {M : zM} {k m : Nat} (hL : zLw g mo mad o x K S f ad M) (hok : zOK K S) (T : Nat → zK → zS → Prop) (hs : ∀ (a0 : Int32) (a1 : Int32) (a2 : Int32), lcal T n K (x_decree K a0 a1 a2) [1, 2, 3] (k_decree K a0 a1 a2) (o_decree S a0 a1 a2).1 ((lawK K (lixN a0) a1.toNatClampNeg (nI (K.1 1))) = (o_decree S a0 a1 a2).2)) (hk : k ≤ 100 + 100 * n + cF K) (hm : m ≤ 50000 + 6000 * n + 4 * cF K) (kk : ∀ M1 k1 m1, zLI T g mo mad o x (n + 1) M1 k1 m1 → zG g X M1 k1 m1 2026 [some (.ref b), some (.ref x), some (.ref mo), some (.ref o), some (.int (nI (5 * n))), none, none, none] []) : zG g X M k m 295 [some (.ref b), some (.ref x), some (.ref mo), some (.ref o), some (.int (nI (5 * n))), none, none, none] [] := by
  have hc := hok.1.2.2.2.2.2
  refine zaload_n C dL_law__295 rfl ?_
  refine zaload_n C dL_law__296 rfl ?_
  refine ziload C dL_law__297 rfl ?_
  refine zconst (v := 1) C dL_law__299 (by decide) ?_
  refine ziadd C dL_law__300 ?_
  refine zsldG (i0 := 5 * n + 1) C hX hbl hbA (nI_add (5 * n) 1) (by omega) (by omega) dL_law__301 ?_
  refine zaload_n C dL_law__302 rfl ?_
  refine ziload C dL_law__303 rfl ?_
  refine zconst (v := 2) C dL_law__305 (by decide) ?_
  refine ziadd C dL_law__306 ?_
  refine zsldG (i0 := 5 * n + 2) C hX hbl hbA (nI_add (5 * n) 2) (by omega) (by omega) dL_law__307 ?_
  refine zaload_n C dL_law__308 rfl ?_
  refine ziload C dL_law__309 rfl ?_
  refine zconst (v := 3) C dL_law__311 (by decide) ?_
  refine ziadd C dL_law__312 ?_
  refine zsldG (i0 := 5 * n + 3) C hX hbl hbA (nI_add (5 * n) 3) (by omega) (by omega) dL_law__313 ?_
  refine zaload_n C dL_law__314 rfl ?_
  refine zcallSW (np := 5) C hN (v_decree (xs (5 * n + 1)) (xs (5 * n + 2)) (xs (5 * n + 3)) hL hok) hcw_decree zini (by decide) (by decide +kernel) hl_L_119 rfl rfl (by decide) (by decide) (by omega) (by omega) rfl (by exact Nat.le_of_ble_eq_true rfl) dL_law__315 (fun w M1 hp => ?_)
  rcases hp with ⟨rfl, hx0, f2, ad1, hL, hf⟩ | ⟨j, c, hj, hj3, rfl, hxc, rfl⟩
  · obtain ⟨hS0, hev, hT1, hcF⟩ := (hs (xs (5 * n + 1)) (xs (5 * n + 2)) (xs (5 * n + 3))).1 hx0
    refine zistore (L1 := [_, _, _, _, _, _, _, _]) C dL_law__318 rfl (Nat.le_of_ble_eq_true rfl) ?_
    refine zaload_n C dL_law__320 rfl ?_
    refine zaload_n C dL_law__321 rfl ?_
    refine ziload C dL_law__322 rfl ?_
    refine zconst (v := 1) C dL_law__324 (by decide) ?_
    refine ziadd C dL_law__325 ?_
    refine zsldG (i0 := 5 * n + 1) C hX hbl hbA (nI_add (5 * n) 1) (by omega) (by omega) dL_law__326 ?_
    refine zaload_n C dL_law__327 rfl ?_
    refine ziload C dL_law__328 rfl ?_
    refine zconst (v := 2) C dL_law__330 (by decide) ?_
    refine ziadd C dL_law__331 ?_
    refine zsldG (i0 := 5 * n + 2) C hX hbl hbA (nI_add (5 * n) 2) (by omega) (by omega) dL_law__332 ?_
    refine zaload_n C dL_law__333 rfl ?_
    refine ziload C dL_law__334 rfl ?_
    refine zconst (v := 3) C dL_law__336 (by decide) ?_
    refine ziadd C dL_law__337 ?_
    refine zsldG (i0 := 5 * n + 3) C hX hbl hbA (nI_add (5 * n) 3) (by omega) (by omega) dL_law__338 ?_
    refine zcallV C (hL.call (m_decree (xs (5 * n + 1)) (xs (5 * n + 2)) (xs (5 * n + 3)) hok.2.1)) hy_X8_decree hv_X8_decree hl_L_122 hL.atmo rfl rfl rfl rfl (by decide) (by decide) (by omega) (by omega) rfl (by exact Nat.le_of_ble_eq_true rfl) dL_law__339 (fun v M hp => ?_)
    obtain ⟨S1, hv, hL⟩ := hp
    have e1 : S1 = (o_decree S (xs (5 * n + 1)) (xs (5 * n + 2)) (xs (5 * n + 3))).1 := congrArg Prod.fst hv
    have e2 : v = (o_decree S (xs (5 * n + 1)) (xs (5 * n + 2)) (xs (5 * n + 3))).2 := congrArg Prod.snd hv
    clear hv
    subst e1
    subst e2
    refine zistore (L1 := [_, _, _, _, _, _, _, _]) C dL_law__342 rfl (Nat.le_of_ble_eq_true rfl) ?_
    refine zaload_n C dL_law__344 rfl ?_
    refine zcallV C (hL.call m_thrown) hy_X8_thrown hv_X8_thrown hl_L_112 hL.atmo rfl rfl rfl rfl (by decide) (by decide) (by omega) (by omega) rfl (by exact Nat.le_of_ble_eq_true rfl) dL_law__345 (fun vt M hp => ?_)
    obtain ⟨S2, ⟨rfl, rfl⟩, hL⟩ := hp
    rw [hS0]
    refine ziload C dL_law__348 rfl ?_
    refine zicmp_eq (tgt := 355) C dL_law__350 (by decide) (fun _ => ?_) (fun h => absurd rfl h)
    refine ziload C dL_law__355 rfl ?_
    refine zif_ne_f (tgt := 372) C dL_law__357 (by decide) (by decide) ?_
    refine zaload_n C dL_law__360 rfl ?_
    refine zconst (v := 0) C dL_law__361 (by decide) ?_
    refine zrjald (i0 := 0) C hL.atout rfl (by decide) (by decide) dL_law__362 ?_
    refine ziload C dL_law__363 rfl ?_
    refine zi2l C dL_law__365 ?_
    refine zlcmp C dL_law__366 ?_
    refine zif_eq_t (tgt := 372) C dL_law__367 (by decide) ((lg_cmp_eq _ _).mpr (hf.trans (congrArg Int32.toInt64 hev))) ?_
    refine zgoto (tgt := 2026) C dL_law__372 (by decide) ?_
    refine zfor [true, true, true, true, true, false, false, false] rfl ?_
    exact kk _ _ _ ⟨_, _, f2, ad1, hL, hT1, by omega, by omega⟩
  · obtain ⟨hS0, hT1⟩ := (hs (xs (5 * n + 1)) (xs (5 * n + 2)) (xs (5 * n + 3))).2 j c hj hxc
    refine zistore (L1 := [_, _, _, _, _, _, _, _]) C dL_law__318 rfl (Nat.le_of_ble_eq_true rfl) ?_
    refine zaload_n C dL_law__320 rfl ?_
    refine zaload_n C dL_law__321 rfl ?_
    refine ziload C dL_law__322 rfl ?_
    refine zconst (v := 1) C dL_law__324 (by decide) ?_
    refine ziadd C dL_law__325 ?_
    refine zsldG (i0 := 5 * n + 1) C hX hbl hbA (nI_add (5 * n) 1) (by omega) (by omega) dL_law__326 ?_
    refine zaload_n C dL_law__327 rfl ?_
    refine ziload C dL_law__328 rfl ?_
    refine zconst (v := 2) C dL_law__330 (by decide) ?_
    refine ziadd C dL_law__331 ?_
    refine zsldG (i0 := 5 * n + 2) C hX hbl hbA (nI_add (5 * n) 2) (by omega) (by omega) dL_law__332 ?_
    refine zaload_n C dL_law__333 rfl ?_
    refine ziload C dL_law__334 rfl ?_
    refine zconst (v := 3) C dL_law__336 (by decide) ?_
    refine ziadd C dL_law__337 ?_
    refine zsldG (i0 := 5 * n + 3) C hX hbl hbA (nI_add (5 * n) 3) (by omega) (by omega) dL_law__338 ?_
    refine zcallV C (hL.call (m_decree (xs (5 * n + 1)) (xs (5 * n + 2)) (xs (5 * n + 3)) hok.2.1)) hy_X8_decree hv_X8_decree hl_L_122 hL.atmo rfl rfl rfl rfl (by decide) (by decide) (by omega) (by omega) rfl (by exact Nat.le_of_ble_eq_true rfl) dL_law__339 (fun v M hp => ?_)
    obtain ⟨S1, hv, hL⟩ := hp
    have e1 : S1 = (o_decree S (xs (5 * n + 1)) (xs (5 * n + 2)) (xs (5 * n + 3))).1 := congrArg Prod.fst hv
    have e2 : v = (o_decree S (xs (5 * n + 1)) (xs (5 * n + 2)) (xs (5 * n + 3))).2 := congrArg Prod.snd hv
    clear hv
    subst e1
    subst e2
    refine zistore (L1 := [_, _, _, _, _, _, _, _]) C dL_law__342 rfl (Nat.le_of_ble_eq_true rfl) ?_
    refine zaload_n C dL_law__344 rfl ?_
    refine zcallV C (hL.call m_thrown) hy_X8_thrown hv_X8_thrown hl_L_112 hL.atmo rfl rfl rfl rfl (by decide) (by decide) (by omega) (by omega) rfl (by exact Nat.le_of_ble_eq_true rfl) dL_law__345 (fun vt M hp => ?_)
    obtain ⟨S2, ⟨rfl, rfl⟩, hL⟩ := hp
    rw [hS0]
    refine ziload C dL_law__348 rfl ?_
    refine zicmp_eq (tgt := 355) C dL_law__350 (by decide) (fun _ => ?_) (fun h => absurd rfl h)
    refine ziload C dL_law__355 rfl ?_
    refine zif_ne_t (tgt := 372) C dL_law__357 (by decide) (nIj hj3) ?_
    refine zgoto (tgt := 2026) C dL_law__372 (by decide) ?_
    refine zfor [true, true, true, true, true, false, false, false] rfl ?_
    exact kk _ _ _ ⟨K, _, f, ad, hL, hT1, by omega, by omega⟩
set_option maxRecDepth 100000 in
set_option maxHeartbeats 2000000 in
theorem lc_rule {g : zGh} {X : zX} (C : zC g X RL cL_law_ 8 12 454 711863 6960515) (hN : zNc X.1.2.2.2) {b Ls n : Nat} {xs : Nat → Int32} (hX : va_X b Ls xs X.1.2.2.2 X.1.2.2.2.heap) (hbl : b < X.1.2.2.2.heap.size) (hbA : ¬ zA g b) (hn : 5 * n + 5 ≤ Ls) (hLs : Ls ≤ 2560) {mo : Nat} {mad : Nat → Nat} {o x : Nat} {K : zK} {S : zS} {f : Nat → Int64} {ad : zg → Nat} {M : zM} {k m : Nat} (hL : zLw g mo mad o x K S f ad M) (hok : zOK K S) (T : Nat → zK → zS → Prop) (hs : ∀ (a0 : Int32) (a1 : Int32), lcal T n K (x_rule K a0 a1) [2, 3] (k_rule K a0 a1) (o_rule S a0 a1).1 ((chN (kch K a0.toNatClampNeg)) = (o_rule S a0 a1).2)) (hk : k ≤ 100 + 100 * n + cF K) (hm : m ≤ 50000 + 6000 * n + 4 * cF K) (kk : ∀ M1 k1 m1, zLI T g mo mad o x (n + 1) M1 k1 m1 → zG g X M1 k1 m1 2026 [some (.ref b), some (.ref x), some (.ref mo), some (.ref o), some (.int (nI (5 * n))), none, none, none] []) : zG g X M k m 375 [some (.ref b), some (.ref x), some (.ref mo), some (.ref o), some (.int (nI (5 * n))), none, none, none] [] := by
  have hc := hok.1.2.2.2.2.2
  refine zaload_n C dL_law__375 rfl ?_
  refine zaload_n C dL_law__376 rfl ?_
  refine ziload C dL_law__377 rfl ?_
  refine zconst (v := 1) C dL_law__379 (by decide) ?_
  refine ziadd C dL_law__380 ?_
  refine zsldG (i0 := 5 * n + 1) C hX hbl hbA (nI_add (5 * n) 1) (by omega) (by omega) dL_law__381 ?_
  refine zaload_n C dL_law__382 rfl ?_
  refine ziload C dL_law__383 rfl ?_
  refine zconst (v := 2) C dL_law__385 (by decide) ?_
  refine ziadd C dL_law__386 ?_
  refine zsldG (i0 := 5 * n + 2) C hX hbl hbA (nI_add (5 * n) 2) (by omega) (by omega) dL_law__387 ?_
  refine zaload_n C dL_law__388 rfl ?_
  refine zcallSW (np := 4) C hN (v_rule (xs (5 * n + 1)) (xs (5 * n + 2)) hL hok) hcw_rule zini (by decide) (by decide +kernel) hl_L_123 rfl rfl (by decide) (by decide) (by omega) (by omega) rfl (by exact Nat.le_of_ble_eq_true rfl) dL_law__389 (fun w M1 hp => ?_)
  rcases hp with ⟨rfl, hx0, f2, ad1, hL, hf⟩ | ⟨j, c, hj, hj3, rfl, hxc, rfl⟩
  · obtain ⟨hS0, hev, hT1, hcF⟩ := (hs (xs (5 * n + 1)) (xs (5 * n + 2))).1 hx0
    refine zistore (L1 := [_, _, _, _, _, _, _, _]) C dL_law__392 rfl (Nat.le_of_ble_eq_true rfl) ?_
    refine zaload_n C dL_law__394 rfl ?_
    refine zaload_n C dL_law__395 rfl ?_
    refine ziload C dL_law__396 rfl ?_
    refine zconst (v := 1) C dL_law__398 (by decide) ?_
    refine ziadd C dL_law__399 ?_
    refine zsldG (i0 := 5 * n + 1) C hX hbl hbA (nI_add (5 * n) 1) (by omega) (by omega) dL_law__400 ?_
    refine zaload_n C dL_law__401 rfl ?_
    refine ziload C dL_law__402 rfl ?_
    refine zconst (v := 2) C dL_law__404 (by decide) ?_
    refine ziadd C dL_law__405 ?_
    refine zsldG (i0 := 5 * n + 2) C hX hbl hbA (nI_add (5 * n) 2) (by omega) (by omega) dL_law__406 ?_
    refine zcallV C (hL.call (m_rule (xs (5 * n + 1)) (xs (5 * n + 2)) hok.2.1)) hy_X8_rule hv_X8_rule hl_L_126 hL.atmo rfl rfl rfl rfl (by decide) (by decide) (by omega) (by omega) rfl (by exact Nat.le_of_ble_eq_true rfl) dL_law__407 (fun v M hp => ?_)
    obtain ⟨S1, hv, hL⟩ := hp
    have e1 : S1 = (o_rule S (xs (5 * n + 1)) (xs (5 * n + 2))).1 := congrArg Prod.fst hv
    have e2 : v = (o_rule S (xs (5 * n + 1)) (xs (5 * n + 2))).2 := congrArg Prod.snd hv
    clear hv
    subst e1
    subst e2
    refine zistore (L1 := [_, _, _, _, _, _, _, _]) C dL_law__410 rfl (Nat.le_of_ble_eq_true rfl) ?_
    refine zaload_n C dL_law__412 rfl ?_
    refine zcallV C (hL.call m_thrown) hy_X8_thrown hv_X8_thrown hl_L_112 hL.atmo rfl rfl rfl rfl (by decide) (by decide) (by omega) (by omega) rfl (by exact Nat.le_of_ble_eq_true rfl) dL_law__413 (fun vt M hp => ?_)
    obtain ⟨S2, ⟨rfl, rfl⟩, hL⟩ := hp
    rw [hS0]
    refine ziload C dL_law__416 rfl ?_
    refine zicmp_eq (tgt := 423) C dL_law__418 (by decide) (fun _ => ?_) (fun h => absurd rfl h)
    refine ziload C dL_law__423 rfl ?_
    refine zif_ne_f (tgt := 440) C dL_law__425 (by decide) (by decide) ?_
    refine zaload_n C dL_law__428 rfl ?_
    refine zconst (v := 0) C dL_law__429 (by decide) ?_
    refine zrjald (i0 := 0) C hL.atout rfl (by decide) (by decide) dL_law__430 ?_
    refine ziload C dL_law__431 rfl ?_
    refine zi2l C dL_law__433 ?_
    refine zlcmp C dL_law__434 ?_
    refine zif_eq_t (tgt := 440) C dL_law__435 (by decide) ((lg_cmp_eq _ _).mpr (hf.trans (congrArg Int32.toInt64 hev))) ?_
    refine zgoto (tgt := 2026) C dL_law__440 (by decide) ?_
    refine zfor [true, true, true, true, true, false, false, false] rfl ?_
    exact kk _ _ _ ⟨_, _, f2, ad1, hL, hT1, by omega, by omega⟩
  · obtain ⟨hS0, hT1⟩ := (hs (xs (5 * n + 1)) (xs (5 * n + 2))).2 j c hj hxc
    refine zistore (L1 := [_, _, _, _, _, _, _, _]) C dL_law__392 rfl (Nat.le_of_ble_eq_true rfl) ?_
    refine zaload_n C dL_law__394 rfl ?_
    refine zaload_n C dL_law__395 rfl ?_
    refine ziload C dL_law__396 rfl ?_
    refine zconst (v := 1) C dL_law__398 (by decide) ?_
    refine ziadd C dL_law__399 ?_
    refine zsldG (i0 := 5 * n + 1) C hX hbl hbA (nI_add (5 * n) 1) (by omega) (by omega) dL_law__400 ?_
    refine zaload_n C dL_law__401 rfl ?_
    refine ziload C dL_law__402 rfl ?_
    refine zconst (v := 2) C dL_law__404 (by decide) ?_
    refine ziadd C dL_law__405 ?_
    refine zsldG (i0 := 5 * n + 2) C hX hbl hbA (nI_add (5 * n) 2) (by omega) (by omega) dL_law__406 ?_
    refine zcallV C (hL.call (m_rule (xs (5 * n + 1)) (xs (5 * n + 2)) hok.2.1)) hy_X8_rule hv_X8_rule hl_L_126 hL.atmo rfl rfl rfl rfl (by decide) (by decide) (by omega) (by omega) rfl (by exact Nat.le_of_ble_eq_true rfl) dL_law__407 (fun v M hp => ?_)
    obtain ⟨S1, hv, hL⟩ := hp
    have e1 : S1 = (o_rule S (xs (5 * n + 1)) (xs (5 * n + 2))).1 := congrArg Prod.fst hv
    have e2 : v = (o_rule S (xs (5 * n + 1)) (xs (5 * n + 2))).2 := congrArg Prod.snd hv
    clear hv
    subst e1
    subst e2
    refine zistore (L1 := [_, _, _, _, _, _, _, _]) C dL_law__410 rfl (Nat.le_of_ble_eq_true rfl) ?_
    refine zaload_n C dL_law__412 rfl ?_
    refine zcallV C (hL.call m_thrown) hy_X8_thrown hv_X8_thrown hl_L_112 hL.atmo rfl rfl rfl rfl (by decide) (by decide) (by omega) (by omega) rfl (by exact Nat.le_of_ble_eq_true rfl) dL_law__413 (fun vt M hp => ?_)
    obtain ⟨S2, ⟨rfl, rfl⟩, hL⟩ := hp
    rw [hS0]
    refine ziload C dL_law__416 rfl ?_
    refine zicmp_eq (tgt := 423) C dL_law__418 (by decide) (fun _ => ?_) (fun h => absurd rfl h)
    refine ziload C dL_law__423 rfl ?_
    refine zif_ne_t (tgt := 440) C dL_law__425 (by decide) (nIj hj3) ?_
    refine zgoto (tgt := 2026) C dL_law__440 (by decide) ?_
    refine zfor [true, true, true, true, true, false, false, false] rfl ?_
    exact kk _ _ _ ⟨K, _, f, ad, hL, hT1, by omega, by omega⟩
set_option maxRecDepth 100000 in
set_option maxHeartbeats 2000000 in
theorem lc_law {g : zGh} {X : zX} (C : zC g X RL cL_law_ 8 12 454 711863 6960515) (hN : zNc X.1.2.2.2) {b Ls n : Nat} {xs : Nat → Int32} (hX : va_X b Ls xs X.1.2.2.2 X.1.2.2.2.heap) (hbl : b < X.1.2.2.2.heap.size) (hbA : ¬ zA g b) (hn : 5 * n + 5 ≤ Ls) (hLs : Ls ≤ 2560) {mo : Nat} {mad : Nat → Nat} {o x : Nat} {K : zK} {S : zS} {f : Nat → Int64} {ad : zg → Nat} {M : zM} {k m : Nat} (hL : zLw g mo mad o x K S f ad M) (hok : zOK K S) (T : Nat → zK → zS → Prop) (hs : ∀ (a0 : Int32) (a1 : Int32) (a2 : Int32), lcal T n K (x_law K a0 a1 a2) [1, 2] (K) (o_law S a0 a1 a2).1 ((a_law K a0 a1 a2) = (o_law S a0 a1 a2).2)) (hk : k ≤ 100 + 100 * n + cF K) (hm : m ≤ 50000 + 6000 * n + 4 * cF K) (kk : ∀ M1 k1 m1, zLI T g mo mad o x (n + 1) M1 k1 m1 → zG g X M1 k1 m1 2026 [some (.ref b), some (.ref x), some (.ref mo), some (.ref o), some (.int (nI (5 * n))), none, none, none] []) : zG g X M k m 443 [some (.ref b), some (.ref x), some (.ref mo), some (.ref o), some (.int (nI (5 * n))), none, none, none] [] := by
  have hc := hok.1.2.2.2.2.2
  refine zaload_n C dL_law__443 rfl ?_
  refine zaload_n C dL_law__444 rfl ?_
  refine ziload C dL_law__445 rfl ?_
  refine zconst (v := 1) C dL_law__447 (by decide) ?_
  refine ziadd C dL_law__448 ?_
  refine zsldG (i0 := 5 * n + 1) C hX hbl hbA (nI_add (5 * n) 1) (by omega) (by omega) dL_law__449 ?_
  refine zaload_n C dL_law__450 rfl ?_
  refine ziload C dL_law__451 rfl ?_
  refine zconst (v := 2) C dL_law__453 (by decide) ?_
  refine ziadd C dL_law__454 ?_
  refine zsldG (i0 := 5 * n + 2) C hX hbl hbA (nI_add (5 * n) 2) (by omega) (by omega) dL_law__455 ?_
  refine zaload_n C dL_law__456 rfl ?_
  refine ziload C dL_law__457 rfl ?_
  refine zconst (v := 3) C dL_law__459 (by decide) ?_
  refine ziadd C dL_law__460 ?_
  refine zsldG (i0 := 5 * n + 3) C hX hbl hbA (nI_add (5 * n) 3) (by omega) (by omega) dL_law__461 ?_
  refine zaload_n C dL_law__462 rfl ?_
  refine zcallSW (np := 5) C hN (v_law (xs (5 * n + 1)) (xs (5 * n + 2)) (xs (5 * n + 3)) hL hok) hcw_law zini (by decide) (by decide +kernel) hl_L_127 rfl rfl (by decide) (by decide) (by omega) (by omega) rfl (by exact Nat.le_of_ble_eq_true rfl) dL_law__463 (fun w M1 hp => ?_)
  rcases hp with ⟨rfl, hx0, f2, ad1, hL, hf⟩ | ⟨j, c, hj, hj3, rfl, hxc, rfl⟩
  · obtain ⟨hS0, hev, hT1, hcF⟩ := (hs (xs (5 * n + 1)) (xs (5 * n + 2)) (xs (5 * n + 3))).1 hx0
    refine zistore (L1 := [_, _, _, _, _, _, _, _]) C dL_law__466 rfl (Nat.le_of_ble_eq_true rfl) ?_
    refine zaload_n C dL_law__468 rfl ?_
    refine zaload_n C dL_law__469 rfl ?_
    refine ziload C dL_law__470 rfl ?_
    refine zconst (v := 1) C dL_law__472 (by decide) ?_
    refine ziadd C dL_law__473 ?_
    refine zsldG (i0 := 5 * n + 1) C hX hbl hbA (nI_add (5 * n) 1) (by omega) (by omega) dL_law__474 ?_
    refine zaload_n C dL_law__475 rfl ?_
    refine ziload C dL_law__476 rfl ?_
    refine zconst (v := 2) C dL_law__478 (by decide) ?_
    refine ziadd C dL_law__479 ?_
    refine zsldG (i0 := 5 * n + 2) C hX hbl hbA (nI_add (5 * n) 2) (by omega) (by omega) dL_law__480 ?_
    refine zaload_n C dL_law__481 rfl ?_
    refine ziload C dL_law__482 rfl ?_
    refine zconst (v := 3) C dL_law__484 (by decide) ?_
    refine ziadd C dL_law__485 ?_
    refine zsldG (i0 := 5 * n + 3) C hX hbl hbA (nI_add (5 * n) 3) (by omega) (by omega) dL_law__486 ?_
    refine zcallV C (hL.call (m_law (xs (5 * n + 1)) (xs (5 * n + 2)) (xs (5 * n + 3)) hok.2.1)) hy_X8_law hv_X8_law hl_L_129 hL.atmo rfl rfl rfl rfl (by decide) (by decide) (by omega) (by omega) rfl (by exact Nat.le_of_ble_eq_true rfl) dL_law__487 (fun v M hp => ?_)
    obtain ⟨S1, hv, hL⟩ := hp
    have e1 : S1 = (o_law S (xs (5 * n + 1)) (xs (5 * n + 2)) (xs (5 * n + 3))).1 := congrArg Prod.fst hv
    have e2 : v = (o_law S (xs (5 * n + 1)) (xs (5 * n + 2)) (xs (5 * n + 3))).2 := congrArg Prod.snd hv
    clear hv
    subst e1
    subst e2
    refine zistore (L1 := [_, _, _, _, _, _, _, _]) C dL_law__490 rfl (Nat.le_of_ble_eq_true rfl) ?_
    refine zaload_n C dL_law__492 rfl ?_
    refine zcallV C (hL.call m_thrown) hy_X8_thrown hv_X8_thrown hl_L_112 hL.atmo rfl rfl rfl rfl (by decide) (by decide) (by omega) (by omega) rfl (by exact Nat.le_of_ble_eq_true rfl) dL_law__493 (fun vt M hp => ?_)
    obtain ⟨S2, ⟨rfl, rfl⟩, hL⟩ := hp
    rw [hS0]
    refine ziload C dL_law__496 rfl ?_
    refine zicmp_eq (tgt := 503) C dL_law__498 (by decide) (fun _ => ?_) (fun h => absurd rfl h)
    refine ziload C dL_law__503 rfl ?_
    refine zif_ne_f (tgt := 520) C dL_law__505 (by decide) (by decide) ?_
    refine zaload_n C dL_law__508 rfl ?_
    refine zconst (v := 0) C dL_law__509 (by decide) ?_
    refine zrjald (i0 := 0) C hL.atout rfl (by decide) (by decide) dL_law__510 ?_
    refine ziload C dL_law__511 rfl ?_
    refine zi2l C dL_law__513 ?_
    refine zlcmp C dL_law__514 ?_
    refine zif_eq_t (tgt := 520) C dL_law__515 (by decide) ((lg_cmp_eq _ _).mpr (hf.trans (congrArg Int32.toInt64 hev))) ?_
    refine zgoto (tgt := 2026) C dL_law__520 (by decide) ?_
    refine zfor [true, true, true, true, true, false, false, false] rfl ?_
    exact kk _ _ _ ⟨_, _, f2, ad1, hL, hT1, by omega, by omega⟩
  · obtain ⟨hS0, hT1⟩ := (hs (xs (5 * n + 1)) (xs (5 * n + 2)) (xs (5 * n + 3))).2 j c hj hxc
    refine zistore (L1 := [_, _, _, _, _, _, _, _]) C dL_law__466 rfl (Nat.le_of_ble_eq_true rfl) ?_
    refine zaload_n C dL_law__468 rfl ?_
    refine zaload_n C dL_law__469 rfl ?_
    refine ziload C dL_law__470 rfl ?_
    refine zconst (v := 1) C dL_law__472 (by decide) ?_
    refine ziadd C dL_law__473 ?_
    refine zsldG (i0 := 5 * n + 1) C hX hbl hbA (nI_add (5 * n) 1) (by omega) (by omega) dL_law__474 ?_
    refine zaload_n C dL_law__475 rfl ?_
    refine ziload C dL_law__476 rfl ?_
    refine zconst (v := 2) C dL_law__478 (by decide) ?_
    refine ziadd C dL_law__479 ?_
    refine zsldG (i0 := 5 * n + 2) C hX hbl hbA (nI_add (5 * n) 2) (by omega) (by omega) dL_law__480 ?_
    refine zaload_n C dL_law__481 rfl ?_
    refine ziload C dL_law__482 rfl ?_
    refine zconst (v := 3) C dL_law__484 (by decide) ?_
    refine ziadd C dL_law__485 ?_
    refine zsldG (i0 := 5 * n + 3) C hX hbl hbA (nI_add (5 * n) 3) (by omega) (by omega) dL_law__486 ?_
    refine zcallV C (hL.call (m_law (xs (5 * n + 1)) (xs (5 * n + 2)) (xs (5 * n + 3)) hok.2.1)) hy_X8_law hv_X8_law hl_L_129 hL.atmo rfl rfl rfl rfl (by decide) (by decide) (by omega) (by omega) rfl (by exact Nat.le_of_ble_eq_true rfl) dL_law__487 (fun v M hp => ?_)
    obtain ⟨S1, hv, hL⟩ := hp
    have e1 : S1 = (o_law S (xs (5 * n + 1)) (xs (5 * n + 2)) (xs (5 * n + 3))).1 := congrArg Prod.fst hv
    have e2 : v = (o_law S (xs (5 * n + 1)) (xs (5 * n + 2)) (xs (5 * n + 3))).2 := congrArg Prod.snd hv
    clear hv
    subst e1
    subst e2
    refine zistore (L1 := [_, _, _, _, _, _, _, _]) C dL_law__490 rfl (Nat.le_of_ble_eq_true rfl) ?_
    refine zaload_n C dL_law__492 rfl ?_
    refine zcallV C (hL.call m_thrown) hy_X8_thrown hv_X8_thrown hl_L_112 hL.atmo rfl rfl rfl rfl (by decide) (by decide) (by omega) (by omega) rfl (by exact Nat.le_of_ble_eq_true rfl) dL_law__493 (fun vt M hp => ?_)
    obtain ⟨S2, ⟨rfl, rfl⟩, hL⟩ := hp
    rw [hS0]
    refine ziload C dL_law__496 rfl ?_
    refine zicmp_eq (tgt := 503) C dL_law__498 (by decide) (fun _ => ?_) (fun h => absurd rfl h)
    refine ziload C dL_law__503 rfl ?_
    refine zif_ne_t (tgt := 520) C dL_law__505 (by decide) (nIj hj3) ?_
    refine zgoto (tgt := 2026) C dL_law__520 (by decide) ?_
    refine zfor [true, true, true, true, true, false, false, false] rfl ?_
    exact kk _ _ _ ⟨K, _, f, ad, hL, hT1, by omega, by omega⟩
set_option maxRecDepth 100000 in
set_option maxHeartbeats 2000000 in
theorem lc_court {g : zGh} {X : zX} (C : zC g X RL cL_law_ 8 12 454 711863 6960515) (hN : zNc X.1.2.2.2) {b Ls n : Nat} {xs : Nat → Int32} (hX : va_X b Ls xs X.1.2.2.2 X.1.2.2.2.heap) (hbl : b < X.1.2.2.2.heap.size) (hbA : ¬ zA g b) (hn : 5 * n + 5 ≤ Ls) (hLs : Ls ≤ 2560) {mo : Nat} {mad : Nat → Nat} {o x : Nat} {K : zK} {S : zS} {f : Nat → Int64} {ad : zg → Nat} {M : zM} {k m : Nat} (hL : zLw g mo mad o x K S f ad M) (hok : zOK K S) (T : Nat → zK → zS → Prop) (hs : ∀ (a0 : Int32) (a1 : Int32) (a2 : Int32) (a3 : Int32), lcal T n K (x_court K a0 a1 a2 a3) [1, 2] (K) (o_court S a0 a1 a2 a3).1 ((a_court K a0 a1 a2 a3) = (o_court S a0 a1 a2 a3).2)) (hk : k ≤ 100 + 100 * n + cF K) (hm : m ≤ 50000 + 6000 * n + 4 * cF K) (kk : ∀ M1 k1 m1, zLI T g mo mad o x (n + 1) M1 k1 m1 → zG g X M1 k1 m1 2026 [some (.ref b), some (.ref x), some (.ref mo), some (.ref o), some (.int (nI (5 * n))), none, none, none] []) : zG g X M k m 523 [some (.ref b), some (.ref x), some (.ref mo), some (.ref o), some (.int (nI (5 * n))), none, none, none] [] := by
  have hc := hok.1.2.2.2.2.2
  refine zaload_n C dL_law__523 rfl ?_
  refine zaload_n C dL_law__524 rfl ?_
  refine ziload C dL_law__525 rfl ?_
  refine zconst (v := 1) C dL_law__527 (by decide) ?_
  refine ziadd C dL_law__528 ?_
  refine zsldG (i0 := 5 * n + 1) C hX hbl hbA (nI_add (5 * n) 1) (by omega) (by omega) dL_law__529 ?_
  refine zaload_n C dL_law__530 rfl ?_
  refine ziload C dL_law__531 rfl ?_
  refine zconst (v := 2) C dL_law__533 (by decide) ?_
  refine ziadd C dL_law__534 ?_
  refine zsldG (i0 := 5 * n + 2) C hX hbl hbA (nI_add (5 * n) 2) (by omega) (by omega) dL_law__535 ?_
  refine zaload_n C dL_law__536 rfl ?_
  refine ziload C dL_law__537 rfl ?_
  refine zconst (v := 3) C dL_law__539 (by decide) ?_
  refine ziadd C dL_law__540 ?_
  refine zsldG (i0 := 5 * n + 3) C hX hbl hbA (nI_add (5 * n) 3) (by omega) (by omega) dL_law__541 ?_
  refine zaload_n C dL_law__542 rfl ?_
  refine ziload C dL_law__543 rfl ?_
  refine zconst (v := 4) C dL_law__545 (by decide) ?_
  refine ziadd C dL_law__546 ?_
  refine zsldG (i0 := 5 * n + 4) C hX hbl hbA (nI_add (5 * n) 4) (by omega) (by omega) dL_law__547 ?_
  refine zaload_n C dL_law__548 rfl ?_
  refine zcallSW (np := 6) C hN (v_court (xs (5 * n + 1)) (xs (5 * n + 2)) (xs (5 * n + 3)) (xs (5 * n + 4)) hL hok) hcw_court zini (by decide) (by decide +kernel) hl_L_130 rfl rfl (by decide) (by decide) (by omega) (by omega) rfl (by exact Nat.le_of_ble_eq_true rfl) dL_law__549 (fun w M1 hp => ?_)
  rcases hp with ⟨rfl, hx0, f2, ad1, hL, hf⟩ | ⟨j, c, hj, hj3, rfl, hxc, rfl⟩
  · obtain ⟨hS0, hev, hT1, hcF⟩ := (hs (xs (5 * n + 1)) (xs (5 * n + 2)) (xs (5 * n + 3)) (xs (5 * n + 4))).1 hx0
    refine zistore (L1 := [_, _, _, _, _, _, _, _]) C dL_law__552 rfl (Nat.le_of_ble_eq_true rfl) ?_
    refine zaload_n C dL_law__554 rfl ?_
    refine zaload_n C dL_law__555 rfl ?_
    refine ziload C dL_law__556 rfl ?_
    refine zconst (v := 1) C dL_law__558 (by decide) ?_
    refine ziadd C dL_law__559 ?_
    refine zsldG (i0 := 5 * n + 1) C hX hbl hbA (nI_add (5 * n) 1) (by omega) (by omega) dL_law__560 ?_
    refine zaload_n C dL_law__561 rfl ?_
    refine ziload C dL_law__562 rfl ?_
    refine zconst (v := 2) C dL_law__564 (by decide) ?_
    refine ziadd C dL_law__565 ?_
    refine zsldG (i0 := 5 * n + 2) C hX hbl hbA (nI_add (5 * n) 2) (by omega) (by omega) dL_law__566 ?_
    refine zaload_n C dL_law__567 rfl ?_
    refine ziload C dL_law__568 rfl ?_
    refine zconst (v := 3) C dL_law__570 (by decide) ?_
    refine ziadd C dL_law__571 ?_
    refine zsldG (i0 := 5 * n + 3) C hX hbl hbA (nI_add (5 * n) 3) (by omega) (by omega) dL_law__572 ?_
    refine zaload_n C dL_law__573 rfl ?_
    refine ziload C dL_law__574 rfl ?_
    refine zconst (v := 4) C dL_law__576 (by decide) ?_
    refine ziadd C dL_law__577 ?_
    refine zsldG (i0 := 5 * n + 4) C hX hbl hbA (nI_add (5 * n) 4) (by omega) (by omega) dL_law__578 ?_
    refine zcallV C (hL.call (m_court (xs (5 * n + 1)) (xs (5 * n + 2)) (xs (5 * n + 3)) (xs (5 * n + 4)) hok.2.1 hok.2.2.1)) hy_X8_court hv_X8_court hl_L_133 hL.atmo rfl rfl rfl rfl (by decide) (by decide) (by omega) (by omega) rfl (by exact Nat.le_of_ble_eq_true rfl) dL_law__579 (fun v M hp => ?_)
    obtain ⟨S1, hv, hL⟩ := hp
    have e1 : S1 = (o_court S (xs (5 * n + 1)) (xs (5 * n + 2)) (xs (5 * n + 3)) (xs (5 * n + 4))).1 := congrArg Prod.fst hv
    have e2 : v = (o_court S (xs (5 * n + 1)) (xs (5 * n + 2)) (xs (5 * n + 3)) (xs (5 * n + 4))).2 := congrArg Prod.snd hv
    clear hv
    subst e1
    subst e2
    refine zistore (L1 := [_, _, _, _, _, _, _, _]) C dL_law__582 rfl (Nat.le_of_ble_eq_true rfl) ?_
    refine zaload_n C dL_law__584 rfl ?_
    refine zcallV C (hL.call m_thrown) hy_X8_thrown hv_X8_thrown hl_L_112 hL.atmo rfl rfl rfl rfl (by decide) (by decide) (by omega) (by omega) rfl (by exact Nat.le_of_ble_eq_true rfl) dL_law__585 (fun vt M hp => ?_)
    obtain ⟨S2, ⟨rfl, rfl⟩, hL⟩ := hp
    rw [hS0]
    refine ziload C dL_law__588 rfl ?_
    refine zicmp_eq (tgt := 595) C dL_law__590 (by decide) (fun _ => ?_) (fun h => absurd rfl h)
    refine ziload C dL_law__595 rfl ?_
    refine zif_ne_f (tgt := 612) C dL_law__597 (by decide) (by decide) ?_
    refine zaload_n C dL_law__600 rfl ?_
    refine zconst (v := 0) C dL_law__601 (by decide) ?_
    refine zrjald (i0 := 0) C hL.atout rfl (by decide) (by decide) dL_law__602 ?_
    refine ziload C dL_law__603 rfl ?_
    refine zi2l C dL_law__605 ?_
    refine zlcmp C dL_law__606 ?_
    refine zif_eq_t (tgt := 612) C dL_law__607 (by decide) ((lg_cmp_eq _ _).mpr (hf.trans (congrArg Int32.toInt64 hev))) ?_
    refine zgoto (tgt := 2026) C dL_law__612 (by decide) ?_
    refine zfor [true, true, true, true, true, false, false, false] rfl ?_
    exact kk _ _ _ ⟨_, _, f2, ad1, hL, hT1, by omega, by omega⟩
  · obtain ⟨hS0, hT1⟩ := (hs (xs (5 * n + 1)) (xs (5 * n + 2)) (xs (5 * n + 3)) (xs (5 * n + 4))).2 j c hj hxc
    refine zistore (L1 := [_, _, _, _, _, _, _, _]) C dL_law__552 rfl (Nat.le_of_ble_eq_true rfl) ?_
    refine zaload_n C dL_law__554 rfl ?_
    refine zaload_n C dL_law__555 rfl ?_
    refine ziload C dL_law__556 rfl ?_
    refine zconst (v := 1) C dL_law__558 (by decide) ?_
    refine ziadd C dL_law__559 ?_
    refine zsldG (i0 := 5 * n + 1) C hX hbl hbA (nI_add (5 * n) 1) (by omega) (by omega) dL_law__560 ?_
    refine zaload_n C dL_law__561 rfl ?_
    refine ziload C dL_law__562 rfl ?_
    refine zconst (v := 2) C dL_law__564 (by decide) ?_
    refine ziadd C dL_law__565 ?_
    refine zsldG (i0 := 5 * n + 2) C hX hbl hbA (nI_add (5 * n) 2) (by omega) (by omega) dL_law__566 ?_
    refine zaload_n C dL_law__567 rfl ?_
    refine ziload C dL_law__568 rfl ?_
    refine zconst (v := 3) C dL_law__570 (by decide) ?_
    refine ziadd C dL_law__571 ?_
    refine zsldG (i0 := 5 * n + 3) C hX hbl hbA (nI_add (5 * n) 3) (by omega) (by omega) dL_law__572 ?_
    refine zaload_n C dL_law__573 rfl ?_
    refine ziload C dL_law__574 rfl ?_
    refine zconst (v := 4) C dL_law__576 (by decide) ?_
    refine ziadd C dL_law__577 ?_
    refine zsldG (i0 := 5 * n + 4) C hX hbl hbA (nI_add (5 * n) 4) (by omega) (by omega) dL_law__578 ?_
    refine zcallV C (hL.call (m_court (xs (5 * n + 1)) (xs (5 * n + 2)) (xs (5 * n + 3)) (xs (5 * n + 4)) hok.2.1 hok.2.2.1)) hy_X8_court hv_X8_court hl_L_133 hL.atmo rfl rfl rfl rfl (by decide) (by decide) (by omega) (by omega) rfl (by exact Nat.le_of_ble_eq_true rfl) dL_law__579 (fun v M hp => ?_)
    obtain ⟨S1, hv, hL⟩ := hp
    have e1 : S1 = (o_court S (xs (5 * n + 1)) (xs (5 * n + 2)) (xs (5 * n + 3)) (xs (5 * n + 4))).1 := congrArg Prod.fst hv
    have e2 : v = (o_court S (xs (5 * n + 1)) (xs (5 * n + 2)) (xs (5 * n + 3)) (xs (5 * n + 4))).2 := congrArg Prod.snd hv
    clear hv
    subst e1
    subst e2
    refine zistore (L1 := [_, _, _, _, _, _, _, _]) C dL_law__582 rfl (Nat.le_of_ble_eq_true rfl) ?_
    refine zaload_n C dL_law__584 rfl ?_
    refine zcallV C (hL.call m_thrown) hy_X8_thrown hv_X8_thrown hl_L_112 hL.atmo rfl rfl rfl rfl (by decide) (by decide) (by omega) (by omega) rfl (by exact Nat.le_of_ble_eq_true rfl) dL_law__585 (fun vt M hp => ?_)
    obtain ⟨S2, ⟨rfl, rfl⟩, hL⟩ := hp
    rw [hS0]
    refine ziload C dL_law__588 rfl ?_
    refine zicmp_eq (tgt := 595) C dL_law__590 (by decide) (fun _ => ?_) (fun h => absurd rfl h)
    refine ziload C dL_law__595 rfl ?_
    refine zif_ne_t (tgt := 612) C dL_law__597 (by decide) (nIj hj3) ?_
    refine zgoto (tgt := 2026) C dL_law__612 (by decide) ?_
    refine zfor [true, true, true, true, true, false, false, false] rfl ?_
    exact kk _ _ _ ⟨K, _, f, ad, hL, hT1, by omega, by omega⟩
set_option maxRecDepth 100000 in
set_option maxHeartbeats 2000000 in
theorem lc_person {g : zGh} {X : zX} (C : zC g X RL cL_law_ 8 12 454 711863 6960515) (hN : zNc X.1.2.2.2) {b Ls n : Nat} {xs : Nat → Int32} (hX : va_X b Ls xs X.1.2.2.2 X.1.2.2.2.heap) (hbl : b < X.1.2.2.2.heap.size) (hbA : ¬ zA g b) (hn : 5 * n + 5 ≤ Ls) (hLs : Ls ≤ 2560) {mo : Nat} {mad : Nat → Nat} {o x : Nat} {K : zK} {S : zS} {f : Nat → Int64} {ad : zg → Nat} {M : zM} {k m : Nat} (hL : zLw g mo mad o x K S f ad M) (hok : zOK K S) (T : Nat → zK → zS → Prop) (hs : ∀ (a0 : Bool) (a1 : Int32) (a2 : Int32) (a3 : Int32), lcal T n K (x_person K a1 a2 a3) [1, 2, 3] (k_person K a0 a1 a2 a3) (o_person S (b2i a0) a1 a2 a3).1 ((nI (K.1 13)) = (o_person S (b2i a0) a1 a2 a3).2)) (hk : k ≤ 100 + 100 * n + cF K) (hm : m ≤ 50000 + 6000 * n + 4 * cF K) (kk : ∀ M1 k1 m1, zLI T g mo mad o x (n + 1) M1 k1 m1 → zG g X M1 k1 m1 2026 [some (.ref b), some (.ref x), some (.ref mo), some (.ref o), some (.int (nI (5 * n))), none, none, none] []) : zG g X M k m 615 [some (.ref b), some (.ref x), some (.ref mo), some (.ref o), some (.int (nI (5 * n))), none, none, none] [] := by
  have hc := hok.1.2.2.2.2.2
  refine zaload_n C dL_law__615 rfl ?_
  refine zaload_n C dL_law__616 rfl ?_
  refine ziload C dL_law__617 rfl ?_
  refine zconst (v := 1) C dL_law__619 (by decide) ?_
  refine ziadd C dL_law__620 ?_
  refine zsldG (i0 := 5 * n + 1) C hX hbl hbA (nI_add (5 * n) 1) (by omega) (by omega) dL_law__621 ?_
  refine zif_eq (tgt := 629) C dL_law__622 (by decide) (fun hx1 => ?_) (fun hx1 => ?_)
  · refine zconst (v := 0) C dL_law__629 (by decide) ?_
    refine zaload_n C dL_law__630 rfl ?_
    refine ziload C dL_law__631 rfl ?_
    refine zconst (v := 2) C dL_law__633 (by decide) ?_
    refine ziadd C dL_law__634 ?_
    refine zsldG (i0 := 5 * n + 2) C hX hbl hbA (nI_add (5 * n) 2) (by omega) (by omega) dL_law__635 ?_
    refine zaload_n C dL_law__636 rfl ?_
    refine ziload C dL_law__637 rfl ?_
    refine zconst (v := 3) C dL_law__639 (by decide) ?_
    refine ziadd C dL_law__640 ?_
    refine zsldG (i0 := 5 * n + 3) C hX hbl hbA (nI_add (5 * n) 3) (by omega) (by omega) dL_law__641 ?_
    refine zaload_n C dL_law__642 rfl ?_
    refine ziload C dL_law__643 rfl ?_
    refine zconst (v := 4) C dL_law__645 (by decide) ?_
    refine ziadd C dL_law__646 ?_
    refine zsldG (i0 := 5 * n + 4) C hX hbl hbA (nI_add (5 * n) 4) (by omega) (by omega) dL_law__647 ?_
    refine zaload_n C dL_law__648 rfl ?_
    refine zcallSW (np := 6) C hN (v_person false (xs (5 * n + 2)) (xs (5 * n + 3)) (xs (5 * n + 4)) hL hok) hcw_person zini (by decide) (by decide +kernel) hl_L_134 rfl rfl (by decide) (by decide) (by omega) (by omega) rfl (by exact Nat.le_of_ble_eq_true rfl) dL_law__649 (fun w M1 hp => ?_)
    rcases hp with ⟨rfl, hx0, f2, ad1, hL, hf⟩ | ⟨j, c, hj, hj3, rfl, hxc, rfl⟩
    · obtain ⟨hS0, hev, hT1, hcF⟩ := (hs false (xs (5 * n + 2)) (xs (5 * n + 3)) (xs (5 * n + 4))).1 hx0
      refine zistore (L1 := [_, _, _, _, _, _, _, _]) C dL_law__652 rfl (Nat.le_of_ble_eq_true rfl) ?_
      refine zaload_n C dL_law__654 rfl ?_
      refine zaload_n C dL_law__655 rfl ?_
      refine ziload C dL_law__656 rfl ?_
      refine zconst (v := 1) C dL_law__658 (by decide) ?_
      refine ziadd C dL_law__659 ?_
      refine zsldG (i0 := 5 * n + 1) C hX hbl hbA (nI_add (5 * n) 1) (by omega) (by omega) dL_law__660 ?_
      refine zif_eq_t (tgt := 668) C dL_law__661 (by decide) hx1 ?_
      refine zconst (v := 0) C dL_law__668 (by decide) ?_
      refine zaload_n C dL_law__669 rfl ?_
      refine ziload C dL_law__670 rfl ?_
      refine zconst (v := 2) C dL_law__672 (by decide) ?_
      refine ziadd C dL_law__673 ?_
      refine zsldG (i0 := 5 * n + 2) C hX hbl hbA (nI_add (5 * n) 2) (by omega) (by omega) dL_law__674 ?_
      refine zaload_n C dL_law__675 rfl ?_
      refine ziload C dL_law__676 rfl ?_
      refine zconst (v := 3) C dL_law__678 (by decide) ?_
      refine ziadd C dL_law__679 ?_
      refine zsldG (i0 := 5 * n + 3) C hX hbl hbA (nI_add (5 * n) 3) (by omega) (by omega) dL_law__680 ?_
      refine zaload_n C dL_law__681 rfl ?_
      refine ziload C dL_law__682 rfl ?_
      refine zconst (v := 4) C dL_law__684 (by decide) ?_
      refine ziadd C dL_law__685 ?_
      refine zsldG (i0 := 5 * n + 4) C hX hbl hbA (nI_add (5 * n) 4) (by omega) (by omega) dL_law__686 ?_
      refine zcallV C (hL.call (m_person false (xs (5 * n + 2)) (xs (5 * n + 3)) (xs (5 * n + 4)) hok.2.1 hok.2.2.1 hok.2.2.2.1)) hy_X8_person hv_X8_person hl_L_137 hL.atmo rfl rfl rfl rfl (by decide) (by decide) (by omega) (by omega) rfl (by exact Nat.le_of_ble_eq_true rfl) dL_law__687 (fun v M hp => ?_)
      obtain ⟨S1, hv, hL⟩ := hp
      have e1 : S1 = (o_person S (b2i false) (xs (5 * n + 2)) (xs (5 * n + 3)) (xs (5 * n + 4))).1 := congrArg Prod.fst hv
      have e2 : v = (o_person S (b2i false) (xs (5 * n + 2)) (xs (5 * n + 3)) (xs (5 * n + 4))).2 := congrArg Prod.snd hv
      clear hv
      subst e1
      subst e2
      refine zistore (L1 := [_, _, _, _, _, _, _, _]) C dL_law__690 rfl (Nat.le_of_ble_eq_true rfl) ?_
      refine zaload_n C dL_law__692 rfl ?_
      refine zcallV C (hL.call m_thrown) hy_X8_thrown hv_X8_thrown hl_L_112 hL.atmo rfl rfl rfl rfl (by decide) (by decide) (by omega) (by omega) rfl (by exact Nat.le_of_ble_eq_true rfl) dL_law__693 (fun vt M hp => ?_)
      obtain ⟨S2, ⟨rfl, rfl⟩, hL⟩ := hp
      rw [hS0]
      refine ziload C dL_law__696 rfl ?_
      refine zicmp_eq (tgt := 703) C dL_law__698 (by decide) (fun _ => ?_) (fun h => absurd rfl h)
      refine ziload C dL_law__703 rfl ?_
      refine zif_ne_f (tgt := 720) C dL_law__705 (by decide) (by decide) ?_
      refine zaload_n C dL_law__708 rfl ?_
      refine zconst (v := 0) C dL_law__709 (by decide) ?_
      refine zrjald (i0 := 0) C hL.atout rfl (by decide) (by decide) dL_law__710 ?_
      refine ziload C dL_law__711 rfl ?_
      refine zi2l C dL_law__713 ?_
      refine zlcmp C dL_law__714 ?_
      refine zif_eq_t (tgt := 720) C dL_law__715 (by decide) ((lg_cmp_eq _ _).mpr (hf.trans (congrArg Int32.toInt64 hev))) ?_
      refine zgoto (tgt := 2026) C dL_law__720 (by decide) ?_
      refine zfor [true, true, true, true, true, false, false, false] rfl ?_
      exact kk _ _ _ ⟨_, _, f2, ad1, hL, hT1, by omega, by omega⟩
    · obtain ⟨hS0, hT1⟩ := (hs false (xs (5 * n + 2)) (xs (5 * n + 3)) (xs (5 * n + 4))).2 j c hj hxc
      refine zistore (L1 := [_, _, _, _, _, _, _, _]) C dL_law__652 rfl (Nat.le_of_ble_eq_true rfl) ?_
      refine zaload_n C dL_law__654 rfl ?_
      refine zaload_n C dL_law__655 rfl ?_
      refine ziload C dL_law__656 rfl ?_
      refine zconst (v := 1) C dL_law__658 (by decide) ?_
      refine ziadd C dL_law__659 ?_
      refine zsldG (i0 := 5 * n + 1) C hX hbl hbA (nI_add (5 * n) 1) (by omega) (by omega) dL_law__660 ?_
      refine zif_eq_t (tgt := 668) C dL_law__661 (by decide) hx1 ?_
      refine zconst (v := 0) C dL_law__668 (by decide) ?_
      refine zaload_n C dL_law__669 rfl ?_
      refine ziload C dL_law__670 rfl ?_
      refine zconst (v := 2) C dL_law__672 (by decide) ?_
      refine ziadd C dL_law__673 ?_
      refine zsldG (i0 := 5 * n + 2) C hX hbl hbA (nI_add (5 * n) 2) (by omega) (by omega) dL_law__674 ?_
      refine zaload_n C dL_law__675 rfl ?_
      refine ziload C dL_law__676 rfl ?_
      refine zconst (v := 3) C dL_law__678 (by decide) ?_
      refine ziadd C dL_law__679 ?_
      refine zsldG (i0 := 5 * n + 3) C hX hbl hbA (nI_add (5 * n) 3) (by omega) (by omega) dL_law__680 ?_
      refine zaload_n C dL_law__681 rfl ?_
      refine ziload C dL_law__682 rfl ?_
      refine zconst (v := 4) C dL_law__684 (by decide) ?_
      refine ziadd C dL_law__685 ?_
      refine zsldG (i0 := 5 * n + 4) C hX hbl hbA (nI_add (5 * n) 4) (by omega) (by omega) dL_law__686 ?_
      refine zcallV C (hL.call (m_person false (xs (5 * n + 2)) (xs (5 * n + 3)) (xs (5 * n + 4)) hok.2.1 hok.2.2.1 hok.2.2.2.1)) hy_X8_person hv_X8_person hl_L_137 hL.atmo rfl rfl rfl rfl (by decide) (by decide) (by omega) (by omega) rfl (by exact Nat.le_of_ble_eq_true rfl) dL_law__687 (fun v M hp => ?_)
      obtain ⟨S1, hv, hL⟩ := hp
      have e1 : S1 = (o_person S (b2i false) (xs (5 * n + 2)) (xs (5 * n + 3)) (xs (5 * n + 4))).1 := congrArg Prod.fst hv
      have e2 : v = (o_person S (b2i false) (xs (5 * n + 2)) (xs (5 * n + 3)) (xs (5 * n + 4))).2 := congrArg Prod.snd hv
      clear hv
      subst e1
      subst e2
      refine zistore (L1 := [_, _, _, _, _, _, _, _]) C dL_law__690 rfl (Nat.le_of_ble_eq_true rfl) ?_
      refine zaload_n C dL_law__692 rfl ?_
      refine zcallV C (hL.call m_thrown) hy_X8_thrown hv_X8_thrown hl_L_112 hL.atmo rfl rfl rfl rfl (by decide) (by decide) (by omega) (by omega) rfl (by exact Nat.le_of_ble_eq_true rfl) dL_law__693 (fun vt M hp => ?_)
      obtain ⟨S2, ⟨rfl, rfl⟩, hL⟩ := hp
      rw [hS0]
      refine ziload C dL_law__696 rfl ?_
      refine zicmp_eq (tgt := 703) C dL_law__698 (by decide) (fun _ => ?_) (fun h => absurd rfl h)
      refine ziload C dL_law__703 rfl ?_
      refine zif_ne_t (tgt := 720) C dL_law__705 (by decide) (nIj hj3) ?_
      refine zgoto (tgt := 2026) C dL_law__720 (by decide) ?_
      refine zfor [true, true, true, true, true, false, false, false] rfl ?_
      exact kk _ _ _ ⟨K, _, f, ad, hL, hT1, by omega, by omega⟩
  · refine zconst (v := 1) C dL_law__625 (by decide) ?_
    refine zgoto (tgt := 630) C dL_law__626 (by decide) ?_
    refine zaload_n C dL_law__630 rfl ?_
    refine ziload C dL_law__631 rfl ?_
    refine zconst (v := 2) C dL_law__633 (by decide) ?_
    refine ziadd C dL_law__634 ?_
    refine zsldG (i0 := 5 * n + 2) C hX hbl hbA (nI_add (5 * n) 2) (by omega) (by omega) dL_law__635 ?_
    refine zaload_n C dL_law__636 rfl ?_
    refine ziload C dL_law__637 rfl ?_
    refine zconst (v := 3) C dL_law__639 (by decide) ?_
    refine ziadd C dL_law__640 ?_
    refine zsldG (i0 := 5 * n + 3) C hX hbl hbA (nI_add (5 * n) 3) (by omega) (by omega) dL_law__641 ?_
    refine zaload_n C dL_law__642 rfl ?_
    refine ziload C dL_law__643 rfl ?_
    refine zconst (v := 4) C dL_law__645 (by decide) ?_
    refine ziadd C dL_law__646 ?_
    refine zsldG (i0 := 5 * n + 4) C hX hbl hbA (nI_add (5 * n) 4) (by omega) (by omega) dL_law__647 ?_
    refine zaload_n C dL_law__648 rfl ?_
    refine zcallSW (np := 6) C hN (v_person true (xs (5 * n + 2)) (xs (5 * n + 3)) (xs (5 * n + 4)) hL hok) hcw_person zini (by decide) (by decide +kernel) hl_L_134 rfl rfl (by decide) (by decide) (by omega) (by omega) rfl (by exact Nat.le_of_ble_eq_true rfl) dL_law__649 (fun w M1 hp => ?_)
    rcases hp with ⟨rfl, hx0, f2, ad1, hL, hf⟩ | ⟨j, c, hj, hj3, rfl, hxc, rfl⟩
    · obtain ⟨hS0, hev, hT1, hcF⟩ := (hs true (xs (5 * n + 2)) (xs (5 * n + 3)) (xs (5 * n + 4))).1 hx0
      refine zistore (L1 := [_, _, _, _, _, _, _, _]) C dL_law__652 rfl (Nat.le_of_ble_eq_true rfl) ?_
      refine zaload_n C dL_law__654 rfl ?_
      refine zaload_n C dL_law__655 rfl ?_
      refine ziload C dL_law__656 rfl ?_
      refine zconst (v := 1) C dL_law__658 (by decide) ?_
      refine ziadd C dL_law__659 ?_
      refine zsldG (i0 := 5 * n + 1) C hX hbl hbA (nI_add (5 * n) 1) (by omega) (by omega) dL_law__660 ?_
      refine zif_eq_f (tgt := 668) C dL_law__661 (by decide) hx1 ?_
      refine zconst (v := 1) C dL_law__664 (by decide) ?_
      refine zgoto (tgt := 669) C dL_law__665 (by decide) ?_
      refine zaload_n C dL_law__669 rfl ?_
      refine ziload C dL_law__670 rfl ?_
      refine zconst (v := 2) C dL_law__672 (by decide) ?_
      refine ziadd C dL_law__673 ?_
      refine zsldG (i0 := 5 * n + 2) C hX hbl hbA (nI_add (5 * n) 2) (by omega) (by omega) dL_law__674 ?_
      refine zaload_n C dL_law__675 rfl ?_
      refine ziload C dL_law__676 rfl ?_
      refine zconst (v := 3) C dL_law__678 (by decide) ?_
      refine ziadd C dL_law__679 ?_
      refine zsldG (i0 := 5 * n + 3) C hX hbl hbA (nI_add (5 * n) 3) (by omega) (by omega) dL_law__680 ?_
      refine zaload_n C dL_law__681 rfl ?_
      refine ziload C dL_law__682 rfl ?_
      refine zconst (v := 4) C dL_law__684 (by decide) ?_
      refine ziadd C dL_law__685 ?_
      refine zsldG (i0 := 5 * n + 4) C hX hbl hbA (nI_add (5 * n) 4) (by omega) (by omega) dL_law__686 ?_
      refine zcallV C (hL.call (m_person true (xs (5 * n + 2)) (xs (5 * n + 3)) (xs (5 * n + 4)) hok.2.1 hok.2.2.1 hok.2.2.2.1)) hy_X8_person hv_X8_person hl_L_137 hL.atmo rfl rfl rfl rfl (by decide) (by decide) (by omega) (by omega) rfl (by exact Nat.le_of_ble_eq_true rfl) dL_law__687 (fun v M hp => ?_)
      obtain ⟨S1, hv, hL⟩ := hp
      have e1 : S1 = (o_person S (b2i true) (xs (5 * n + 2)) (xs (5 * n + 3)) (xs (5 * n + 4))).1 := congrArg Prod.fst hv
      have e2 : v = (o_person S (b2i true) (xs (5 * n + 2)) (xs (5 * n + 3)) (xs (5 * n + 4))).2 := congrArg Prod.snd hv
      clear hv
      subst e1
      subst e2
      refine zistore (L1 := [_, _, _, _, _, _, _, _]) C dL_law__690 rfl (Nat.le_of_ble_eq_true rfl) ?_
      refine zaload_n C dL_law__692 rfl ?_
      refine zcallV C (hL.call m_thrown) hy_X8_thrown hv_X8_thrown hl_L_112 hL.atmo rfl rfl rfl rfl (by decide) (by decide) (by omega) (by omega) rfl (by exact Nat.le_of_ble_eq_true rfl) dL_law__693 (fun vt M hp => ?_)
      obtain ⟨S2, ⟨rfl, rfl⟩, hL⟩ := hp
      rw [hS0]
      refine ziload C dL_law__696 rfl ?_
      refine zicmp_eq (tgt := 703) C dL_law__698 (by decide) (fun _ => ?_) (fun h => absurd rfl h)
      refine ziload C dL_law__703 rfl ?_
      refine zif_ne_f (tgt := 720) C dL_law__705 (by decide) (by decide) ?_
      refine zaload_n C dL_law__708 rfl ?_
      refine zconst (v := 0) C dL_law__709 (by decide) ?_
      refine zrjald (i0 := 0) C hL.atout rfl (by decide) (by decide) dL_law__710 ?_
      refine ziload C dL_law__711 rfl ?_
      refine zi2l C dL_law__713 ?_
      refine zlcmp C dL_law__714 ?_
      refine zif_eq_t (tgt := 720) C dL_law__715 (by decide) ((lg_cmp_eq _ _).mpr (hf.trans (congrArg Int32.toInt64 hev))) ?_
      refine zgoto (tgt := 2026) C dL_law__720 (by decide) ?_
      refine zfor [true, true, true, true, true, false, false, false] rfl ?_
      exact kk _ _ _ ⟨_, _, f2, ad1, hL, hT1, by omega, by omega⟩
    · obtain ⟨hS0, hT1⟩ := (hs true (xs (5 * n + 2)) (xs (5 * n + 3)) (xs (5 * n + 4))).2 j c hj hxc
      refine zistore (L1 := [_, _, _, _, _, _, _, _]) C dL_law__652 rfl (Nat.le_of_ble_eq_true rfl) ?_
      refine zaload_n C dL_law__654 rfl ?_
      refine zaload_n C dL_law__655 rfl ?_
      refine ziload C dL_law__656 rfl ?_
      refine zconst (v := 1) C dL_law__658 (by decide) ?_
      refine ziadd C dL_law__659 ?_
      refine zsldG (i0 := 5 * n + 1) C hX hbl hbA (nI_add (5 * n) 1) (by omega) (by omega) dL_law__660 ?_
      refine zif_eq_f (tgt := 668) C dL_law__661 (by decide) hx1 ?_
      refine zconst (v := 1) C dL_law__664 (by decide) ?_
      refine zgoto (tgt := 669) C dL_law__665 (by decide) ?_
      refine zaload_n C dL_law__669 rfl ?_
      refine ziload C dL_law__670 rfl ?_
      refine zconst (v := 2) C dL_law__672 (by decide) ?_
      refine ziadd C dL_law__673 ?_
      refine zsldG (i0 := 5 * n + 2) C hX hbl hbA (nI_add (5 * n) 2) (by omega) (by omega) dL_law__674 ?_
      refine zaload_n C dL_law__675 rfl ?_
      refine ziload C dL_law__676 rfl ?_
      refine zconst (v := 3) C dL_law__678 (by decide) ?_
      refine ziadd C dL_law__679 ?_
      refine zsldG (i0 := 5 * n + 3) C hX hbl hbA (nI_add (5 * n) 3) (by omega) (by omega) dL_law__680 ?_
      refine zaload_n C dL_law__681 rfl ?_
      refine ziload C dL_law__682 rfl ?_
      refine zconst (v := 4) C dL_law__684 (by decide) ?_
      refine ziadd C dL_law__685 ?_
      refine zsldG (i0 := 5 * n + 4) C hX hbl hbA (nI_add (5 * n) 4) (by omega) (by omega) dL_law__686 ?_
      refine zcallV C (hL.call (m_person true (xs (5 * n + 2)) (xs (5 * n + 3)) (xs (5 * n + 4)) hok.2.1 hok.2.2.1 hok.2.2.2.1)) hy_X8_person hv_X8_person hl_L_137 hL.atmo rfl rfl rfl rfl (by decide) (by decide) (by omega) (by omega) rfl (by exact Nat.le_of_ble_eq_true rfl) dL_law__687 (fun v M hp => ?_)
      obtain ⟨S1, hv, hL⟩ := hp
      have e1 : S1 = (o_person S (b2i true) (xs (5 * n + 2)) (xs (5 * n + 3)) (xs (5 * n + 4))).1 := congrArg Prod.fst hv
      have e2 : v = (o_person S (b2i true) (xs (5 * n + 2)) (xs (5 * n + 3)) (xs (5 * n + 4))).2 := congrArg Prod.snd hv
      clear hv
      subst e1
      subst e2
      refine zistore (L1 := [_, _, _, _, _, _, _, _]) C dL_law__690 rfl (Nat.le_of_ble_eq_true rfl) ?_
      refine zaload_n C dL_law__692 rfl ?_
      refine zcallV C (hL.call m_thrown) hy_X8_thrown hv_X8_thrown hl_L_112 hL.atmo rfl rfl rfl rfl (by decide) (by decide) (by omega) (by omega) rfl (by exact Nat.le_of_ble_eq_true rfl) dL_law__693 (fun vt M hp => ?_)
      obtain ⟨S2, ⟨rfl, rfl⟩, hL⟩ := hp
      rw [hS0]
      refine ziload C dL_law__696 rfl ?_
      refine zicmp_eq (tgt := 703) C dL_law__698 (by decide) (fun _ => ?_) (fun h => absurd rfl h)
      refine ziload C dL_law__703 rfl ?_
      refine zif_ne_t (tgt := 720) C dL_law__705 (by decide) (nIj hj3) ?_
      refine zgoto (tgt := 2026) C dL_law__720 (by decide) ?_
      refine zfor [true, true, true, true, true, false, false, false] rfl ?_
      exact kk _ _ _ ⟨K, _, f, ad, hL, hT1, by omega, by omega⟩
set_option maxRecDepth 100000 in
set_option maxHeartbeats 2000000 in
theorem lc_turn {g : zGh} {X : zX} (C : zC g X RL cL_law_ 8 12 454 711863 6960515) (hN : zNc X.1.2.2.2) {b Ls n : Nat} {xs : Nat → Int32} (hX : va_X b Ls xs X.1.2.2.2 X.1.2.2.2.heap) (hbl : b < X.1.2.2.2.heap.size) (hbA : ¬ zA g b) (hn : 5 * n + 5 ≤ Ls) (hLs : Ls ≤ 2560) {mo : Nat} {mad : Nat → Nat} {o x : Nat} {K : zK} {S : zS} {f : Nat → Int64} {ad : zg → Nat} {M : zM} {k m : Nat} (hL : zLw g mo mad o x K S f ad M) (hok : zOK K S) (T : Nat → zK → zS → Prop) (hs : ∀ (a0 : Int32) (a1 : Int32) (a2 : Int32) (a3 : Int32), lcal T n K (x_turn K a0 a1 a2 a3) [1, 2, 3] (k_turn K a0 a1) (o_turn S a0 a1 a2 a3).1 ((nI (K.1 1) + 30) = (o_turn S a0 a1 a2 a3).2)) (hk : k ≤ 100 + 100 * n + cF K) (hm : m ≤ 50000 + 6000 * n + 4 * cF K) (kk : ∀ M1 k1 m1, zLI T g mo mad o x (n + 1) M1 k1 m1 → zG g X M1 k1 m1 2026 [some (.ref b), some (.ref x), some (.ref mo), some (.ref o), some (.int (nI (5 * n))), none, none, none] []) : zG g X M k m 723 [some (.ref b), some (.ref x), some (.ref mo), some (.ref o), some (.int (nI (5 * n))), none, none, none] [] := by
  have hc := hok.1.2.2.2.2.2
  refine zaload_n C dL_law__723 rfl ?_
  refine zaload_n C dL_law__724 rfl ?_
  refine ziload C dL_law__725 rfl ?_
  refine zconst (v := 1) C dL_law__727 (by decide) ?_
  refine ziadd C dL_law__728 ?_
  refine zsldG (i0 := 5 * n + 1) C hX hbl hbA (nI_add (5 * n) 1) (by omega) (by omega) dL_law__729 ?_
  refine zaload_n C dL_law__730 rfl ?_
  refine ziload C dL_law__731 rfl ?_
  refine zconst (v := 2) C dL_law__733 (by decide) ?_
  refine ziadd C dL_law__734 ?_
  refine zsldG (i0 := 5 * n + 2) C hX hbl hbA (nI_add (5 * n) 2) (by omega) (by omega) dL_law__735 ?_
  refine zaload_n C dL_law__736 rfl ?_
  refine ziload C dL_law__737 rfl ?_
  refine zconst (v := 3) C dL_law__739 (by decide) ?_
  refine ziadd C dL_law__740 ?_
  refine zsldG (i0 := 5 * n + 3) C hX hbl hbA (nI_add (5 * n) 3) (by omega) (by omega) dL_law__741 ?_
  refine zaload_n C dL_law__742 rfl ?_
  refine ziload C dL_law__743 rfl ?_
  refine zconst (v := 4) C dL_law__745 (by decide) ?_
  refine ziadd C dL_law__746 ?_
  refine zsldG (i0 := 5 * n + 4) C hX hbl hbA (nI_add (5 * n) 4) (by omega) (by omega) dL_law__747 ?_
  refine zaload_n C dL_law__748 rfl ?_
  refine zcallSW (np := 6) C hN (v_turn (xs (5 * n + 1)) (xs (5 * n + 2)) (xs (5 * n + 3)) (xs (5 * n + 4)) hL hok) hcw_turn zini (by decide) (by decide +kernel) hl_L_138 rfl rfl (by decide) (by decide) (by omega) (by omega) rfl (by exact Nat.le_of_ble_eq_true rfl) dL_law__749 (fun w M1 hp => ?_)
  rcases hp with ⟨rfl, hx0, f2, ad1, hL, hf⟩ | ⟨j, c, hj, hj3, rfl, hxc, rfl⟩
  · obtain ⟨hS0, hev, hT1, hcF⟩ := (hs (xs (5 * n + 1)) (xs (5 * n + 2)) (xs (5 * n + 3)) (xs (5 * n + 4))).1 hx0
    refine zistore (L1 := [_, _, _, _, _, _, _, _]) C dL_law__752 rfl (Nat.le_of_ble_eq_true rfl) ?_
    refine zaload_n C dL_law__754 rfl ?_
    refine zaload_n C dL_law__755 rfl ?_
    refine ziload C dL_law__756 rfl ?_
    refine zconst (v := 1) C dL_law__758 (by decide) ?_
    refine ziadd C dL_law__759 ?_
    refine zsldG (i0 := 5 * n + 1) C hX hbl hbA (nI_add (5 * n) 1) (by omega) (by omega) dL_law__760 ?_
    refine zaload_n C dL_law__761 rfl ?_
    refine ziload C dL_law__762 rfl ?_
    refine zconst (v := 2) C dL_law__764 (by decide) ?_
    refine ziadd C dL_law__765 ?_
    refine zsldG (i0 := 5 * n + 2) C hX hbl hbA (nI_add (5 * n) 2) (by omega) (by omega) dL_law__766 ?_
    refine zaload_n C dL_law__767 rfl ?_
    refine ziload C dL_law__768 rfl ?_
    refine zconst (v := 3) C dL_law__770 (by decide) ?_
    refine ziadd C dL_law__771 ?_
    refine zsldG (i0 := 5 * n + 3) C hX hbl hbA (nI_add (5 * n) 3) (by omega) (by omega) dL_law__772 ?_
    refine zaload_n C dL_law__773 rfl ?_
    refine ziload C dL_law__774 rfl ?_
    refine zconst (v := 4) C dL_law__776 (by decide) ?_
    refine ziadd C dL_law__777 ?_
    refine zsldG (i0 := 5 * n + 4) C hX hbl hbA (nI_add (5 * n) 4) (by omega) (by omega) dL_law__778 ?_
    refine zcallV C (hL.call (m_turn (xs (5 * n + 1)) (xs (5 * n + 2)) (xs (5 * n + 3)) (xs (5 * n + 4)) hok.2.1 hok.2.2.1)) hy_X8_turn hv_X8_turn hl_L_140 hL.atmo rfl rfl rfl rfl (by decide) (by decide) (by omega) (by omega) rfl (by exact Nat.le_of_ble_eq_true rfl) dL_law__779 (fun v M hp => ?_)
    obtain ⟨S1, hv, hL⟩ := hp
    have e1 : S1 = (o_turn S (xs (5 * n + 1)) (xs (5 * n + 2)) (xs (5 * n + 3)) (xs (5 * n + 4))).1 := congrArg Prod.fst hv
    have e2 : v = (o_turn S (xs (5 * n + 1)) (xs (5 * n + 2)) (xs (5 * n + 3)) (xs (5 * n + 4))).2 := congrArg Prod.snd hv
    clear hv
    subst e1
    subst e2
    refine zistore (L1 := [_, _, _, _, _, _, _, _]) C dL_law__782 rfl (Nat.le_of_ble_eq_true rfl) ?_
    refine zaload_n C dL_law__784 rfl ?_
    refine zcallV C (hL.call m_thrown) hy_X8_thrown hv_X8_thrown hl_L_112 hL.atmo rfl rfl rfl rfl (by decide) (by decide) (by omega) (by omega) rfl (by exact Nat.le_of_ble_eq_true rfl) dL_law__785 (fun vt M hp => ?_)
    obtain ⟨S2, ⟨rfl, rfl⟩, hL⟩ := hp
    rw [hS0]
    refine ziload C dL_law__788 rfl ?_
    refine zicmp_eq (tgt := 795) C dL_law__790 (by decide) (fun _ => ?_) (fun h => absurd rfl h)
    refine ziload C dL_law__795 rfl ?_
    refine zif_ne_f (tgt := 812) C dL_law__797 (by decide) (by decide) ?_
    refine zaload_n C dL_law__800 rfl ?_
    refine zconst (v := 0) C dL_law__801 (by decide) ?_
    refine zrjald (i0 := 0) C hL.atout rfl (by decide) (by decide) dL_law__802 ?_
    refine ziload C dL_law__803 rfl ?_
    refine zi2l C dL_law__805 ?_
    refine zlcmp C dL_law__806 ?_
    refine zif_eq_t (tgt := 812) C dL_law__807 (by decide) ((lg_cmp_eq _ _).mpr (hf.trans (congrArg Int32.toInt64 hev))) ?_
    refine zgoto (tgt := 2026) C dL_law__812 (by decide) ?_
    refine zfor [true, true, true, true, true, false, false, false] rfl ?_
    exact kk _ _ _ ⟨_, _, f2, ad1, hL, hT1, by omega, by omega⟩
  · obtain ⟨hS0, hT1⟩ := (hs (xs (5 * n + 1)) (xs (5 * n + 2)) (xs (5 * n + 3)) (xs (5 * n + 4))).2 j c hj hxc
    refine zistore (L1 := [_, _, _, _, _, _, _, _]) C dL_law__752 rfl (Nat.le_of_ble_eq_true rfl) ?_
    refine zaload_n C dL_law__754 rfl ?_
    refine zaload_n C dL_law__755 rfl ?_
    refine ziload C dL_law__756 rfl ?_
    refine zconst (v := 1) C dL_law__758 (by decide) ?_
    refine ziadd C dL_law__759 ?_
    refine zsldG (i0 := 5 * n + 1) C hX hbl hbA (nI_add (5 * n) 1) (by omega) (by omega) dL_law__760 ?_
    refine zaload_n C dL_law__761 rfl ?_
    refine ziload C dL_law__762 rfl ?_
    refine zconst (v := 2) C dL_law__764 (by decide) ?_
    refine ziadd C dL_law__765 ?_
    refine zsldG (i0 := 5 * n + 2) C hX hbl hbA (nI_add (5 * n) 2) (by omega) (by omega) dL_law__766 ?_
    refine zaload_n C dL_law__767 rfl ?_
    refine ziload C dL_law__768 rfl ?_
    refine zconst (v := 3) C dL_law__770 (by decide) ?_
    refine ziadd C dL_law__771 ?_
    refine zsldG (i0 := 5 * n + 3) C hX hbl hbA (nI_add (5 * n) 3) (by omega) (by omega) dL_law__772 ?_
    refine zaload_n C dL_law__773 rfl ?_
    refine ziload C dL_law__774 rfl ?_
    refine zconst (v := 4) C dL_law__776 (by decide) ?_
    refine ziadd C dL_law__777 ?_
    refine zsldG (i0 := 5 * n + 4) C hX hbl hbA (nI_add (5 * n) 4) (by omega) (by omega) dL_law__778 ?_
    refine zcallV C (hL.call (m_turn (xs (5 * n + 1)) (xs (5 * n + 2)) (xs (5 * n + 3)) (xs (5 * n + 4)) hok.2.1 hok.2.2.1)) hy_X8_turn hv_X8_turn hl_L_140 hL.atmo rfl rfl rfl rfl (by decide) (by decide) (by omega) (by omega) rfl (by exact Nat.le_of_ble_eq_true rfl) dL_law__779 (fun v M hp => ?_)
    obtain ⟨S1, hv, hL⟩ := hp
    have e1 : S1 = (o_turn S (xs (5 * n + 1)) (xs (5 * n + 2)) (xs (5 * n + 3)) (xs (5 * n + 4))).1 := congrArg Prod.fst hv
    have e2 : v = (o_turn S (xs (5 * n + 1)) (xs (5 * n + 2)) (xs (5 * n + 3)) (xs (5 * n + 4))).2 := congrArg Prod.snd hv
    clear hv
    subst e1
    subst e2
    refine zistore (L1 := [_, _, _, _, _, _, _, _]) C dL_law__782 rfl (Nat.le_of_ble_eq_true rfl) ?_
    refine zaload_n C dL_law__784 rfl ?_
    refine zcallV C (hL.call m_thrown) hy_X8_thrown hv_X8_thrown hl_L_112 hL.atmo rfl rfl rfl rfl (by decide) (by decide) (by omega) (by omega) rfl (by exact Nat.le_of_ble_eq_true rfl) dL_law__785 (fun vt M hp => ?_)
    obtain ⟨S2, ⟨rfl, rfl⟩, hL⟩ := hp
    rw [hS0]
    refine ziload C dL_law__788 rfl ?_
    refine zicmp_eq (tgt := 795) C dL_law__790 (by decide) (fun _ => ?_) (fun h => absurd rfl h)
    refine ziload C dL_law__795 rfl ?_
    refine zif_ne_t (tgt := 812) C dL_law__797 (by decide) (nIj hj3) ?_
    refine zgoto (tgt := 2026) C dL_law__812 (by decide) ?_
    refine zfor [true, true, true, true, true, false, false, false] rfl ?_
    exact kk _ _ _ ⟨K, _, f, ad, hL, hT1, by omega, by omega⟩
set_option maxRecDepth 100000 in
set_option maxHeartbeats 2000000 in
theorem lc_recant {g : zGh} {X : zX} (C : zC g X RL cL_law_ 8 12 454 711863 6960515) (hN : zNc X.1.2.2.2) {b Ls n : Nat} {xs : Nat → Int32} (hX : va_X b Ls xs X.1.2.2.2 X.1.2.2.2.heap) (hbl : b < X.1.2.2.2.heap.size) (hbA : ¬ zA g b) (hn : 5 * n + 5 ≤ Ls) (hLs : Ls ≤ 2560) {mo : Nat} {mad : Nat → Nat} {o x : Nat} {K : zK} {S : zS} {f : Nat → Int64} {ad : zg → Nat} {M : zM} {k m : Nat} (hL : zLw g mo mad o x K S f ad M) (hok : zOK K S) (T : Nat → zK → zS → Prop) (hs : ∀ (a0 : Int32), lcal T n K (x_recant K a0) [1, 3] (k_recant K a0) (o_recant S a0).1 ((kpe K a0.toNatClampNeg).2.2.2.2.2.2.1 = (o_recant S a0).2)) (hk : k ≤ 100 + 100 * n + cF K) (hm : m ≤ 50000 + 6000 * n + 4 * cF K) (kk : ∀ M1 k1 m1, zLI T g mo mad o x (n + 1) M1 k1 m1 → zG g X M1 k1 m1 2026 [some (.ref b), some (.ref x), some (.ref mo), some (.ref o), some (.int (nI (5 * n))), none, none, none] []) : zG g X M k m 815 [some (.ref b), some (.ref x), some (.ref mo), some (.ref o), some (.int (nI (5 * n))), none, none, none] [] := by
  have hc := hok.1.2.2.2.2.2
  refine zaload_n C dL_law__815 rfl ?_
  refine zaload_n C dL_law__816 rfl ?_
  refine ziload C dL_law__817 rfl ?_
  refine zconst (v := 1) C dL_law__819 (by decide) ?_
  refine ziadd C dL_law__820 ?_
  refine zsldG (i0 := 5 * n + 1) C hX hbl hbA (nI_add (5 * n) 1) (by omega) (by omega) dL_law__821 ?_
  refine zaload_n C dL_law__822 rfl ?_
  refine zcallSW (np := 3) C hN (v_recant (xs (5 * n + 1)) hL hok) hcw_recant zini (by decide) (by decide +kernel) hl_L_141 rfl rfl (by decide) (by decide) (by omega) (by omega) rfl (by exact Nat.le_of_ble_eq_true rfl) dL_law__823 (fun w M1 hp => ?_)
  rcases hp with ⟨rfl, hx0, f2, ad1, hL, hf⟩ | ⟨j, c, hj, hj3, rfl, hxc, rfl⟩
  · obtain ⟨hS0, hev, hT1, hcF⟩ := (hs (xs (5 * n + 1))).1 hx0
    refine zistore (L1 := [_, _, _, _, _, _, _, _]) C dL_law__826 rfl (Nat.le_of_ble_eq_true rfl) ?_
    refine zaload_n C dL_law__828 rfl ?_
    refine zaload_n C dL_law__829 rfl ?_
    refine ziload C dL_law__830 rfl ?_
    refine zconst (v := 1) C dL_law__832 (by decide) ?_
    refine ziadd C dL_law__833 ?_
    refine zsldG (i0 := 5 * n + 1) C hX hbl hbA (nI_add (5 * n) 1) (by omega) (by omega) dL_law__834 ?_
    refine zcallV C (hL.call (m_recant (xs (5 * n + 1)) hok.2.1)) hy_X8_recant hv_X8_recant hl_L_144 hL.atmo rfl rfl rfl rfl (by decide) (by decide) (by omega) (by omega) rfl (by exact Nat.le_of_ble_eq_true rfl) dL_law__835 (fun v M hp => ?_)
    obtain ⟨S1, hv, hL⟩ := hp
    have e1 : S1 = (o_recant S (xs (5 * n + 1))).1 := congrArg Prod.fst hv
    have e2 : v = (o_recant S (xs (5 * n + 1))).2 := congrArg Prod.snd hv
    clear hv
    subst e1
    subst e2
    refine zistore (L1 := [_, _, _, _, _, _, _, _]) C dL_law__838 rfl (Nat.le_of_ble_eq_true rfl) ?_
    refine zaload_n C dL_law__840 rfl ?_
    refine zcallV C (hL.call m_thrown) hy_X8_thrown hv_X8_thrown hl_L_112 hL.atmo rfl rfl rfl rfl (by decide) (by decide) (by omega) (by omega) rfl (by exact Nat.le_of_ble_eq_true rfl) dL_law__841 (fun vt M hp => ?_)
    obtain ⟨S2, ⟨rfl, rfl⟩, hL⟩ := hp
    rw [hS0]
    refine ziload C dL_law__844 rfl ?_
    refine zicmp_eq (tgt := 851) C dL_law__846 (by decide) (fun _ => ?_) (fun h => absurd rfl h)
    refine ziload C dL_law__851 rfl ?_
    refine zif_ne_f (tgt := 868) C dL_law__853 (by decide) (by decide) ?_
    refine zaload_n C dL_law__856 rfl ?_
    refine zconst (v := 0) C dL_law__857 (by decide) ?_
    refine zrjald (i0 := 0) C hL.atout rfl (by decide) (by decide) dL_law__858 ?_
    refine ziload C dL_law__859 rfl ?_
    refine zi2l C dL_law__861 ?_
    refine zlcmp C dL_law__862 ?_
    refine zif_eq_t (tgt := 868) C dL_law__863 (by decide) ((lg_cmp_eq _ _).mpr (hf.trans (congrArg Int32.toInt64 hev))) ?_
    refine zgoto (tgt := 2026) C dL_law__868 (by decide) ?_
    refine zfor [true, true, true, true, true, false, false, false] rfl ?_
    exact kk _ _ _ ⟨_, _, f2, ad1, hL, hT1, by omega, by omega⟩
  · obtain ⟨hS0, hT1⟩ := (hs (xs (5 * n + 1))).2 j c hj hxc
    refine zistore (L1 := [_, _, _, _, _, _, _, _]) C dL_law__826 rfl (Nat.le_of_ble_eq_true rfl) ?_
    refine zaload_n C dL_law__828 rfl ?_
    refine zaload_n C dL_law__829 rfl ?_
    refine ziload C dL_law__830 rfl ?_
    refine zconst (v := 1) C dL_law__832 (by decide) ?_
    refine ziadd C dL_law__833 ?_
    refine zsldG (i0 := 5 * n + 1) C hX hbl hbA (nI_add (5 * n) 1) (by omega) (by omega) dL_law__834 ?_
    refine zcallV C (hL.call (m_recant (xs (5 * n + 1)) hok.2.1)) hy_X8_recant hv_X8_recant hl_L_144 hL.atmo rfl rfl rfl rfl (by decide) (by decide) (by omega) (by omega) rfl (by exact Nat.le_of_ble_eq_true rfl) dL_law__835 (fun v M hp => ?_)
    obtain ⟨S1, hv, hL⟩ := hp
    have e1 : S1 = (o_recant S (xs (5 * n + 1))).1 := congrArg Prod.fst hv
    have e2 : v = (o_recant S (xs (5 * n + 1))).2 := congrArg Prod.snd hv
    clear hv
    subst e1
    subst e2
    refine zistore (L1 := [_, _, _, _, _, _, _, _]) C dL_law__838 rfl (Nat.le_of_ble_eq_true rfl) ?_
    refine zaload_n C dL_law__840 rfl ?_
    refine zcallV C (hL.call m_thrown) hy_X8_thrown hv_X8_thrown hl_L_112 hL.atmo rfl rfl rfl rfl (by decide) (by decide) (by omega) (by omega) rfl (by exact Nat.le_of_ble_eq_true rfl) dL_law__841 (fun vt M hp => ?_)
    obtain ⟨S2, ⟨rfl, rfl⟩, hL⟩ := hp
    rw [hS0]
    refine ziload C dL_law__844 rfl ?_
    refine zicmp_eq (tgt := 851) C dL_law__846 (by decide) (fun _ => ?_) (fun h => absurd rfl h)
    refine ziload C dL_law__851 rfl ?_
    refine zif_ne_t (tgt := 868) C dL_law__853 (by decide) (nIj hj3) ?_
    refine zgoto (tgt := 2026) C dL_law__868 (by decide) ?_
    refine zfor [true, true, true, true, true, false, false, false] rfl ?_
    exact kk _ _ _ ⟨K, _, f, ad, hL, hT1, by omega, by omega⟩
set_option maxRecDepth 100000 in
set_option maxHeartbeats 2000000 in
theorem lc_faith {g : zGh} {X : zX} (C : zC g X RL cL_law_ 8 12 454 711863 6960515) (hN : zNc X.1.2.2.2) {b Ls n : Nat} {xs : Nat → Int32} (hX : va_X b Ls xs X.1.2.2.2 X.1.2.2.2.heap) (hbl : b < X.1.2.2.2.heap.size) (hbA : ¬ zA g b) (hn : 5 * n + 5 ≤ Ls) (hLs : Ls ≤ 2560) {mo : Nat} {mad : Nat → Nat} {o x : Nat} {K : zK} {S : zS} {f : Nat → Int64} {ad : zg → Nat} {M : zM} {k m : Nat} (hL : zLw g mo mad o x K S f ad M) (hok : zOK K S) (T : Nat → zK → zS → Prop) (hs : ∀ (a0 : Int32) (a1 : Int32), lcal T n K (x_faith K a0 a1) [1, 2] (K) (o_faith S a0 a1).1 ((a_faith K a0 a1) = (o_faith S a0 a1).2)) (hk : k ≤ 100 + 100 * n + cF K) (hm : m ≤ 50000 + 6000 * n + 4 * cF K) (kk : ∀ M1 k1 m1, zLI T g mo mad o x (n + 1) M1 k1 m1 → zG g X M1 k1 m1 2026 [some (.ref b), some (.ref x), some (.ref mo), some (.ref o), some (.int (nI (5 * n))), none, none, none] []) : zG g X M k m 871 [some (.ref b), some (.ref x), some (.ref mo), some (.ref o), some (.int (nI (5 * n))), none, none, none] [] := by
  have hc := hok.1.2.2.2.2.2
  refine zaload_n C dL_law__871 rfl ?_
  refine zaload_n C dL_law__872 rfl ?_
  refine ziload C dL_law__873 rfl ?_
  refine zconst (v := 1) C dL_law__875 (by decide) ?_
  refine ziadd C dL_law__876 ?_
  refine zsldG (i0 := 5 * n + 1) C hX hbl hbA (nI_add (5 * n) 1) (by omega) (by omega) dL_law__877 ?_
  refine zaload_n C dL_law__878 rfl ?_
  refine ziload C dL_law__879 rfl ?_
  refine zconst (v := 2) C dL_law__881 (by decide) ?_
  refine ziadd C dL_law__882 ?_
  refine zsldG (i0 := 5 * n + 2) C hX hbl hbA (nI_add (5 * n) 2) (by omega) (by omega) dL_law__883 ?_
  refine zaload_n C dL_law__884 rfl ?_
  refine zcallSW (np := 4) C hN (v_faith (xs (5 * n + 1)) (xs (5 * n + 2)) hL hok) hcw_faith zini (by decide) (by decide +kernel) hl_L_145 rfl rfl (by decide) (by decide) (by omega) (by omega) rfl (by exact Nat.le_of_ble_eq_true rfl) dL_law__885 (fun w M1 hp => ?_)
  rcases hp with ⟨rfl, hx0, f2, ad1, hL, hf⟩ | ⟨j, c, hj, hj3, rfl, hxc, rfl⟩
  · obtain ⟨hS0, hev, hT1, hcF⟩ := (hs (xs (5 * n + 1)) (xs (5 * n + 2))).1 hx0
    refine zistore (L1 := [_, _, _, _, _, _, _, _]) C dL_law__888 rfl (Nat.le_of_ble_eq_true rfl) ?_
    refine zaload_n C dL_law__890 rfl ?_
    refine zaload_n C dL_law__891 rfl ?_
    refine ziload C dL_law__892 rfl ?_
    refine zconst (v := 1) C dL_law__894 (by decide) ?_
    refine ziadd C dL_law__895 ?_
    refine zsldG (i0 := 5 * n + 1) C hX hbl hbA (nI_add (5 * n) 1) (by omega) (by omega) dL_law__896 ?_
    refine zaload_n C dL_law__897 rfl ?_
    refine ziload C dL_law__898 rfl ?_
    refine zconst (v := 2) C dL_law__900 (by decide) ?_
    refine ziadd C dL_law__901 ?_
    refine zsldG (i0 := 5 * n + 2) C hX hbl hbA (nI_add (5 * n) 2) (by omega) (by omega) dL_law__902 ?_
    refine zcallV C (hL.call (m_faith (xs (5 * n + 1)) (xs (5 * n + 2)) hok.2.1 hok.2.2.1)) hy_X8_faith hv_X8_faith hl_L_147 hL.atmo rfl rfl rfl rfl (by decide) (by decide) (by omega) (by omega) rfl (by exact Nat.le_of_ble_eq_true rfl) dL_law__903 (fun v M hp => ?_)
    obtain ⟨S1, hv, hL⟩ := hp
    have e1 : S1 = (o_faith S (xs (5 * n + 1)) (xs (5 * n + 2))).1 := congrArg Prod.fst hv
    have e2 : v = (o_faith S (xs (5 * n + 1)) (xs (5 * n + 2))).2 := congrArg Prod.snd hv
    clear hv
    subst e1
    subst e2
    refine zistore (L1 := [_, _, _, _, _, _, _, _]) C dL_law__906 rfl (Nat.le_of_ble_eq_true rfl) ?_
    refine zaload_n C dL_law__908 rfl ?_
    refine zcallV C (hL.call m_thrown) hy_X8_thrown hv_X8_thrown hl_L_112 hL.atmo rfl rfl rfl rfl (by decide) (by decide) (by omega) (by omega) rfl (by exact Nat.le_of_ble_eq_true rfl) dL_law__909 (fun vt M hp => ?_)
    obtain ⟨S2, ⟨rfl, rfl⟩, hL⟩ := hp
    rw [hS0]
    refine ziload C dL_law__912 rfl ?_
    refine zicmp_eq (tgt := 919) C dL_law__914 (by decide) (fun _ => ?_) (fun h => absurd rfl h)
    refine ziload C dL_law__919 rfl ?_
    refine zif_ne_f (tgt := 936) C dL_law__921 (by decide) (by decide) ?_
    refine zaload_n C dL_law__924 rfl ?_
    refine zconst (v := 0) C dL_law__925 (by decide) ?_
    refine zrjald (i0 := 0) C hL.atout rfl (by decide) (by decide) dL_law__926 ?_
    refine ziload C dL_law__927 rfl ?_
    refine zi2l C dL_law__929 ?_
    refine zlcmp C dL_law__930 ?_
    refine zif_eq_t (tgt := 936) C dL_law__931 (by decide) ((lg_cmp_eq _ _).mpr (hf.trans (congrArg Int32.toInt64 hev))) ?_
    refine zgoto (tgt := 2026) C dL_law__936 (by decide) ?_
    refine zfor [true, true, true, true, true, false, false, false] rfl ?_
    exact kk _ _ _ ⟨_, _, f2, ad1, hL, hT1, by omega, by omega⟩
  · obtain ⟨hS0, hT1⟩ := (hs (xs (5 * n + 1)) (xs (5 * n + 2))).2 j c hj hxc
    refine zistore (L1 := [_, _, _, _, _, _, _, _]) C dL_law__888 rfl (Nat.le_of_ble_eq_true rfl) ?_
    refine zaload_n C dL_law__890 rfl ?_
    refine zaload_n C dL_law__891 rfl ?_
    refine ziload C dL_law__892 rfl ?_
    refine zconst (v := 1) C dL_law__894 (by decide) ?_
    refine ziadd C dL_law__895 ?_
    refine zsldG (i0 := 5 * n + 1) C hX hbl hbA (nI_add (5 * n) 1) (by omega) (by omega) dL_law__896 ?_
    refine zaload_n C dL_law__897 rfl ?_
    refine ziload C dL_law__898 rfl ?_
    refine zconst (v := 2) C dL_law__900 (by decide) ?_
    refine ziadd C dL_law__901 ?_
    refine zsldG (i0 := 5 * n + 2) C hX hbl hbA (nI_add (5 * n) 2) (by omega) (by omega) dL_law__902 ?_
    refine zcallV C (hL.call (m_faith (xs (5 * n + 1)) (xs (5 * n + 2)) hok.2.1 hok.2.2.1)) hy_X8_faith hv_X8_faith hl_L_147 hL.atmo rfl rfl rfl rfl (by decide) (by decide) (by omega) (by omega) rfl (by exact Nat.le_of_ble_eq_true rfl) dL_law__903 (fun v M hp => ?_)
    obtain ⟨S1, hv, hL⟩ := hp
    have e1 : S1 = (o_faith S (xs (5 * n + 1)) (xs (5 * n + 2))).1 := congrArg Prod.fst hv
    have e2 : v = (o_faith S (xs (5 * n + 1)) (xs (5 * n + 2))).2 := congrArg Prod.snd hv
    clear hv
    subst e1
    subst e2
    refine zistore (L1 := [_, _, _, _, _, _, _, _]) C dL_law__906 rfl (Nat.le_of_ble_eq_true rfl) ?_
    refine zaload_n C dL_law__908 rfl ?_
    refine zcallV C (hL.call m_thrown) hy_X8_thrown hv_X8_thrown hl_L_112 hL.atmo rfl rfl rfl rfl (by decide) (by decide) (by omega) (by omega) rfl (by exact Nat.le_of_ble_eq_true rfl) dL_law__909 (fun vt M hp => ?_)
    obtain ⟨S2, ⟨rfl, rfl⟩, hL⟩ := hp
    rw [hS0]
    refine ziload C dL_law__912 rfl ?_
    refine zicmp_eq (tgt := 919) C dL_law__914 (by decide) (fun _ => ?_) (fun h => absurd rfl h)
    refine ziload C dL_law__919 rfl ?_
    refine zif_ne_t (tgt := 936) C dL_law__921 (by decide) (nIj hj3) ?_
    refine zgoto (tgt := 2026) C dL_law__936 (by decide) ?_
    refine zfor [true, true, true, true, true, false, false, false] rfl ?_
    exact kk _ _ _ ⟨K, _, f, ad, hL, hT1, by omega, by omega⟩
set_option maxRecDepth 100000 in
set_option maxHeartbeats 2000000 in
theorem lc_marry {g : zGh} {X : zX} (C : zC g X RL cL_law_ 8 12 454 711863 6960515) (hN : zNc X.1.2.2.2) {b Ls n : Nat} {xs : Nat → Int32} (hX : va_X b Ls xs X.1.2.2.2 X.1.2.2.2.heap) (hbl : b < X.1.2.2.2.heap.size) (hbA : ¬ zA g b) (hn : 5 * n + 5 ≤ Ls) (hLs : Ls ≤ 2560) {mo : Nat} {mad : Nat → Nat} {o x : Nat} {K : zK} {S : zS} {f : Nat → Int64} {ad : zg → Nat} {M : zM} {k m : Nat} (hL : zLw g mo mad o x K S f ad M) (hok : zOK K S) (T : Nat → zK → zS → Prop) (hs : ∀ (a0 : Int32) (a1 : Int32) (a2 : Int32), lcal T n K (x_marry K a0 a1 a2) [1, 2, 3] (k_marry K a0 a1 a2) (o_marry S a0 a1 a2).1 ((nI (K.1 25)) = (o_marry S a0 a1 a2).2)) (hk : k ≤ 100 + 100 * n + cF K) (hm : m ≤ 50000 + 6000 * n + 4 * cF K) (kk : ∀ M1 k1 m1, zLI T g mo mad o x (n + 1) M1 k1 m1 → zG g X M1 k1 m1 2026 [some (.ref b), some (.ref x), some (.ref mo), some (.ref o), some (.int (nI (5 * n))), none, none, none] []) : zG g X M k m 939 [some (.ref b), some (.ref x), some (.ref mo), some (.ref o), some (.int (nI (5 * n))), none, none, none] [] := by
  have hc := hok.1.2.2.2.2.2
  refine zaload_n C dL_law__939 rfl ?_
  refine zaload_n C dL_law__940 rfl ?_
  refine ziload C dL_law__941 rfl ?_
  refine zconst (v := 1) C dL_law__943 (by decide) ?_
  refine ziadd C dL_law__944 ?_
  refine zsldG (i0 := 5 * n + 1) C hX hbl hbA (nI_add (5 * n) 1) (by omega) (by omega) dL_law__945 ?_
  refine zaload_n C dL_law__946 rfl ?_
  refine ziload C dL_law__947 rfl ?_
  refine zconst (v := 2) C dL_law__949 (by decide) ?_
  refine ziadd C dL_law__950 ?_
  refine zsldG (i0 := 5 * n + 2) C hX hbl hbA (nI_add (5 * n) 2) (by omega) (by omega) dL_law__951 ?_
  refine zaload_n C dL_law__952 rfl ?_
  refine ziload C dL_law__953 rfl ?_
  refine zconst (v := 3) C dL_law__955 (by decide) ?_
  refine ziadd C dL_law__956 ?_
  refine zsldG (i0 := 5 * n + 3) C hX hbl hbA (nI_add (5 * n) 3) (by omega) (by omega) dL_law__957 ?_
  refine zaload_n C dL_law__958 rfl ?_
  refine zcallSW (np := 5) C hN (v_marry (xs (5 * n + 1)) (xs (5 * n + 2)) (xs (5 * n + 3)) hL hok) hcw_marry zini (by decide) (by decide +kernel) hl_L_148 rfl rfl (by decide) (by decide) (by omega) (by omega) rfl (by exact Nat.le_of_ble_eq_true rfl) dL_law__959 (fun w M1 hp => ?_)
  rcases hp with ⟨rfl, hx0, f2, ad1, hL, hf⟩ | ⟨j, c, hj, hj3, rfl, hxc, rfl⟩
  · obtain ⟨hS0, hev, hT1, hcF⟩ := (hs (xs (5 * n + 1)) (xs (5 * n + 2)) (xs (5 * n + 3))).1 hx0
    refine zistore (L1 := [_, _, _, _, _, _, _, _]) C dL_law__962 rfl (Nat.le_of_ble_eq_true rfl) ?_
    refine zaload_n C dL_law__964 rfl ?_
    refine zaload_n C dL_law__965 rfl ?_
    refine ziload C dL_law__966 rfl ?_
    refine zconst (v := 1) C dL_law__968 (by decide) ?_
    refine ziadd C dL_law__969 ?_
    refine zsldG (i0 := 5 * n + 1) C hX hbl hbA (nI_add (5 * n) 1) (by omega) (by omega) dL_law__970 ?_
    refine zaload_n C dL_law__971 rfl ?_
    refine ziload C dL_law__972 rfl ?_
    refine zconst (v := 2) C dL_law__974 (by decide) ?_
    refine ziadd C dL_law__975 ?_
    refine zsldG (i0 := 5 * n + 2) C hX hbl hbA (nI_add (5 * n) 2) (by omega) (by omega) dL_law__976 ?_
    refine zaload_n C dL_law__977 rfl ?_
    refine ziload C dL_law__978 rfl ?_
    refine zconst (v := 3) C dL_law__980 (by decide) ?_
    refine ziadd C dL_law__981 ?_
    refine zsldG (i0 := 5 * n + 3) C hX hbl hbA (nI_add (5 * n) 3) (by omega) (by omega) dL_law__982 ?_
    refine zcallV C (hL.call (m_marry (xs (5 * n + 1)) (xs (5 * n + 2)) (xs (5 * n + 3)) hok.2.1 hok.2.2.1)) hy_X8_marry hv_X8_marry hl_L_150 hL.atmo rfl rfl rfl rfl (by decide) (by decide) (by omega) (by omega) rfl (by exact Nat.le_of_ble_eq_true rfl) dL_law__983 (fun v M hp => ?_)
    obtain ⟨S1, hv, hL⟩ := hp
    have e1 : S1 = (o_marry S (xs (5 * n + 1)) (xs (5 * n + 2)) (xs (5 * n + 3))).1 := congrArg Prod.fst hv
    have e2 : v = (o_marry S (xs (5 * n + 1)) (xs (5 * n + 2)) (xs (5 * n + 3))).2 := congrArg Prod.snd hv
    clear hv
    subst e1
    subst e2
    refine zistore (L1 := [_, _, _, _, _, _, _, _]) C dL_law__986 rfl (Nat.le_of_ble_eq_true rfl) ?_
    refine zaload_n C dL_law__988 rfl ?_
    refine zcallV C (hL.call m_thrown) hy_X8_thrown hv_X8_thrown hl_L_112 hL.atmo rfl rfl rfl rfl (by decide) (by decide) (by omega) (by omega) rfl (by exact Nat.le_of_ble_eq_true rfl) dL_law__989 (fun vt M hp => ?_)
    obtain ⟨S2, ⟨rfl, rfl⟩, hL⟩ := hp
    rw [hS0]
    refine ziload C dL_law__992 rfl ?_
    refine zicmp_eq (tgt := 999) C dL_law__994 (by decide) (fun _ => ?_) (fun h => absurd rfl h)
    refine ziload C dL_law__999 rfl ?_
    refine zif_ne_f (tgt := 1016) C dL_law__1001 (by decide) (by decide) ?_
    refine zaload_n C dL_law__1004 rfl ?_
    refine zconst (v := 0) C dL_law__1005 (by decide) ?_
    refine zrjald (i0 := 0) C hL.atout rfl (by decide) (by decide) dL_law__1006 ?_
    refine ziload C dL_law__1007 rfl ?_
    refine zi2l C dL_law__1009 ?_
    refine zlcmp C dL_law__1010 ?_
    refine zif_eq_t (tgt := 1016) C dL_law__1011 (by decide) ((lg_cmp_eq _ _).mpr (hf.trans (congrArg Int32.toInt64 hev))) ?_
    refine zgoto (tgt := 2026) C dL_law__1016 (by decide) ?_
    refine zfor [true, true, true, true, true, false, false, false] rfl ?_
    exact kk _ _ _ ⟨_, _, f2, ad1, hL, hT1, by omega, by omega⟩
  · obtain ⟨hS0, hT1⟩ := (hs (xs (5 * n + 1)) (xs (5 * n + 2)) (xs (5 * n + 3))).2 j c hj hxc
    refine zistore (L1 := [_, _, _, _, _, _, _, _]) C dL_law__962 rfl (Nat.le_of_ble_eq_true rfl) ?_
    refine zaload_n C dL_law__964 rfl ?_
    refine zaload_n C dL_law__965 rfl ?_
    refine ziload C dL_law__966 rfl ?_
    refine zconst (v := 1) C dL_law__968 (by decide) ?_
    refine ziadd C dL_law__969 ?_
    refine zsldG (i0 := 5 * n + 1) C hX hbl hbA (nI_add (5 * n) 1) (by omega) (by omega) dL_law__970 ?_
    refine zaload_n C dL_law__971 rfl ?_
    refine ziload C dL_law__972 rfl ?_
    refine zconst (v := 2) C dL_law__974 (by decide) ?_
    refine ziadd C dL_law__975 ?_
    refine zsldG (i0 := 5 * n + 2) C hX hbl hbA (nI_add (5 * n) 2) (by omega) (by omega) dL_law__976 ?_
    refine zaload_n C dL_law__977 rfl ?_
    refine ziload C dL_law__978 rfl ?_
    refine zconst (v := 3) C dL_law__980 (by decide) ?_
    refine ziadd C dL_law__981 ?_
    refine zsldG (i0 := 5 * n + 3) C hX hbl hbA (nI_add (5 * n) 3) (by omega) (by omega) dL_law__982 ?_
    refine zcallV C (hL.call (m_marry (xs (5 * n + 1)) (xs (5 * n + 2)) (xs (5 * n + 3)) hok.2.1 hok.2.2.1)) hy_X8_marry hv_X8_marry hl_L_150 hL.atmo rfl rfl rfl rfl (by decide) (by decide) (by omega) (by omega) rfl (by exact Nat.le_of_ble_eq_true rfl) dL_law__983 (fun v M hp => ?_)
    obtain ⟨S1, hv, hL⟩ := hp
    have e1 : S1 = (o_marry S (xs (5 * n + 1)) (xs (5 * n + 2)) (xs (5 * n + 3))).1 := congrArg Prod.fst hv
    have e2 : v = (o_marry S (xs (5 * n + 1)) (xs (5 * n + 2)) (xs (5 * n + 3))).2 := congrArg Prod.snd hv
    clear hv
    subst e1
    subst e2
    refine zistore (L1 := [_, _, _, _, _, _, _, _]) C dL_law__986 rfl (Nat.le_of_ble_eq_true rfl) ?_
    refine zaload_n C dL_law__988 rfl ?_
    refine zcallV C (hL.call m_thrown) hy_X8_thrown hv_X8_thrown hl_L_112 hL.atmo rfl rfl rfl rfl (by decide) (by decide) (by omega) (by omega) rfl (by exact Nat.le_of_ble_eq_true rfl) dL_law__989 (fun vt M hp => ?_)
    obtain ⟨S2, ⟨rfl, rfl⟩, hL⟩ := hp
    rw [hS0]
    refine ziload C dL_law__992 rfl ?_
    refine zicmp_eq (tgt := 999) C dL_law__994 (by decide) (fun _ => ?_) (fun h => absurd rfl h)
    refine ziload C dL_law__999 rfl ?_
    refine zif_ne_t (tgt := 1016) C dL_law__1001 (by decide) (nIj hj3) ?_
    refine zgoto (tgt := 2026) C dL_law__1016 (by decide) ?_
    refine zfor [true, true, true, true, true, false, false, false] rfl ?_
    exact kk _ _ _ ⟨K, _, f, ad, hL, hT1, by omega, by omega⟩
set_option maxRecDepth 100000 in
set_option maxHeartbeats 2000000 in
theorem lc_divorce {g : zGh} {X : zX} (C : zC g X RL cL_law_ 8 12 454 711863 6960515) (hN : zNc X.1.2.2.2) {b Ls n : Nat} {xs : Nat → Int32} (hX : va_X b Ls xs X.1.2.2.2 X.1.2.2.2.heap) (hbl : b < X.1.2.2.2.heap.size) (hbA : ¬ zA g b) (hn : 5 * n + 5 ≤ Ls) (hLs : Ls ≤ 2560) {mo : Nat} {mad : Nat → Nat} {o x : Nat} {K : zK} {S : zS} {f : Nat → Int64} {ad : zg → Nat} {M : zM} {k m : Nat} (hL : zLw g mo mad o x K S f ad M) (hok : zOK K S) (T : Nat → zK → zS → Prop) (hs : ∀ (a0 : Int32) (a1 : Bool), lcal T n K (x_divorce K a0) [1, 3] (k_divorce K a0 a1) (o_divorce S a0 a1).1 (b2i (dvE K a0.toNatClampNeg a1) = (o_divorce S a0 a1).2)) (hk : k ≤ 100 + 100 * n + cF K) (hm : m ≤ 50000 + 6000 * n + 4 * cF K) (kk : ∀ M1 k1 m1, zLI T g mo mad o x (n + 1) M1 k1 m1 → zG g X M1 k1 m1 2026 [some (.ref b), some (.ref x), some (.ref mo), some (.ref o), some (.int (nI (5 * n))), none, none, none] []) : zG g X M k m 1019 [some (.ref b), some (.ref x), some (.ref mo), some (.ref o), some (.int (nI (5 * n))), none, none, none] [] := by
  have hc := hok.1.2.2.2.2.2
  refine zaload_n C dL_law__1019 rfl ?_
  refine zaload_n C dL_law__1020 rfl ?_
  refine ziload C dL_law__1021 rfl ?_
  refine zconst (v := 1) C dL_law__1023 (by decide) ?_
  refine ziadd C dL_law__1024 ?_
  refine zsldG (i0 := 5 * n + 1) C hX hbl hbA (nI_add (5 * n) 1) (by omega) (by omega) dL_law__1025 ?_
  refine zaload_n C dL_law__1026 rfl ?_
  refine ziload C dL_law__1027 rfl ?_
  refine zconst (v := 2) C dL_law__1029 (by decide) ?_
  refine ziadd C dL_law__1030 ?_
  refine zsldG (i0 := 5 * n + 2) C hX hbl hbA (nI_add (5 * n) 2) (by omega) (by omega) dL_law__1031 ?_
  refine zif_eq (tgt := 1039) C dL_law__1032 (by decide) (fun hx2 => ?_) (fun hx2 => ?_)
  · refine zconst (v := 0) C dL_law__1039 (by decide) ?_
    refine zaload_n C dL_law__1040 rfl ?_
    refine zcallSW (np := 4) C hN (v_divorce (xs (5 * n + 1)) false hL hok) hcw_divorce zini (by decide) (by decide +kernel) hl_L_151 rfl rfl (by decide) (by decide) (by omega) (by omega) rfl (by exact Nat.le_of_ble_eq_true rfl) dL_law__1041 (fun w M1 hp => ?_)
    rcases hp with ⟨rfl, hx0, f2, ad1, hL, hf⟩ | ⟨j, c, hj, hj3, rfl, hxc, rfl⟩
    · obtain ⟨hS0, hev, hT1, hcF⟩ := (hs (xs (5 * n + 1)) false).1 hx0
      refine zistore (L1 := [_, _, _, _, _, _, _, _]) C dL_law__1044 rfl (Nat.le_of_ble_eq_true rfl) ?_
      refine zaload_n C dL_law__1046 rfl ?_
      refine zaload_n C dL_law__1047 rfl ?_
      refine ziload C dL_law__1048 rfl ?_
      refine zconst (v := 1) C dL_law__1050 (by decide) ?_
      refine ziadd C dL_law__1051 ?_
      refine zsldG (i0 := 5 * n + 1) C hX hbl hbA (nI_add (5 * n) 1) (by omega) (by omega) dL_law__1052 ?_
      refine zaload_n C dL_law__1053 rfl ?_
      refine ziload C dL_law__1054 rfl ?_
      refine zconst (v := 2) C dL_law__1056 (by decide) ?_
      refine ziadd C dL_law__1057 ?_
      refine zsldG (i0 := 5 * n + 2) C hX hbl hbA (nI_add (5 * n) 2) (by omega) (by omega) dL_law__1058 ?_
      refine zif_eq_t (tgt := 1066) C dL_law__1059 (by decide) hx2 ?_
      refine zconst (v := 0) C dL_law__1066 (by decide) ?_
      refine zcallV C (hL.call (m_divorce (xs (5 * n + 1)) false hok.2.1 hok.2.2.1 hok.2.2.2.2.1)) hy_X8_divorce hv_X8_divorce hl_L_153 hL.atmo rfl rfl rfl rfl (by decide) (by decide) (by omega) (by omega) rfl (by exact Nat.le_of_ble_eq_true rfl) dL_law__1067 (fun v M hp => ?_)
      obtain ⟨S1, hv, hL⟩ := hp
      have e1 : S1 = (o_divorce S (xs (5 * n + 1)) false).1 := congrArg Prod.fst hv
      have e2 : v = (o_divorce S (xs (5 * n + 1)) false).2 := congrArg Prod.snd hv
      clear hv
      subst e1
      subst e2
      refine zistore (L1 := [_, _, _, _, _, _, _, _]) C dL_law__1070 rfl (Nat.le_of_ble_eq_true rfl) ?_
      refine zaload_n C dL_law__1072 rfl ?_
      refine zcallV C (hL.call m_thrown) hy_X8_thrown hv_X8_thrown hl_L_112 hL.atmo rfl rfl rfl rfl (by decide) (by decide) (by omega) (by omega) rfl (by exact Nat.le_of_ble_eq_true rfl) dL_law__1073 (fun vt M hp => ?_)
      obtain ⟨S2, ⟨rfl, rfl⟩, hL⟩ := hp
      rw [hS0]
      refine ziload C dL_law__1076 rfl ?_
      refine zicmp_eq (tgt := 1083) C dL_law__1078 (by decide) (fun _ => ?_) (fun h => absurd rfl h)
      refine ziload C dL_law__1083 rfl ?_
      refine zif_ne_f (tgt := 1107) C dL_law__1085 (by decide) (by decide) ?_
      refine zaload_n C dL_law__1088 rfl ?_
      refine zconst (v := 0) C dL_law__1089 (by decide) ?_
      refine zrjald (i0 := 0) C hL.atout rfl (by decide) (by decide) dL_law__1090 ?_
      refine ziload C dL_law__1091 rfl ?_
      refine zif_eq (tgt := 1100) C dL_law__1093 (by decide) (fun hvv => ?_) (fun hvv => ?_)
      · refine zlconst (v := 0) C dL_law__1100 rfl ?_
        refine zlcmp C dL_law__1101 ?_
        refine zif_eq_t (tgt := 1107) C dL_law__1102 (by decide) ((lg_cmp_eq _ _).mpr (hf.trans (if_pos (hev.trans hvv)))) ?_
        refine zgoto (tgt := 2026) C dL_law__1107 (by decide) ?_
        refine zfor [true, true, true, true, true, false, false, false] rfl ?_
        exact kk _ _ _ ⟨_, _, f2, ad1, hL, hT1, by omega, by omega⟩
      · refine zlconst (v := 1) C dL_law__1096 rfl ?_
        refine zgoto (tgt := 1101) C dL_law__1097 (by decide) ?_
        refine zlcmp C dL_law__1101 ?_
        refine zif_eq_t (tgt := 1107) C dL_law__1102 (by decide) ((lg_cmp_eq _ _).mpr (hf.trans (if_neg (fun h => hvv (hev.symm.trans h))))) ?_
        refine zgoto (tgt := 2026) C dL_law__1107 (by decide) ?_
        refine zfor [true, true, true, true, true, false, false, false] rfl ?_
        exact kk _ _ _ ⟨_, _, f2, ad1, hL, hT1, by omega, by omega⟩
    · obtain ⟨hS0, hT1⟩ := (hs (xs (5 * n + 1)) false).2 j c hj hxc
      refine zistore (L1 := [_, _, _, _, _, _, _, _]) C dL_law__1044 rfl (Nat.le_of_ble_eq_true rfl) ?_
      refine zaload_n C dL_law__1046 rfl ?_
      refine zaload_n C dL_law__1047 rfl ?_
      refine ziload C dL_law__1048 rfl ?_
      refine zconst (v := 1) C dL_law__1050 (by decide) ?_
      refine ziadd C dL_law__1051 ?_
      refine zsldG (i0 := 5 * n + 1) C hX hbl hbA (nI_add (5 * n) 1) (by omega) (by omega) dL_law__1052 ?_
      refine zaload_n C dL_law__1053 rfl ?_
      refine ziload C dL_law__1054 rfl ?_
      refine zconst (v := 2) C dL_law__1056 (by decide) ?_
      refine ziadd C dL_law__1057 ?_
      refine zsldG (i0 := 5 * n + 2) C hX hbl hbA (nI_add (5 * n) 2) (by omega) (by omega) dL_law__1058 ?_
      refine zif_eq_t (tgt := 1066) C dL_law__1059 (by decide) hx2 ?_
      refine zconst (v := 0) C dL_law__1066 (by decide) ?_
      refine zcallV C (hL.call (m_divorce (xs (5 * n + 1)) false hok.2.1 hok.2.2.1 hok.2.2.2.2.1)) hy_X8_divorce hv_X8_divorce hl_L_153 hL.atmo rfl rfl rfl rfl (by decide) (by decide) (by omega) (by omega) rfl (by exact Nat.le_of_ble_eq_true rfl) dL_law__1067 (fun v M hp => ?_)
      obtain ⟨S1, hv, hL⟩ := hp
      have e1 : S1 = (o_divorce S (xs (5 * n + 1)) false).1 := congrArg Prod.fst hv
      have e2 : v = (o_divorce S (xs (5 * n + 1)) false).2 := congrArg Prod.snd hv
      clear hv
      subst e1
      subst e2
      refine zistore (L1 := [_, _, _, _, _, _, _, _]) C dL_law__1070 rfl (Nat.le_of_ble_eq_true rfl) ?_
      refine zaload_n C dL_law__1072 rfl ?_
      refine zcallV C (hL.call m_thrown) hy_X8_thrown hv_X8_thrown hl_L_112 hL.atmo rfl rfl rfl rfl (by decide) (by decide) (by omega) (by omega) rfl (by exact Nat.le_of_ble_eq_true rfl) dL_law__1073 (fun vt M hp => ?_)
      obtain ⟨S2, ⟨rfl, rfl⟩, hL⟩ := hp
      rw [hS0]
      refine ziload C dL_law__1076 rfl ?_
      refine zicmp_eq (tgt := 1083) C dL_law__1078 (by decide) (fun _ => ?_) (fun h => absurd rfl h)
      refine ziload C dL_law__1083 rfl ?_
      refine zif_ne_t (tgt := 1107) C dL_law__1085 (by decide) (nIj hj3) ?_
      refine zgoto (tgt := 2026) C dL_law__1107 (by decide) ?_
      refine zfor [true, true, true, true, true, false, false, false] rfl ?_
      exact kk _ _ _ ⟨K, _, f, ad, hL, hT1, by omega, by omega⟩
  · refine zconst (v := 1) C dL_law__1035 (by decide) ?_
    refine zgoto (tgt := 1040) C dL_law__1036 (by decide) ?_
    refine zaload_n C dL_law__1040 rfl ?_
    refine zcallSW (np := 4) C hN (v_divorce (xs (5 * n + 1)) true hL hok) hcw_divorce zini (by decide) (by decide +kernel) hl_L_151 rfl rfl (by decide) (by decide) (by omega) (by omega) rfl (by exact Nat.le_of_ble_eq_true rfl) dL_law__1041 (fun w M1 hp => ?_)
    rcases hp with ⟨rfl, hx0, f2, ad1, hL, hf⟩ | ⟨j, c, hj, hj3, rfl, hxc, rfl⟩
    · obtain ⟨hS0, hev, hT1, hcF⟩ := (hs (xs (5 * n + 1)) true).1 hx0
      refine zistore (L1 := [_, _, _, _, _, _, _, _]) C dL_law__1044 rfl (Nat.le_of_ble_eq_true rfl) ?_
      refine zaload_n C dL_law__1046 rfl ?_
      refine zaload_n C dL_law__1047 rfl ?_
      refine ziload C dL_law__1048 rfl ?_
      refine zconst (v := 1) C dL_law__1050 (by decide) ?_
      refine ziadd C dL_law__1051 ?_
      refine zsldG (i0 := 5 * n + 1) C hX hbl hbA (nI_add (5 * n) 1) (by omega) (by omega) dL_law__1052 ?_
      refine zaload_n C dL_law__1053 rfl ?_
      refine ziload C dL_law__1054 rfl ?_
      refine zconst (v := 2) C dL_law__1056 (by decide) ?_
      refine ziadd C dL_law__1057 ?_
      refine zsldG (i0 := 5 * n + 2) C hX hbl hbA (nI_add (5 * n) 2) (by omega) (by omega) dL_law__1058 ?_
      refine zif_eq_f (tgt := 1066) C dL_law__1059 (by decide) hx2 ?_
      refine zconst (v := 1) C dL_law__1062 (by decide) ?_
      refine zgoto (tgt := 1067) C dL_law__1063 (by decide) ?_
      refine zcallV C (hL.call (m_divorce (xs (5 * n + 1)) true hok.2.1 hok.2.2.1 hok.2.2.2.2.1)) hy_X8_divorce hv_X8_divorce hl_L_153 hL.atmo rfl rfl rfl rfl (by decide) (by decide) (by omega) (by omega) rfl (by exact Nat.le_of_ble_eq_true rfl) dL_law__1067 (fun v M hp => ?_)
      obtain ⟨S1, hv, hL⟩ := hp
      have e1 : S1 = (o_divorce S (xs (5 * n + 1)) true).1 := congrArg Prod.fst hv
      have e2 : v = (o_divorce S (xs (5 * n + 1)) true).2 := congrArg Prod.snd hv
      clear hv
      subst e1
      subst e2
      refine zistore (L1 := [_, _, _, _, _, _, _, _]) C dL_law__1070 rfl (Nat.le_of_ble_eq_true rfl) ?_
      refine zaload_n C dL_law__1072 rfl ?_
      refine zcallV C (hL.call m_thrown) hy_X8_thrown hv_X8_thrown hl_L_112 hL.atmo rfl rfl rfl rfl (by decide) (by decide) (by omega) (by omega) rfl (by exact Nat.le_of_ble_eq_true rfl) dL_law__1073 (fun vt M hp => ?_)
      obtain ⟨S2, ⟨rfl, rfl⟩, hL⟩ := hp
      rw [hS0]
      refine ziload C dL_law__1076 rfl ?_
      refine zicmp_eq (tgt := 1083) C dL_law__1078 (by decide) (fun _ => ?_) (fun h => absurd rfl h)
      refine ziload C dL_law__1083 rfl ?_
      refine zif_ne_f (tgt := 1107) C dL_law__1085 (by decide) (by decide) ?_
      refine zaload_n C dL_law__1088 rfl ?_
      refine zconst (v := 0) C dL_law__1089 (by decide) ?_
      refine zrjald (i0 := 0) C hL.atout rfl (by decide) (by decide) dL_law__1090 ?_
      refine ziload C dL_law__1091 rfl ?_
      refine zif_eq (tgt := 1100) C dL_law__1093 (by decide) (fun hvv => ?_) (fun hvv => ?_)
      · refine zlconst (v := 0) C dL_law__1100 rfl ?_
        refine zlcmp C dL_law__1101 ?_
        refine zif_eq_t (tgt := 1107) C dL_law__1102 (by decide) ((lg_cmp_eq _ _).mpr (hf.trans (if_pos (hev.trans hvv)))) ?_
        refine zgoto (tgt := 2026) C dL_law__1107 (by decide) ?_
        refine zfor [true, true, true, true, true, false, false, false] rfl ?_
        exact kk _ _ _ ⟨_, _, f2, ad1, hL, hT1, by omega, by omega⟩
      · refine zlconst (v := 1) C dL_law__1096 rfl ?_
        refine zgoto (tgt := 1101) C dL_law__1097 (by decide) ?_
        refine zlcmp C dL_law__1101 ?_
        refine zif_eq_t (tgt := 1107) C dL_law__1102 (by decide) ((lg_cmp_eq _ _).mpr (hf.trans (if_neg (fun h => hvv (hev.symm.trans h))))) ?_
        refine zgoto (tgt := 2026) C dL_law__1107 (by decide) ?_
        refine zfor [true, true, true, true, true, false, false, false] rfl ?_
        exact kk _ _ _ ⟨_, _, f2, ad1, hL, hT1, by omega, by omega⟩
    · obtain ⟨hS0, hT1⟩ := (hs (xs (5 * n + 1)) true).2 j c hj hxc
      refine zistore (L1 := [_, _, _, _, _, _, _, _]) C dL_law__1044 rfl (Nat.le_of_ble_eq_true rfl) ?_
      refine zaload_n C dL_law__1046 rfl ?_
      refine zaload_n C dL_law__1047 rfl ?_
      refine ziload C dL_law__1048 rfl ?_
      refine zconst (v := 1) C dL_law__1050 (by decide) ?_
      refine ziadd C dL_law__1051 ?_
      refine zsldG (i0 := 5 * n + 1) C hX hbl hbA (nI_add (5 * n) 1) (by omega) (by omega) dL_law__1052 ?_
      refine zaload_n C dL_law__1053 rfl ?_
      refine ziload C dL_law__1054 rfl ?_
      refine zconst (v := 2) C dL_law__1056 (by decide) ?_
      refine ziadd C dL_law__1057 ?_
      refine zsldG (i0 := 5 * n + 2) C hX hbl hbA (nI_add (5 * n) 2) (by omega) (by omega) dL_law__1058 ?_
      refine zif_eq_f (tgt := 1066) C dL_law__1059 (by decide) hx2 ?_
      refine zconst (v := 1) C dL_law__1062 (by decide) ?_
      refine zgoto (tgt := 1067) C dL_law__1063 (by decide) ?_
      refine zcallV C (hL.call (m_divorce (xs (5 * n + 1)) true hok.2.1 hok.2.2.1 hok.2.2.2.2.1)) hy_X8_divorce hv_X8_divorce hl_L_153 hL.atmo rfl rfl rfl rfl (by decide) (by decide) (by omega) (by omega) rfl (by exact Nat.le_of_ble_eq_true rfl) dL_law__1067 (fun v M hp => ?_)
      obtain ⟨S1, hv, hL⟩ := hp
      have e1 : S1 = (o_divorce S (xs (5 * n + 1)) true).1 := congrArg Prod.fst hv
      have e2 : v = (o_divorce S (xs (5 * n + 1)) true).2 := congrArg Prod.snd hv
      clear hv
      subst e1
      subst e2
      refine zistore (L1 := [_, _, _, _, _, _, _, _]) C dL_law__1070 rfl (Nat.le_of_ble_eq_true rfl) ?_
      refine zaload_n C dL_law__1072 rfl ?_
      refine zcallV C (hL.call m_thrown) hy_X8_thrown hv_X8_thrown hl_L_112 hL.atmo rfl rfl rfl rfl (by decide) (by decide) (by omega) (by omega) rfl (by exact Nat.le_of_ble_eq_true rfl) dL_law__1073 (fun vt M hp => ?_)
      obtain ⟨S2, ⟨rfl, rfl⟩, hL⟩ := hp
      rw [hS0]
      refine ziload C dL_law__1076 rfl ?_
      refine zicmp_eq (tgt := 1083) C dL_law__1078 (by decide) (fun _ => ?_) (fun h => absurd rfl h)
      refine ziload C dL_law__1083 rfl ?_
      refine zif_ne_t (tgt := 1107) C dL_law__1085 (by decide) (nIj hj3) ?_
      refine zgoto (tgt := 2026) C dL_law__1107 (by decide) ?_
      refine zfor [true, true, true, true, true, false, false, false] rfl ?_
      exact kk _ _ _ ⟨K, _, f, ad, hL, hT1, by omega, by omega⟩
set_option maxRecDepth 100000 in
set_option maxHeartbeats 2000000 in
theorem lc_goods {g : zGh} {X : zX} (C : zC g X RL cL_law_ 8 12 454 711863 6960515) (hN : zNc X.1.2.2.2) {b Ls n : Nat} {xs : Nat → Int32} (hX : va_X b Ls xs X.1.2.2.2 X.1.2.2.2.heap) (hbl : b < X.1.2.2.2.heap.size) (hbA : ¬ zA g b) (hn : 5 * n + 5 ≤ Ls) (hLs : Ls ≤ 2560) {mo : Nat} {mad : Nat → Nat} {o x : Nat} {K : zK} {S : zS} {f : Nat → Int64} {ad : zg → Nat} {M : zM} {k m : Nat} (hL : zLw g mo mad o x K S f ad M) (hok : zOK K S) (T : Nat → zK → zS → Prop) (hs : ∀ (a0 : Int32) (a1 : Int32), lcal T n K (x_goods K a0 a1) [1, 2, 3] (k_goods K a0 a1) (o_goods S a0 a1).1 ((kpe K a0.toNatClampNeg).2.2.2.2.2.1 + a1.toInt64 = (o_goods S a0 a1).2)) (hk : k ≤ 100 + 100 * n + cF K) (hm : m ≤ 50000 + 6000 * n + 4 * cF K) (kk : ∀ M1 k1 m1, zLI T g mo mad o x (n + 1) M1 k1 m1 → zG g X M1 k1 m1 2026 [some (.ref b), some (.ref x), some (.ref mo), some (.ref o), some (.int (nI (5 * n))), none, none, none] []) : zG g X M k m 1110 [some (.ref b), some (.ref x), some (.ref mo), some (.ref o), some (.int (nI (5 * n))), none, none, none] [] := by
  have hc := hok.1.2.2.2.2.2
  refine zaload_n C dL_law__1110 rfl ?_
  refine zaload_n C dL_law__1111 rfl ?_
  refine ziload C dL_law__1112 rfl ?_
  refine zconst (v := 1) C dL_law__1114 (by decide) ?_
  refine ziadd C dL_law__1115 ?_
  refine zsldG (i0 := 5 * n + 1) C hX hbl hbA (nI_add (5 * n) 1) (by omega) (by omega) dL_law__1116 ?_
  refine zaload_n C dL_law__1117 rfl ?_
  refine ziload C dL_law__1118 rfl ?_
  refine zconst (v := 2) C dL_law__1120 (by decide) ?_
  refine ziadd C dL_law__1121 ?_
  refine zsldG (i0 := 5 * n + 2) C hX hbl hbA (nI_add (5 * n) 2) (by omega) (by omega) dL_law__1122 ?_
  refine zaload_n C dL_law__1123 rfl ?_
  refine zcallSW (np := 4) C hN (v_goods (xs (5 * n + 1)) (xs (5 * n + 2)) hL hok) hcw_goods zini (by decide) (by decide +kernel) hl_L_154 rfl rfl (by decide) (by decide) (by omega) (by omega) rfl (by exact Nat.le_of_ble_eq_true rfl) dL_law__1124 (fun w M1 hp => ?_)
  rcases hp with ⟨rfl, hx0, f2, ad1, hL, hf⟩ | ⟨j, c, hj, hj3, rfl, hxc, rfl⟩
  · obtain ⟨hS0, hev, hT1, hcF⟩ := (hs (xs (5 * n + 1)) (xs (5 * n + 2))).1 hx0
    refine zistore (L1 := [_, _, _, _, _, _, _, _]) C dL_law__1127 rfl (Nat.le_of_ble_eq_true rfl) ?_
    refine zaload_n C dL_law__1129 rfl ?_
    refine zaload_n C dL_law__1130 rfl ?_
    refine ziload C dL_law__1131 rfl ?_
    refine zconst (v := 1) C dL_law__1133 (by decide) ?_
    refine ziadd C dL_law__1134 ?_
    refine zsldG (i0 := 5 * n + 1) C hX hbl hbA (nI_add (5 * n) 1) (by omega) (by omega) dL_law__1135 ?_
    refine zaload_n C dL_law__1136 rfl ?_
    refine ziload C dL_law__1137 rfl ?_
    refine zconst (v := 2) C dL_law__1139 (by decide) ?_
    refine ziadd C dL_law__1140 ?_
    refine zsldG (i0 := 5 * n + 2) C hX hbl hbA (nI_add (5 * n) 2) (by omega) (by omega) dL_law__1141 ?_
    refine zcallV C (hL.call (m_goods (xs (5 * n + 1)) (xs (5 * n + 2)) hok.2.1)) hy_X8_goods hv_X8_goods hl_L_156 hL.atmo rfl rfl rfl rfl (by decide) (by decide) (by omega) (by omega) rfl (by exact Nat.le_of_ble_eq_true rfl) dL_law__1142 (fun v M hp => ?_)
    obtain ⟨S1, hv, hL⟩ := hp
    have e1 : S1 = (o_goods S (xs (5 * n + 1)) (xs (5 * n + 2))).1 := congrArg Prod.fst hv
    have e2 : v = (o_goods S (xs (5 * n + 1)) (xs (5 * n + 2))).2 := congrArg Prod.snd hv
    clear hv
    subst e1
    subst e2
    refine zlstore (L1 := [_, _, _, _, _, _, _, _]) C dL_law__1145 rfl (Nat.le_of_ble_eq_true rfl) ?_
    refine zaload_n C dL_law__1147 rfl ?_
    refine zcallV C (hL.call m_thrown) hy_X8_thrown hv_X8_thrown hl_L_112 hL.atmo rfl rfl rfl rfl (by decide) (by decide) (by omega) (by omega) rfl (by exact Nat.le_of_ble_eq_true rfl) dL_law__1148 (fun vt M hp => ?_)
    obtain ⟨S2, ⟨rfl, rfl⟩, hL⟩ := hp
    rw [hS0]
    refine ziload C dL_law__1151 rfl ?_
    refine zicmp_eq (tgt := 1158) C dL_law__1153 (by decide) (fun _ => ?_) (fun h => absurd rfl h)
    refine ziload C dL_law__1158 rfl ?_
    refine zif_ne_f (tgt := 1174) C dL_law__1160 (by decide) (by decide) ?_
    refine zaload_n C dL_law__1163 rfl ?_
    refine zconst (v := 0) C dL_law__1164 (by decide) ?_
    refine zrjald (i0 := 0) C hL.atout rfl (by decide) (by decide) dL_law__1165 ?_
    refine zlload C dL_law__1166 rfl ?_
    refine zlcmp C dL_law__1168 ?_
    refine zif_eq_t (tgt := 1174) C dL_law__1169 (by decide) ((lg_cmp_eq _ _).mpr (hf.trans hev)) ?_
    refine zgoto (tgt := 2026) C dL_law__1174 (by decide) ?_
    refine zfor [true, true, true, true, true, false, false, false] rfl ?_
    exact kk _ _ _ ⟨_, _, f2, ad1, hL, hT1, by omega, by omega⟩
  · obtain ⟨hS0, hT1⟩ := (hs (xs (5 * n + 1)) (xs (5 * n + 2))).2 j c hj hxc
    refine zistore (L1 := [_, _, _, _, _, _, _, _]) C dL_law__1127 rfl (Nat.le_of_ble_eq_true rfl) ?_
    refine zaload_n C dL_law__1129 rfl ?_
    refine zaload_n C dL_law__1130 rfl ?_
    refine ziload C dL_law__1131 rfl ?_
    refine zconst (v := 1) C dL_law__1133 (by decide) ?_
    refine ziadd C dL_law__1134 ?_
    refine zsldG (i0 := 5 * n + 1) C hX hbl hbA (nI_add (5 * n) 1) (by omega) (by omega) dL_law__1135 ?_
    refine zaload_n C dL_law__1136 rfl ?_
    refine ziload C dL_law__1137 rfl ?_
    refine zconst (v := 2) C dL_law__1139 (by decide) ?_
    refine ziadd C dL_law__1140 ?_
    refine zsldG (i0 := 5 * n + 2) C hX hbl hbA (nI_add (5 * n) 2) (by omega) (by omega) dL_law__1141 ?_
    refine zcallV C (hL.call (m_goods (xs (5 * n + 1)) (xs (5 * n + 2)) hok.2.1)) hy_X8_goods hv_X8_goods hl_L_156 hL.atmo rfl rfl rfl rfl (by decide) (by decide) (by omega) (by omega) rfl (by exact Nat.le_of_ble_eq_true rfl) dL_law__1142 (fun v M hp => ?_)
    obtain ⟨S1, hv, hL⟩ := hp
    have e1 : S1 = (o_goods S (xs (5 * n + 1)) (xs (5 * n + 2))).1 := congrArg Prod.fst hv
    have e2 : v = (o_goods S (xs (5 * n + 1)) (xs (5 * n + 2))).2 := congrArg Prod.snd hv
    clear hv
    subst e1
    subst e2
    refine zlstore (L1 := [_, _, _, _, _, _, _, _]) C dL_law__1145 rfl (Nat.le_of_ble_eq_true rfl) ?_
    refine zaload_n C dL_law__1147 rfl ?_
    refine zcallV C (hL.call m_thrown) hy_X8_thrown hv_X8_thrown hl_L_112 hL.atmo rfl rfl rfl rfl (by decide) (by decide) (by omega) (by omega) rfl (by exact Nat.le_of_ble_eq_true rfl) dL_law__1148 (fun vt M hp => ?_)
    obtain ⟨S2, ⟨rfl, rfl⟩, hL⟩ := hp
    rw [hS0]
    refine ziload C dL_law__1151 rfl ?_
    refine zicmp_eq (tgt := 1158) C dL_law__1153 (by decide) (fun _ => ?_) (fun h => absurd rfl h)
    refine ziload C dL_law__1158 rfl ?_
    refine zif_ne_t (tgt := 1174) C dL_law__1160 (by decide) (nIj hj3) ?_
    refine zgoto (tgt := 2026) C dL_law__1174 (by decide) ?_
    refine zfor [true, true, true, true, true, false, false, false] rfl ?_
    exact kk _ _ _ ⟨K, _, f, ad, hL, hT1, by omega, by omega⟩
set_option maxRecDepth 100000 in
set_option maxHeartbeats 2000000 in
theorem lc_dies {g : zGh} {X : zX} (C : zC g X RL cL_law_ 8 12 454 711863 6960515) (hN : zNc X.1.2.2.2) {b Ls n : Nat} {xs : Nat → Int32} (hX : va_X b Ls xs X.1.2.2.2 X.1.2.2.2.heap) (hbl : b < X.1.2.2.2.heap.size) (hbA : ¬ zA g b) (hn : 5 * n + 5 ≤ Ls) (hLs : Ls ≤ 2560) {mo : Nat} {mad : Nat → Nat} {o x : Nat} {K : zK} {S : zS} {f : Nat → Int64} {ad : zg → Nat} {M : zM} {k m : Nat} (hL : zLw g mo mad o x K S f ad M) (hok : zOK K S) (T : Nat → zK → zS → Prop) (hs : ∀ (a0 : Int32), lcal T n K (x_dies K a0) [1, 3] (k_dies K a0.toNatClampNeg) (o_dies S a0).1 (a_dies K a0.toNatClampNeg = (o_dies S a0).2)) (hk : k ≤ 100 + 100 * n + cF K) (hm : m ≤ 50000 + 6000 * n + 4 * cF K) (kk : ∀ M1 k1 m1, zLI T g mo mad o x (n + 1) M1 k1 m1 → zG g X M1 k1 m1 2026 [some (.ref b), some (.ref x), some (.ref mo), some (.ref o), some (.int (nI (5 * n))), none, none, none] []) : zG g X M k m 1177 [some (.ref b), some (.ref x), some (.ref mo), some (.ref o), some (.int (nI (5 * n))), none, none, none] [] := by
  have hc := hok.1.2.2.2.2.2
  refine zaload_n C dL_law__1177 rfl ?_
  refine zaload_n C dL_law__1178 rfl ?_
  refine ziload C dL_law__1179 rfl ?_
  refine zconst (v := 1) C dL_law__1181 (by decide) ?_
  refine ziadd C dL_law__1182 ?_
  refine zsldG (i0 := 5 * n + 1) C hX hbl hbA (nI_add (5 * n) 1) (by omega) (by omega) dL_law__1183 ?_
  refine zaload_n C dL_law__1184 rfl ?_
  refine zcallSW (np := 3) C hN (v_dies (xs (5 * n + 1)) hL hok) hcw_dies zini (by decide) (by decide +kernel) hl_L_157 rfl rfl (by decide) (by decide) (by omega) (by omega) rfl (by exact Nat.le_of_ble_eq_true rfl) dL_law__1185 (fun w M1 hp => ?_)
  rcases hp with ⟨rfl, hx0, f2, ad1, hL, hf⟩ | ⟨j, c, hj, hj3, rfl, hxc, rfl⟩
  · obtain ⟨hS0, hev, hT1, hcF⟩ := (hs (xs (5 * n + 1))).1 hx0
    refine zistore (L1 := [_, _, _, _, _, _, _, _]) C dL_law__1188 rfl (Nat.le_of_ble_eq_true rfl) ?_
    refine zaload_n C dL_law__1190 rfl ?_
    refine zaload_n C dL_law__1191 rfl ?_
    refine ziload C dL_law__1192 rfl ?_
    refine zconst (v := 1) C dL_law__1194 (by decide) ?_
    refine ziadd C dL_law__1195 ?_
    refine zsldG (i0 := 5 * n + 1) C hX hbl hbA (nI_add (5 * n) 1) (by omega) (by omega) dL_law__1196 ?_
    refine zcallV C (hL.call (m_dies (xs (5 * n + 1)) hok.2.1 hok.2.2.1 hok.2.2.2.2.1)) hy_X8_dies hv_X8_dies hl_L_159 hL.atmo rfl rfl rfl rfl (by decide) (by decide) (by omega) (by omega) rfl (by exact Nat.le_of_ble_eq_true rfl) dL_law__1197 (fun v M hp => ?_)
    obtain ⟨S1, hv, hL⟩ := hp
    have e1 : S1 = (o_dies S (xs (5 * n + 1))).1 := congrArg Prod.fst hv
    have e2 : v = (o_dies S (xs (5 * n + 1))).2 := congrArg Prod.snd hv
    clear hv
    subst e1
    subst e2
    refine zlstore (L1 := [_, _, _, _, _, _, _, _]) C dL_law__1200 rfl (Nat.le_of_ble_eq_true rfl) ?_
    refine zaload_n C dL_law__1202 rfl ?_
    refine zcallV C (hL.call m_thrown) hy_X8_thrown hv_X8_thrown hl_L_112 hL.atmo rfl rfl rfl rfl (by decide) (by decide) (by omega) (by omega) rfl (by exact Nat.le_of_ble_eq_true rfl) dL_law__1203 (fun vt M hp => ?_)
    obtain ⟨S2, ⟨rfl, rfl⟩, hL⟩ := hp
    rw [hS0]
    refine ziload C dL_law__1206 rfl ?_
    refine zicmp_eq (tgt := 1213) C dL_law__1208 (by decide) (fun _ => ?_) (fun h => absurd rfl h)
    refine ziload C dL_law__1213 rfl ?_
    refine zif_ne_f (tgt := 1229) C dL_law__1215 (by decide) (by decide) ?_
    refine zaload_n C dL_law__1218 rfl ?_
    refine zconst (v := 0) C dL_law__1219 (by decide) ?_
    refine zrjald (i0 := 0) C hL.atout rfl (by decide) (by decide) dL_law__1220 ?_
    refine zlload C dL_law__1221 rfl ?_
    refine zlcmp C dL_law__1223 ?_
    refine zif_eq_t (tgt := 1229) C dL_law__1224 (by decide) ((lg_cmp_eq _ _).mpr (hf.trans hev)) ?_
    refine zgoto (tgt := 2026) C dL_law__1229 (by decide) ?_
    refine zfor [true, true, true, true, true, false, false, false] rfl ?_
    exact kk _ _ _ ⟨_, _, f2, ad1, hL, hT1, by omega, by omega⟩
  · obtain ⟨hS0, hT1⟩ := (hs (xs (5 * n + 1))).2 j c hj hxc
    refine zistore (L1 := [_, _, _, _, _, _, _, _]) C dL_law__1188 rfl (Nat.le_of_ble_eq_true rfl) ?_
    refine zaload_n C dL_law__1190 rfl ?_
    refine zaload_n C dL_law__1191 rfl ?_
    refine ziload C dL_law__1192 rfl ?_
    refine zconst (v := 1) C dL_law__1194 (by decide) ?_
    refine ziadd C dL_law__1195 ?_
    refine zsldG (i0 := 5 * n + 1) C hX hbl hbA (nI_add (5 * n) 1) (by omega) (by omega) dL_law__1196 ?_
    refine zcallV C (hL.call (m_dies (xs (5 * n + 1)) hok.2.1 hok.2.2.1 hok.2.2.2.2.1)) hy_X8_dies hv_X8_dies hl_L_159 hL.atmo rfl rfl rfl rfl (by decide) (by decide) (by omega) (by omega) rfl (by exact Nat.le_of_ble_eq_true rfl) dL_law__1197 (fun v M hp => ?_)
    obtain ⟨S1, hv, hL⟩ := hp
    have e1 : S1 = (o_dies S (xs (5 * n + 1))).1 := congrArg Prod.fst hv
    have e2 : v = (o_dies S (xs (5 * n + 1))).2 := congrArg Prod.snd hv
    clear hv
    subst e1
    subst e2
    refine zlstore (L1 := [_, _, _, _, _, _, _, _]) C dL_law__1200 rfl (Nat.le_of_ble_eq_true rfl) ?_
    refine zaload_n C dL_law__1202 rfl ?_
    refine zcallV C (hL.call m_thrown) hy_X8_thrown hv_X8_thrown hl_L_112 hL.atmo rfl rfl rfl rfl (by decide) (by decide) (by omega) (by omega) rfl (by exact Nat.le_of_ble_eq_true rfl) dL_law__1203 (fun vt M hp => ?_)
    obtain ⟨S2, ⟨rfl, rfl⟩, hL⟩ := hp
    rw [hS0]
    refine ziload C dL_law__1206 rfl ?_
    refine zicmp_eq (tgt := 1213) C dL_law__1208 (by decide) (fun _ => ?_) (fun h => absurd rfl h)
    refine ziload C dL_law__1213 rfl ?_
    refine zif_ne_t (tgt := 1229) C dL_law__1215 (by decide) (nIj hj3) ?_
    refine zgoto (tgt := 2026) C dL_law__1229 (by decide) ?_
    refine zfor [true, true, true, true, true, false, false, false] rfl ?_
    exact kk _ _ _ ⟨K, _, f, ad, hL, hT1, by omega, by omega⟩
set_option maxRecDepth 100000 in
set_option maxHeartbeats 2000000 in
theorem lc_sue {g : zGh} {X : zX} (C : zC g X RL cL_law_ 8 12 454 711863 6960515) (hN : zNc X.1.2.2.2) {b Ls n : Nat} {xs : Nat → Int32} (hX : va_X b Ls xs X.1.2.2.2 X.1.2.2.2.heap) (hbl : b < X.1.2.2.2.heap.size) (hbA : ¬ zA g b) (hn : 5 * n + 5 ≤ Ls) (hLs : Ls ≤ 2560) {mo : Nat} {mad : Nat → Nat} {o x : Nat} {K : zK} {S : zS} {f : Nat → Int64} {ad : zg → Nat} {M : zM} {k m : Nat} (hL : zLw g mo mad o x K S f ad M) (hok : zOK K S) (T : Nat → zK → zS → Prop) (hs : ∀ (a0 : Int32) (a1 : Int32) (a2 : Int32) (a3 : Int32), lcal T n K (x_sue K a0 a1 a2 a3) [1, 2, 3] (k_sue K a0 a1 a2 a3) (o_sue S a0 a1 a2 a3).1 ((nI (K.1 33)) = (o_sue S a0 a1 a2 a3).2)) (hk : k ≤ 100 + 100 * n + cF K) (hm : m ≤ 50000 + 6000 * n + 4 * cF K) (kk : ∀ M1 k1 m1, zLI T g mo mad o x (n + 1) M1 k1 m1 → zG g X M1 k1 m1 2026 [some (.ref b), some (.ref x), some (.ref mo), some (.ref o), some (.int (nI (5 * n))), none, none, none] []) : zG g X M k m 1232 [some (.ref b), some (.ref x), some (.ref mo), some (.ref o), some (.int (nI (5 * n))), none, none, none] [] := by
  have hc := hok.1.2.2.2.2.2
  refine zaload_n C dL_law__1232 rfl ?_
  refine zaload_n C dL_law__1233 rfl ?_
  refine ziload C dL_law__1234 rfl ?_
  refine zconst (v := 1) C dL_law__1236 (by decide) ?_
  refine ziadd C dL_law__1237 ?_
  refine zsldG (i0 := 5 * n + 1) C hX hbl hbA (nI_add (5 * n) 1) (by omega) (by omega) dL_law__1238 ?_
  refine zaload_n C dL_law__1239 rfl ?_
  refine ziload C dL_law__1240 rfl ?_
  refine zconst (v := 2) C dL_law__1242 (by decide) ?_
  refine ziadd C dL_law__1243 ?_
  refine zsldG (i0 := 5 * n + 2) C hX hbl hbA (nI_add (5 * n) 2) (by omega) (by omega) dL_law__1244 ?_
  refine zaload_n C dL_law__1245 rfl ?_
  refine ziload C dL_law__1246 rfl ?_
  refine zconst (v := 3) C dL_law__1248 (by decide) ?_
  refine ziadd C dL_law__1249 ?_
  refine zsldG (i0 := 5 * n + 3) C hX hbl hbA (nI_add (5 * n) 3) (by omega) (by omega) dL_law__1250 ?_
  refine zaload_n C dL_law__1251 rfl ?_
  refine ziload C dL_law__1252 rfl ?_
  refine zconst (v := 4) C dL_law__1254 (by decide) ?_
  refine ziadd C dL_law__1255 ?_
  refine zsldG (i0 := 5 * n + 4) C hX hbl hbA (nI_add (5 * n) 4) (by omega) (by omega) dL_law__1256 ?_
  refine zaload_n C dL_law__1257 rfl ?_
  refine zcallSW (np := 6) C hN (v_sue (xs (5 * n + 1)) (xs (5 * n + 2)) (xs (5 * n + 3)) (xs (5 * n + 4)) hL hok) hcw_sue zini (by decide) (by decide +kernel) hl_L_160 rfl rfl (by decide) (by decide) (by omega) (by omega) rfl (by exact Nat.le_of_ble_eq_true rfl) dL_law__1258 (fun w M1 hp => ?_)
  rcases hp with ⟨rfl, hx0, f2, ad1, hL, hf⟩ | ⟨j, c, hj, hj3, rfl, hxc, rfl⟩
  · obtain ⟨hS0, hev, hT1, hcF⟩ := (hs (xs (5 * n + 1)) (xs (5 * n + 2)) (xs (5 * n + 3)) (xs (5 * n + 4))).1 hx0
    refine zistore (L1 := [_, _, _, _, _, _, _, _]) C dL_law__1261 rfl (Nat.le_of_ble_eq_true rfl) ?_
    refine zaload_n C dL_law__1263 rfl ?_
    refine zaload_n C dL_law__1264 rfl ?_
    refine ziload C dL_law__1265 rfl ?_
    refine zconst (v := 1) C dL_law__1267 (by decide) ?_
    refine ziadd C dL_law__1268 ?_
    refine zsldG (i0 := 5 * n + 1) C hX hbl hbA (nI_add (5 * n) 1) (by omega) (by omega) dL_law__1269 ?_
    refine zaload_n C dL_law__1270 rfl ?_
    refine ziload C dL_law__1271 rfl ?_
    refine zconst (v := 2) C dL_law__1273 (by decide) ?_
    refine ziadd C dL_law__1274 ?_
    refine zsldG (i0 := 5 * n + 2) C hX hbl hbA (nI_add (5 * n) 2) (by omega) (by omega) dL_law__1275 ?_
    refine zaload_n C dL_law__1276 rfl ?_
    refine ziload C dL_law__1277 rfl ?_
    refine zconst (v := 3) C dL_law__1279 (by decide) ?_
    refine ziadd C dL_law__1280 ?_
    refine zsldG (i0 := 5 * n + 3) C hX hbl hbA (nI_add (5 * n) 3) (by omega) (by omega) dL_law__1281 ?_
    refine zaload_n C dL_law__1282 rfl ?_
    refine ziload C dL_law__1283 rfl ?_
    refine zconst (v := 4) C dL_law__1285 (by decide) ?_
    refine ziadd C dL_law__1286 ?_
    refine zsldG (i0 := 5 * n + 4) C hX hbl hbA (nI_add (5 * n) 4) (by omega) (by omega) dL_law__1287 ?_
    refine zcallV C (hL.call (m_sue (xs (5 * n + 1)) (xs (5 * n + 2)) (xs (5 * n + 3)) (xs (5 * n + 4)) hok.2.1 hok.2.2.1)) hy_X8_sue hv_X8_sue hl_L_162 hL.atmo rfl rfl rfl rfl (by decide) (by decide) (by omega) (by omega) rfl (by exact Nat.le_of_ble_eq_true rfl) dL_law__1288 (fun v M hp => ?_)
    obtain ⟨S1, hv, hL⟩ := hp
    have e1 : S1 = (o_sue S (xs (5 * n + 1)) (xs (5 * n + 2)) (xs (5 * n + 3)) (xs (5 * n + 4))).1 := congrArg Prod.fst hv
    have e2 : v = (o_sue S (xs (5 * n + 1)) (xs (5 * n + 2)) (xs (5 * n + 3)) (xs (5 * n + 4))).2 := congrArg Prod.snd hv
    clear hv
    subst e1
    subst e2
    refine zistore (L1 := [_, _, _, _, _, _, _, _]) C dL_law__1291 rfl (Nat.le_of_ble_eq_true rfl) ?_
    refine zaload_n C dL_law__1293 rfl ?_
    refine zcallV C (hL.call m_thrown) hy_X8_thrown hv_X8_thrown hl_L_112 hL.atmo rfl rfl rfl rfl (by decide) (by decide) (by omega) (by omega) rfl (by exact Nat.le_of_ble_eq_true rfl) dL_law__1294 (fun vt M hp => ?_)
    obtain ⟨S2, ⟨rfl, rfl⟩, hL⟩ := hp
    rw [hS0]
    refine ziload C dL_law__1297 rfl ?_
    refine zicmp_eq (tgt := 1304) C dL_law__1299 (by decide) (fun _ => ?_) (fun h => absurd rfl h)
    refine ziload C dL_law__1304 rfl ?_
    refine zif_ne_f (tgt := 1321) C dL_law__1306 (by decide) (by decide) ?_
    refine zaload_n C dL_law__1309 rfl ?_
    refine zconst (v := 0) C dL_law__1310 (by decide) ?_
    refine zrjald (i0 := 0) C hL.atout rfl (by decide) (by decide) dL_law__1311 ?_
    refine ziload C dL_law__1312 rfl ?_
    refine zi2l C dL_law__1314 ?_
    refine zlcmp C dL_law__1315 ?_
    refine zif_eq_t (tgt := 1321) C dL_law__1316 (by decide) ((lg_cmp_eq _ _).mpr (hf.trans (congrArg Int32.toInt64 hev))) ?_
    refine zgoto (tgt := 2026) C dL_law__1321 (by decide) ?_
    refine zfor [true, true, true, true, true, false, false, false] rfl ?_
    exact kk _ _ _ ⟨_, _, f2, ad1, hL, hT1, by omega, by omega⟩
  · obtain ⟨hS0, hT1⟩ := (hs (xs (5 * n + 1)) (xs (5 * n + 2)) (xs (5 * n + 3)) (xs (5 * n + 4))).2 j c hj hxc
    refine zistore (L1 := [_, _, _, _, _, _, _, _]) C dL_law__1261 rfl (Nat.le_of_ble_eq_true rfl) ?_
    refine zaload_n C dL_law__1263 rfl ?_
    refine zaload_n C dL_law__1264 rfl ?_
    refine ziload C dL_law__1265 rfl ?_
    refine zconst (v := 1) C dL_law__1267 (by decide) ?_
    refine ziadd C dL_law__1268 ?_
    refine zsldG (i0 := 5 * n + 1) C hX hbl hbA (nI_add (5 * n) 1) (by omega) (by omega) dL_law__1269 ?_
    refine zaload_n C dL_law__1270 rfl ?_
    refine ziload C dL_law__1271 rfl ?_
    refine zconst (v := 2) C dL_law__1273 (by decide) ?_
    refine ziadd C dL_law__1274 ?_
    refine zsldG (i0 := 5 * n + 2) C hX hbl hbA (nI_add (5 * n) 2) (by omega) (by omega) dL_law__1275 ?_
    refine zaload_n C dL_law__1276 rfl ?_
    refine ziload C dL_law__1277 rfl ?_
    refine zconst (v := 3) C dL_law__1279 (by decide) ?_
    refine ziadd C dL_law__1280 ?_
    refine zsldG (i0 := 5 * n + 3) C hX hbl hbA (nI_add (5 * n) 3) (by omega) (by omega) dL_law__1281 ?_
    refine zaload_n C dL_law__1282 rfl ?_
    refine ziload C dL_law__1283 rfl ?_
    refine zconst (v := 4) C dL_law__1285 (by decide) ?_
    refine ziadd C dL_law__1286 ?_
    refine zsldG (i0 := 5 * n + 4) C hX hbl hbA (nI_add (5 * n) 4) (by omega) (by omega) dL_law__1287 ?_
    refine zcallV C (hL.call (m_sue (xs (5 * n + 1)) (xs (5 * n + 2)) (xs (5 * n + 3)) (xs (5 * n + 4)) hok.2.1 hok.2.2.1)) hy_X8_sue hv_X8_sue hl_L_162 hL.atmo rfl rfl rfl rfl (by decide) (by decide) (by omega) (by omega) rfl (by exact Nat.le_of_ble_eq_true rfl) dL_law__1288 (fun v M hp => ?_)
    obtain ⟨S1, hv, hL⟩ := hp
    have e1 : S1 = (o_sue S (xs (5 * n + 1)) (xs (5 * n + 2)) (xs (5 * n + 3)) (xs (5 * n + 4))).1 := congrArg Prod.fst hv
    have e2 : v = (o_sue S (xs (5 * n + 1)) (xs (5 * n + 2)) (xs (5 * n + 3)) (xs (5 * n + 4))).2 := congrArg Prod.snd hv
    clear hv
    subst e1
    subst e2
    refine zistore (L1 := [_, _, _, _, _, _, _, _]) C dL_law__1291 rfl (Nat.le_of_ble_eq_true rfl) ?_
    refine zaload_n C dL_law__1293 rfl ?_
    refine zcallV C (hL.call m_thrown) hy_X8_thrown hv_X8_thrown hl_L_112 hL.atmo rfl rfl rfl rfl (by decide) (by decide) (by omega) (by omega) rfl (by exact Nat.le_of_ble_eq_true rfl) dL_law__1294 (fun vt M hp => ?_)
    obtain ⟨S2, ⟨rfl, rfl⟩, hL⟩ := hp
    rw [hS0]
    refine ziload C dL_law__1297 rfl ?_
    refine zicmp_eq (tgt := 1304) C dL_law__1299 (by decide) (fun _ => ?_) (fun h => absurd rfl h)
    refine ziload C dL_law__1304 rfl ?_
    refine zif_ne_t (tgt := 1321) C dL_law__1306 (by decide) (nIj hj3) ?_
    refine zgoto (tgt := 2026) C dL_law__1321 (by decide) ?_
    refine zfor [true, true, true, true, true, false, false, false] rfl ?_
    exact kk _ _ _ ⟨K, _, f, ad, hL, hT1, by omega, by omega⟩
set_option maxRecDepth 100000 in
set_option maxHeartbeats 2000000 in
theorem lc_appear {g : zGh} {X : zX} (C : zC g X RL cL_law_ 8 12 454 711863 6960515) (hN : zNc X.1.2.2.2) {b Ls n : Nat} {xs : Nat → Int32} (hX : va_X b Ls xs X.1.2.2.2 X.1.2.2.2.heap) (hbl : b < X.1.2.2.2.heap.size) (hbA : ¬ zA g b) (hn : 5 * n + 5 ≤ Ls) (hLs : Ls ≤ 2560) {mo : Nat} {mad : Nat → Nat} {o x : Nat} {K : zK} {S : zS} {f : Nat → Int64} {ad : zg → Nat} {M : zM} {k m : Nat} (hL : zLw g mo mad o x K S f ad M) (hok : zOK K S) (T : Nat → zK → zS → Prop) (hs : ∀ (a0 : Int32), lcal T n K (x_appear K a0) [1, 3] (k_appear K a0) (o_appear S a0).1 (b2i (!(ksu K a0.toNatClampNeg).2.2.2.2.2.1) = (o_appear S a0).2)) (hk : k ≤ 100 + 100 * n + cF K) (hm : m ≤ 50000 + 6000 * n + 4 * cF K) (kk : ∀ M1 k1 m1, zLI T g mo mad o x (n + 1) M1 k1 m1 → zG g X M1 k1 m1 2026 [some (.ref b), some (.ref x), some (.ref mo), some (.ref o), some (.int (nI (5 * n))), none, none, none] []) : zG g X M k m 1324 [some (.ref b), some (.ref x), some (.ref mo), some (.ref o), some (.int (nI (5 * n))), none, none, none] [] := by
  have hc := hok.1.2.2.2.2.2
  refine zaload_n C dL_law__1324 rfl ?_
  refine zaload_n C dL_law__1325 rfl ?_
  refine ziload C dL_law__1326 rfl ?_
  refine zconst (v := 1) C dL_law__1328 (by decide) ?_
  refine ziadd C dL_law__1329 ?_
  refine zsldG (i0 := 5 * n + 1) C hX hbl hbA (nI_add (5 * n) 1) (by omega) (by omega) dL_law__1330 ?_
  refine zaload_n C dL_law__1331 rfl ?_
  refine zcallSW (np := 3) C hN (v_appear (xs (5 * n + 1)) hL hok) hcw_appear zini (by decide) (by decide +kernel) hl_L_163 rfl rfl (by decide) (by decide) (by omega) (by omega) rfl (by exact Nat.le_of_ble_eq_true rfl) dL_law__1332 (fun w M1 hp => ?_)
  rcases hp with ⟨rfl, hx0, f2, ad1, hL, hf⟩ | ⟨j, c, hj, hj3, rfl, hxc, rfl⟩
  · obtain ⟨hS0, hev, hT1, hcF⟩ := (hs (xs (5 * n + 1))).1 hx0
    refine zistore (L1 := [_, _, _, _, _, _, _, _]) C dL_law__1335 rfl (Nat.le_of_ble_eq_true rfl) ?_
    refine zaload_n C dL_law__1337 rfl ?_
    refine zaload_n C dL_law__1338 rfl ?_
    refine ziload C dL_law__1339 rfl ?_
    refine zconst (v := 1) C dL_law__1341 (by decide) ?_
    refine ziadd C dL_law__1342 ?_
    refine zsldG (i0 := 5 * n + 1) C hX hbl hbA (nI_add (5 * n) 1) (by omega) (by omega) dL_law__1343 ?_
    refine zcallV C (hL.call (m_appear (xs (5 * n + 1)) hok.2.1 hok.2.2.2.2.2.1)) hy_X8_appear hv_X8_appear hl_L_165 hL.atmo rfl rfl rfl rfl (by decide) (by decide) (by omega) (by omega) rfl (by exact Nat.le_of_ble_eq_true rfl) dL_law__1344 (fun v M hp => ?_)
    obtain ⟨S1, hv, hL⟩ := hp
    have e1 : S1 = (o_appear S (xs (5 * n + 1))).1 := congrArg Prod.fst hv
    have e2 : v = (o_appear S (xs (5 * n + 1))).2 := congrArg Prod.snd hv
    clear hv
    subst e1
    subst e2
    refine zistore (L1 := [_, _, _, _, _, _, _, _]) C dL_law__1347 rfl (Nat.le_of_ble_eq_true rfl) ?_
    refine zaload_n C dL_law__1349 rfl ?_
    refine zcallV C (hL.call m_thrown) hy_X8_thrown hv_X8_thrown hl_L_112 hL.atmo rfl rfl rfl rfl (by decide) (by decide) (by omega) (by omega) rfl (by exact Nat.le_of_ble_eq_true rfl) dL_law__1350 (fun vt M hp => ?_)
    obtain ⟨S2, ⟨rfl, rfl⟩, hL⟩ := hp
    rw [hS0]
    refine ziload C dL_law__1353 rfl ?_
    refine zicmp_eq (tgt := 1360) C dL_law__1355 (by decide) (fun _ => ?_) (fun h => absurd rfl h)
    refine ziload C dL_law__1360 rfl ?_
    refine zif_ne_f (tgt := 1384) C dL_law__1362 (by decide) (by decide) ?_
    refine zaload_n C dL_law__1365 rfl ?_
    refine zconst (v := 0) C dL_law__1366 (by decide) ?_
    refine zrjald (i0 := 0) C hL.atout rfl (by decide) (by decide) dL_law__1367 ?_
    refine ziload C dL_law__1368 rfl ?_
    refine zif_eq (tgt := 1377) C dL_law__1370 (by decide) (fun hvv => ?_) (fun hvv => ?_)
    · refine zlconst (v := 0) C dL_law__1377 rfl ?_
      refine zlcmp C dL_law__1378 ?_
      refine zif_eq_t (tgt := 1384) C dL_law__1379 (by decide) ((lg_cmp_eq _ _).mpr (hf.trans (if_pos (hev.trans hvv)))) ?_
      refine zgoto (tgt := 2026) C dL_law__1384 (by decide) ?_
      refine zfor [true, true, true, true, true, false, false, false] rfl ?_
      exact kk _ _ _ ⟨_, _, f2, ad1, hL, hT1, by omega, by omega⟩
    · refine zlconst (v := 1) C dL_law__1373 rfl ?_
      refine zgoto (tgt := 1378) C dL_law__1374 (by decide) ?_
      refine zlcmp C dL_law__1378 ?_
      refine zif_eq_t (tgt := 1384) C dL_law__1379 (by decide) ((lg_cmp_eq _ _).mpr (hf.trans (if_neg (fun h => hvv (hev.symm.trans h))))) ?_
      refine zgoto (tgt := 2026) C dL_law__1384 (by decide) ?_
      refine zfor [true, true, true, true, true, false, false, false] rfl ?_
      exact kk _ _ _ ⟨_, _, f2, ad1, hL, hT1, by omega, by omega⟩
  · obtain ⟨hS0, hT1⟩ := (hs (xs (5 * n + 1))).2 j c hj hxc
    refine zistore (L1 := [_, _, _, _, _, _, _, _]) C dL_law__1335 rfl (Nat.le_of_ble_eq_true rfl) ?_
    refine zaload_n C dL_law__1337 rfl ?_
    refine zaload_n C dL_law__1338 rfl ?_
    refine ziload C dL_law__1339 rfl ?_
    refine zconst (v := 1) C dL_law__1341 (by decide) ?_
    refine ziadd C dL_law__1342 ?_
    refine zsldG (i0 := 5 * n + 1) C hX hbl hbA (nI_add (5 * n) 1) (by omega) (by omega) dL_law__1343 ?_
    refine zcallV C (hL.call (m_appear (xs (5 * n + 1)) hok.2.1 hok.2.2.2.2.2.1)) hy_X8_appear hv_X8_appear hl_L_165 hL.atmo rfl rfl rfl rfl (by decide) (by decide) (by omega) (by omega) rfl (by exact Nat.le_of_ble_eq_true rfl) dL_law__1344 (fun v M hp => ?_)
    obtain ⟨S1, hv, hL⟩ := hp
    have e1 : S1 = (o_appear S (xs (5 * n + 1))).1 := congrArg Prod.fst hv
    have e2 : v = (o_appear S (xs (5 * n + 1))).2 := congrArg Prod.snd hv
    clear hv
    subst e1
    subst e2
    refine zistore (L1 := [_, _, _, _, _, _, _, _]) C dL_law__1347 rfl (Nat.le_of_ble_eq_true rfl) ?_
    refine zaload_n C dL_law__1349 rfl ?_
    refine zcallV C (hL.call m_thrown) hy_X8_thrown hv_X8_thrown hl_L_112 hL.atmo rfl rfl rfl rfl (by decide) (by decide) (by omega) (by omega) rfl (by exact Nat.le_of_ble_eq_true rfl) dL_law__1350 (fun vt M hp => ?_)
    obtain ⟨S2, ⟨rfl, rfl⟩, hL⟩ := hp
    rw [hS0]
    refine ziload C dL_law__1353 rfl ?_
    refine zicmp_eq (tgt := 1360) C dL_law__1355 (by decide) (fun _ => ?_) (fun h => absurd rfl h)
    refine ziload C dL_law__1360 rfl ?_
    refine zif_ne_t (tgt := 1384) C dL_law__1362 (by decide) (nIj hj3) ?_
    refine zgoto (tgt := 2026) C dL_law__1384 (by decide) ?_
    refine zfor [true, true, true, true, true, false, false, false] rfl ?_
    exact kk _ _ _ ⟨K, _, f, ad, hL, hT1, by omega, by omega⟩
set_option maxRecDepth 100000 in
set_option maxHeartbeats 2000000 in
theorem lc_testify {g : zGh} {X : zX} (C : zC g X RL cL_law_ 8 12 454 711863 6960515) (hN : zNc X.1.2.2.2) {b Ls n : Nat} {xs : Nat → Int32} (hX : va_X b Ls xs X.1.2.2.2 X.1.2.2.2.heap) (hbl : b < X.1.2.2.2.heap.size) (hbA : ¬ zA g b) (hn : 5 * n + 5 ≤ Ls) (hLs : Ls ≤ 2560) {mo : Nat} {mad : Nat → Nat} {o x : Nat} {K : zK} {S : zS} {f : Nat → Int64} {ad : zg → Nat} {M : zM} {k m : Nat} (hL : zLw g mo mad o x K S f ad M) (hok : zOK K S) (T : Nat → zK → zS → Prop) (hs : ∀ (a0 : Int32) (a1 : Int32) (a2 : Bool), lcal T n K (x_testify K a0 a1) [1, 3] (k_testify K a0 a1 a2) (o_testify S a0 a1 a2).1 ((nI ((kws K a0.toNatClampNeg).1 + 1)) = (o_testify S a0 a1 a2).2)) (hk : k ≤ 100 + 100 * n + cF K) (hm : m ≤ 50000 + 6000 * n + 4 * cF K) (kk : ∀ M1 k1 m1, zLI T g mo mad o x (n + 1) M1 k1 m1 → zG g X M1 k1 m1 2026 [some (.ref b), some (.ref x), some (.ref mo), some (.ref o), some (.int (nI (5 * n))), none, none, none] []) : zG g X M k m 1387 [some (.ref b), some (.ref x), some (.ref mo), some (.ref o), some (.int (nI (5 * n))), none, none, none] [] := by
  have hc := hok.1.2.2.2.2.2
  refine zaload_n C dL_law__1387 rfl ?_
  refine zaload_n C dL_law__1388 rfl ?_
  refine ziload C dL_law__1389 rfl ?_
  refine zconst (v := 1) C dL_law__1391 (by decide) ?_
  refine ziadd C dL_law__1392 ?_
  refine zsldG (i0 := 5 * n + 1) C hX hbl hbA (nI_add (5 * n) 1) (by omega) (by omega) dL_law__1393 ?_
  refine zaload_n C dL_law__1394 rfl ?_
  refine ziload C dL_law__1395 rfl ?_
  refine zconst (v := 2) C dL_law__1397 (by decide) ?_
  refine ziadd C dL_law__1398 ?_
  refine zsldG (i0 := 5 * n + 2) C hX hbl hbA (nI_add (5 * n) 2) (by omega) (by omega) dL_law__1399 ?_
  refine zaload_n C dL_law__1400 rfl ?_
  refine ziload C dL_law__1401 rfl ?_
  refine zconst (v := 3) C dL_law__1403 (by decide) ?_
  refine ziadd C dL_law__1404 ?_
  refine zsldG (i0 := 5 * n + 3) C hX hbl hbA (nI_add (5 * n) 3) (by omega) (by omega) dL_law__1405 ?_
  refine zif_eq (tgt := 1413) C dL_law__1406 (by decide) (fun hx3 => ?_) (fun hx3 => ?_)
  · refine zconst (v := 0) C dL_law__1413 (by decide) ?_
    refine zaload_n C dL_law__1414 rfl ?_
    refine zcallSW (np := 5) C hN (v_testify (xs (5 * n + 1)) (xs (5 * n + 2)) false hL hok) hcw_testify zini (by decide) (by decide +kernel) hl_L_166 rfl rfl (by decide) (by decide) (by omega) (by omega) rfl (by exact Nat.le_of_ble_eq_true rfl) dL_law__1415 (fun w M1 hp => ?_)
    rcases hp with ⟨rfl, hx0, f2, ad1, hL, hf⟩ | ⟨j, c, hj, hj3, rfl, hxc, rfl⟩
    · obtain ⟨hS0, hev, hT1, hcF⟩ := (hs (xs (5 * n + 1)) (xs (5 * n + 2)) false).1 hx0
      refine zistore (L1 := [_, _, _, _, _, _, _, _]) C dL_law__1418 rfl (Nat.le_of_ble_eq_true rfl) ?_
      refine zaload_n C dL_law__1420 rfl ?_
      refine zaload_n C dL_law__1421 rfl ?_
      refine ziload C dL_law__1422 rfl ?_
      refine zconst (v := 1) C dL_law__1424 (by decide) ?_
      refine ziadd C dL_law__1425 ?_
      refine zsldG (i0 := 5 * n + 1) C hX hbl hbA (nI_add (5 * n) 1) (by omega) (by omega) dL_law__1426 ?_
      refine zaload_n C dL_law__1427 rfl ?_
      refine ziload C dL_law__1428 rfl ?_
      refine zconst (v := 2) C dL_law__1430 (by decide) ?_
      refine ziadd C dL_law__1431 ?_
      refine zsldG (i0 := 5 * n + 2) C hX hbl hbA (nI_add (5 * n) 2) (by omega) (by omega) dL_law__1432 ?_
      refine zaload_n C dL_law__1433 rfl ?_
      refine ziload C dL_law__1434 rfl ?_
      refine zconst (v := 3) C dL_law__1436 (by decide) ?_
      refine ziadd C dL_law__1437 ?_
      refine zsldG (i0 := 5 * n + 3) C hX hbl hbA (nI_add (5 * n) 3) (by omega) (by omega) dL_law__1438 ?_
      refine zif_eq_t (tgt := 1446) C dL_law__1439 (by decide) hx3 ?_
      refine zconst (v := 0) C dL_law__1446 (by decide) ?_
      refine zcallV C (hL.call (m_testify (xs (5 * n + 1)) (xs (5 * n + 2)) false hok.2.1)) hy_X8_testify hv_X8_testify hl_L_169 hL.atmo rfl rfl rfl rfl (by decide) (by decide) (by omega) (by omega) rfl (by exact Nat.le_of_ble_eq_true rfl) dL_law__1447 (fun v M hp => ?_)
      obtain ⟨S1, hv, hL⟩ := hp
      have e1 : S1 = (o_testify S (xs (5 * n + 1)) (xs (5 * n + 2)) false).1 := congrArg Prod.fst hv
      have e2 : v = (o_testify S (xs (5 * n + 1)) (xs (5 * n + 2)) false).2 := congrArg Prod.snd hv
      clear hv
      subst e1
      subst e2
      refine zistore (L1 := [_, _, _, _, _, _, _, _]) C dL_law__1450 rfl (Nat.le_of_ble_eq_true rfl) ?_
      refine zaload_n C dL_law__1452 rfl ?_
      refine zcallV C (hL.call m_thrown) hy_X8_thrown hv_X8_thrown hl_L_112 hL.atmo rfl rfl rfl rfl (by decide) (by decide) (by omega) (by omega) rfl (by exact Nat.le_of_ble_eq_true rfl) dL_law__1453 (fun vt M hp => ?_)
      obtain ⟨S2, ⟨rfl, rfl⟩, hL⟩ := hp
      rw [hS0]
      refine ziload C dL_law__1456 rfl ?_
      refine zicmp_eq (tgt := 1463) C dL_law__1458 (by decide) (fun _ => ?_) (fun h => absurd rfl h)
      refine ziload C dL_law__1463 rfl ?_
      refine zif_ne_f (tgt := 1480) C dL_law__1465 (by decide) (by decide) ?_
      refine zaload_n C dL_law__1468 rfl ?_
      refine zconst (v := 0) C dL_law__1469 (by decide) ?_
      refine zrjald (i0 := 0) C hL.atout rfl (by decide) (by decide) dL_law__1470 ?_
      refine ziload C dL_law__1471 rfl ?_
      refine zi2l C dL_law__1473 ?_
      refine zlcmp C dL_law__1474 ?_
      refine zif_eq_t (tgt := 1480) C dL_law__1475 (by decide) ((lg_cmp_eq _ _).mpr (hf.trans (congrArg Int32.toInt64 hev))) ?_
      refine zgoto (tgt := 2026) C dL_law__1480 (by decide) ?_
      refine zfor [true, true, true, true, true, false, false, false] rfl ?_
      exact kk _ _ _ ⟨_, _, f2, ad1, hL, hT1, by omega, by omega⟩
    · obtain ⟨hS0, hT1⟩ := (hs (xs (5 * n + 1)) (xs (5 * n + 2)) false).2 j c hj hxc
      refine zistore (L1 := [_, _, _, _, _, _, _, _]) C dL_law__1418 rfl (Nat.le_of_ble_eq_true rfl) ?_
      refine zaload_n C dL_law__1420 rfl ?_
      refine zaload_n C dL_law__1421 rfl ?_
      refine ziload C dL_law__1422 rfl ?_
      refine zconst (v := 1) C dL_law__1424 (by decide) ?_
      refine ziadd C dL_law__1425 ?_
      refine zsldG (i0 := 5 * n + 1) C hX hbl hbA (nI_add (5 * n) 1) (by omega) (by omega) dL_law__1426 ?_
      refine zaload_n C dL_law__1427 rfl ?_
      refine ziload C dL_law__1428 rfl ?_
      refine zconst (v := 2) C dL_law__1430 (by decide) ?_
      refine ziadd C dL_law__1431 ?_
      refine zsldG (i0 := 5 * n + 2) C hX hbl hbA (nI_add (5 * n) 2) (by omega) (by omega) dL_law__1432 ?_
      refine zaload_n C dL_law__1433 rfl ?_
      refine ziload C dL_law__1434 rfl ?_
      refine zconst (v := 3) C dL_law__1436 (by decide) ?_
      refine ziadd C dL_law__1437 ?_
      refine zsldG (i0 := 5 * n + 3) C hX hbl hbA (nI_add (5 * n) 3) (by omega) (by omega) dL_law__1438 ?_
      refine zif_eq_t (tgt := 1446) C dL_law__1439 (by decide) hx3 ?_
      refine zconst (v := 0) C dL_law__1446 (by decide) ?_
      refine zcallV C (hL.call (m_testify (xs (5 * n + 1)) (xs (5 * n + 2)) false hok.2.1)) hy_X8_testify hv_X8_testify hl_L_169 hL.atmo rfl rfl rfl rfl (by decide) (by decide) (by omega) (by omega) rfl (by exact Nat.le_of_ble_eq_true rfl) dL_law__1447 (fun v M hp => ?_)
      obtain ⟨S1, hv, hL⟩ := hp
      have e1 : S1 = (o_testify S (xs (5 * n + 1)) (xs (5 * n + 2)) false).1 := congrArg Prod.fst hv
      have e2 : v = (o_testify S (xs (5 * n + 1)) (xs (5 * n + 2)) false).2 := congrArg Prod.snd hv
      clear hv
      subst e1
      subst e2
      refine zistore (L1 := [_, _, _, _, _, _, _, _]) C dL_law__1450 rfl (Nat.le_of_ble_eq_true rfl) ?_
      refine zaload_n C dL_law__1452 rfl ?_
      refine zcallV C (hL.call m_thrown) hy_X8_thrown hv_X8_thrown hl_L_112 hL.atmo rfl rfl rfl rfl (by decide) (by decide) (by omega) (by omega) rfl (by exact Nat.le_of_ble_eq_true rfl) dL_law__1453 (fun vt M hp => ?_)
      obtain ⟨S2, ⟨rfl, rfl⟩, hL⟩ := hp
      rw [hS0]
      refine ziload C dL_law__1456 rfl ?_
      refine zicmp_eq (tgt := 1463) C dL_law__1458 (by decide) (fun _ => ?_) (fun h => absurd rfl h)
      refine ziload C dL_law__1463 rfl ?_
      refine zif_ne_t (tgt := 1480) C dL_law__1465 (by decide) (nIj hj3) ?_
      refine zgoto (tgt := 2026) C dL_law__1480 (by decide) ?_
      refine zfor [true, true, true, true, true, false, false, false] rfl ?_
      exact kk _ _ _ ⟨K, _, f, ad, hL, hT1, by omega, by omega⟩
  · refine zconst (v := 1) C dL_law__1409 (by decide) ?_
    refine zgoto (tgt := 1414) C dL_law__1410 (by decide) ?_
    refine zaload_n C dL_law__1414 rfl ?_
    refine zcallSW (np := 5) C hN (v_testify (xs (5 * n + 1)) (xs (5 * n + 2)) true hL hok) hcw_testify zini (by decide) (by decide +kernel) hl_L_166 rfl rfl (by decide) (by decide) (by omega) (by omega) rfl (by exact Nat.le_of_ble_eq_true rfl) dL_law__1415 (fun w M1 hp => ?_)
    rcases hp with ⟨rfl, hx0, f2, ad1, hL, hf⟩ | ⟨j, c, hj, hj3, rfl, hxc, rfl⟩
    · obtain ⟨hS0, hev, hT1, hcF⟩ := (hs (xs (5 * n + 1)) (xs (5 * n + 2)) true).1 hx0
      refine zistore (L1 := [_, _, _, _, _, _, _, _]) C dL_law__1418 rfl (Nat.le_of_ble_eq_true rfl) ?_
      refine zaload_n C dL_law__1420 rfl ?_
      refine zaload_n C dL_law__1421 rfl ?_
      refine ziload C dL_law__1422 rfl ?_
      refine zconst (v := 1) C dL_law__1424 (by decide) ?_
      refine ziadd C dL_law__1425 ?_
      refine zsldG (i0 := 5 * n + 1) C hX hbl hbA (nI_add (5 * n) 1) (by omega) (by omega) dL_law__1426 ?_
      refine zaload_n C dL_law__1427 rfl ?_
      refine ziload C dL_law__1428 rfl ?_
      refine zconst (v := 2) C dL_law__1430 (by decide) ?_
      refine ziadd C dL_law__1431 ?_
      refine zsldG (i0 := 5 * n + 2) C hX hbl hbA (nI_add (5 * n) 2) (by omega) (by omega) dL_law__1432 ?_
      refine zaload_n C dL_law__1433 rfl ?_
      refine ziload C dL_law__1434 rfl ?_
      refine zconst (v := 3) C dL_law__1436 (by decide) ?_
      refine ziadd C dL_law__1437 ?_
      refine zsldG (i0 := 5 * n + 3) C hX hbl hbA (nI_add (5 * n) 3) (by omega) (by omega) dL_law__1438 ?_
      refine zif_eq_f (tgt := 1446) C dL_law__1439 (by decide) hx3 ?_
      refine zconst (v := 1) C dL_law__1442 (by decide) ?_
      refine zgoto (tgt := 1447) C dL_law__1443 (by decide) ?_
      refine zcallV C (hL.call (m_testify (xs (5 * n + 1)) (xs (5 * n + 2)) true hok.2.1)) hy_X8_testify hv_X8_testify hl_L_169 hL.atmo rfl rfl rfl rfl (by decide) (by decide) (by omega) (by omega) rfl (by exact Nat.le_of_ble_eq_true rfl) dL_law__1447 (fun v M hp => ?_)
      obtain ⟨S1, hv, hL⟩ := hp
      have e1 : S1 = (o_testify S (xs (5 * n + 1)) (xs (5 * n + 2)) true).1 := congrArg Prod.fst hv
      have e2 : v = (o_testify S (xs (5 * n + 1)) (xs (5 * n + 2)) true).2 := congrArg Prod.snd hv
      clear hv
      subst e1
      subst e2
      refine zistore (L1 := [_, _, _, _, _, _, _, _]) C dL_law__1450 rfl (Nat.le_of_ble_eq_true rfl) ?_
      refine zaload_n C dL_law__1452 rfl ?_
      refine zcallV C (hL.call m_thrown) hy_X8_thrown hv_X8_thrown hl_L_112 hL.atmo rfl rfl rfl rfl (by decide) (by decide) (by omega) (by omega) rfl (by exact Nat.le_of_ble_eq_true rfl) dL_law__1453 (fun vt M hp => ?_)
      obtain ⟨S2, ⟨rfl, rfl⟩, hL⟩ := hp
      rw [hS0]
      refine ziload C dL_law__1456 rfl ?_
      refine zicmp_eq (tgt := 1463) C dL_law__1458 (by decide) (fun _ => ?_) (fun h => absurd rfl h)
      refine ziload C dL_law__1463 rfl ?_
      refine zif_ne_f (tgt := 1480) C dL_law__1465 (by decide) (by decide) ?_
      refine zaload_n C dL_law__1468 rfl ?_
      refine zconst (v := 0) C dL_law__1469 (by decide) ?_
      refine zrjald (i0 := 0) C hL.atout rfl (by decide) (by decide) dL_law__1470 ?_
      refine ziload C dL_law__1471 rfl ?_
      refine zi2l C dL_law__1473 ?_
      refine zlcmp C dL_law__1474 ?_
      refine zif_eq_t (tgt := 1480) C dL_law__1475 (by decide) ((lg_cmp_eq _ _).mpr (hf.trans (congrArg Int32.toInt64 hev))) ?_
      refine zgoto (tgt := 2026) C dL_law__1480 (by decide) ?_
      refine zfor [true, true, true, true, true, false, false, false] rfl ?_
      exact kk _ _ _ ⟨_, _, f2, ad1, hL, hT1, by omega, by omega⟩
    · obtain ⟨hS0, hT1⟩ := (hs (xs (5 * n + 1)) (xs (5 * n + 2)) true).2 j c hj hxc
      refine zistore (L1 := [_, _, _, _, _, _, _, _]) C dL_law__1418 rfl (Nat.le_of_ble_eq_true rfl) ?_
      refine zaload_n C dL_law__1420 rfl ?_
      refine zaload_n C dL_law__1421 rfl ?_
      refine ziload C dL_law__1422 rfl ?_
      refine zconst (v := 1) C dL_law__1424 (by decide) ?_
      refine ziadd C dL_law__1425 ?_
      refine zsldG (i0 := 5 * n + 1) C hX hbl hbA (nI_add (5 * n) 1) (by omega) (by omega) dL_law__1426 ?_
      refine zaload_n C dL_law__1427 rfl ?_
      refine ziload C dL_law__1428 rfl ?_
      refine zconst (v := 2) C dL_law__1430 (by decide) ?_
      refine ziadd C dL_law__1431 ?_
      refine zsldG (i0 := 5 * n + 2) C hX hbl hbA (nI_add (5 * n) 2) (by omega) (by omega) dL_law__1432 ?_
      refine zaload_n C dL_law__1433 rfl ?_
      refine ziload C dL_law__1434 rfl ?_
      refine zconst (v := 3) C dL_law__1436 (by decide) ?_
      refine ziadd C dL_law__1437 ?_
      refine zsldG (i0 := 5 * n + 3) C hX hbl hbA (nI_add (5 * n) 3) (by omega) (by omega) dL_law__1438 ?_
      refine zif_eq_f (tgt := 1446) C dL_law__1439 (by decide) hx3 ?_
      refine zconst (v := 1) C dL_law__1442 (by decide) ?_
      refine zgoto (tgt := 1447) C dL_law__1443 (by decide) ?_
      refine zcallV C (hL.call (m_testify (xs (5 * n + 1)) (xs (5 * n + 2)) true hok.2.1)) hy_X8_testify hv_X8_testify hl_L_169 hL.atmo rfl rfl rfl rfl (by decide) (by decide) (by omega) (by omega) rfl (by exact Nat.le_of_ble_eq_true rfl) dL_law__1447 (fun v M hp => ?_)
      obtain ⟨S1, hv, hL⟩ := hp
      have e1 : S1 = (o_testify S (xs (5 * n + 1)) (xs (5 * n + 2)) true).1 := congrArg Prod.fst hv
      have e2 : v = (o_testify S (xs (5 * n + 1)) (xs (5 * n + 2)) true).2 := congrArg Prod.snd hv
      clear hv
      subst e1
      subst e2
      refine zistore (L1 := [_, _, _, _, _, _, _, _]) C dL_law__1450 rfl (Nat.le_of_ble_eq_true rfl) ?_
      refine zaload_n C dL_law__1452 rfl ?_
      refine zcallV C (hL.call m_thrown) hy_X8_thrown hv_X8_thrown hl_L_112 hL.atmo rfl rfl rfl rfl (by decide) (by decide) (by omega) (by omega) rfl (by exact Nat.le_of_ble_eq_true rfl) dL_law__1453 (fun vt M hp => ?_)
      obtain ⟨S2, ⟨rfl, rfl⟩, hL⟩ := hp
      rw [hS0]
      refine ziload C dL_law__1456 rfl ?_
      refine zicmp_eq (tgt := 1463) C dL_law__1458 (by decide) (fun _ => ?_) (fun h => absurd rfl h)
      refine ziload C dL_law__1463 rfl ?_
      refine zif_ne_t (tgt := 1480) C dL_law__1465 (by decide) (nIj hj3) ?_
      refine zgoto (tgt := 2026) C dL_law__1480 (by decide) ?_
      refine zfor [true, true, true, true, true, false, false, false] rfl ?_
      exact kk _ _ _ ⟨K, _, f, ad, hL, hT1, by omega, by omega⟩
set_option maxRecDepth 100000 in
set_option maxHeartbeats 2000000 in
theorem lc_judge {g : zGh} {X : zX} (C : zC g X RL cL_law_ 8 12 454 711863 6960515) (hN : zNc X.1.2.2.2) {b Ls n : Nat} {xs : Nat → Int32} (hX : va_X b Ls xs X.1.2.2.2 X.1.2.2.2.heap) (hbl : b < X.1.2.2.2.heap.size) (hbA : ¬ zA g b) (hn : 5 * n + 5 ≤ Ls) (hLs : Ls ≤ 2560) {mo : Nat} {mad : Nat → Nat} {o x : Nat} {K : zK} {S : zS} {f : Nat → Int64} {ad : zg → Nat} {M : zM} {k m : Nat} (hL : zLw g mo mad o x K S f ad M) (hok : zOK K S) (T : Nat → zK → zS → Prop) (hs : ∀ (a0 : Int32), lcal T n K (x_judge K a0) [1, 3] (k_judge K a0) (o_judge S a0).1 (b2i (a_judge K a0) = (o_judge S a0).2)) (hk : k ≤ 100 + 100 * n + cF K) (hm : m ≤ 50000 + 6000 * n + 4 * cF K) (kk : ∀ M1 k1 m1, zLI T g mo mad o x (n + 1) M1 k1 m1 → zG g X M1 k1 m1 2026 [some (.ref b), some (.ref x), some (.ref mo), some (.ref o), some (.int (nI (5 * n))), none, none, none] []) : zG g X M k m 1483 [some (.ref b), some (.ref x), some (.ref mo), some (.ref o), some (.int (nI (5 * n))), none, none, none] [] := by
  have hc := hok.1.2.2.2.2.2
  refine zaload_n C dL_law__1483 rfl ?_
  refine zaload_n C dL_law__1484 rfl ?_
  refine ziload C dL_law__1485 rfl ?_
  refine zconst (v := 1) C dL_law__1487 (by decide) ?_
  refine ziadd C dL_law__1488 ?_
  refine zsldG (i0 := 5 * n + 1) C hX hbl hbA (nI_add (5 * n) 1) (by omega) (by omega) dL_law__1489 ?_
  refine zaload_n C dL_law__1490 rfl ?_
  refine zcallSW (np := 3) C hN (v_judge (xs (5 * n + 1)) hL hok) hcw_judge zini (by decide) (by decide +kernel) hl_L_170 rfl rfl (by decide) (by decide) (by omega) (by omega) rfl (by exact Nat.le_of_ble_eq_true rfl) dL_law__1491 (fun w M1 hp => ?_)
  rcases hp with ⟨rfl, hx0, f2, ad1, hL, hf⟩ | ⟨j, c, hj, hj3, rfl, hxc, rfl⟩
  · obtain ⟨hS0, hev, hT1, hcF⟩ := (hs (xs (5 * n + 1))).1 hx0
    refine zistore (L1 := [_, _, _, _, _, _, _, _]) C dL_law__1494 rfl (Nat.le_of_ble_eq_true rfl) ?_
    refine zaload_n C dL_law__1496 rfl ?_
    refine zaload_n C dL_law__1497 rfl ?_
    refine ziload C dL_law__1498 rfl ?_
    refine zconst (v := 1) C dL_law__1500 (by decide) ?_
    refine ziadd C dL_law__1501 ?_
    refine zsldG (i0 := 5 * n + 1) C hX hbl hbA (nI_add (5 * n) 1) (by omega) (by omega) dL_law__1502 ?_
    refine zcallV C (hL.call (m_judge (xs (5 * n + 1)) hok.2.1 hok.2.2.2.2.2.2.1)) hy_X8_judge hv_X8_judge hl_L_172 hL.atmo rfl rfl rfl rfl (by decide) (by decide) (by omega) (by omega) rfl (by exact Nat.le_of_ble_eq_true rfl) dL_law__1503 (fun v M hp => ?_)
    obtain ⟨S1, hv, hL⟩ := hp
    have e1 : S1 = (o_judge S (xs (5 * n + 1))).1 := congrArg Prod.fst hv
    have e2 : v = (o_judge S (xs (5 * n + 1))).2 := congrArg Prod.snd hv
    clear hv
    subst e1
    subst e2
    refine zistore (L1 := [_, _, _, _, _, _, _, _]) C dL_law__1506 rfl (Nat.le_of_ble_eq_true rfl) ?_
    refine zaload_n C dL_law__1508 rfl ?_
    refine zcallV C (hL.call m_thrown) hy_X8_thrown hv_X8_thrown hl_L_112 hL.atmo rfl rfl rfl rfl (by decide) (by decide) (by omega) (by omega) rfl (by exact Nat.le_of_ble_eq_true rfl) dL_law__1509 (fun vt M hp => ?_)
    obtain ⟨S2, ⟨rfl, rfl⟩, hL⟩ := hp
    rw [hS0]
    refine ziload C dL_law__1512 rfl ?_
    refine zicmp_eq (tgt := 1519) C dL_law__1514 (by decide) (fun _ => ?_) (fun h => absurd rfl h)
    refine ziload C dL_law__1519 rfl ?_
    refine zif_ne_f (tgt := 1543) C dL_law__1521 (by decide) (by decide) ?_
    refine zaload_n C dL_law__1524 rfl ?_
    refine zconst (v := 0) C dL_law__1525 (by decide) ?_
    refine zrjald (i0 := 0) C hL.atout rfl (by decide) (by decide) dL_law__1526 ?_
    refine ziload C dL_law__1527 rfl ?_
    refine zif_eq (tgt := 1536) C dL_law__1529 (by decide) (fun hvv => ?_) (fun hvv => ?_)
    · refine zlconst (v := 0) C dL_law__1536 rfl ?_
      refine zlcmp C dL_law__1537 ?_
      refine zif_eq_t (tgt := 1543) C dL_law__1538 (by decide) ((lg_cmp_eq _ _).mpr (hf.trans (if_pos (hev.trans hvv)))) ?_
      refine zgoto (tgt := 2026) C dL_law__1543 (by decide) ?_
      refine zfor [true, true, true, true, true, false, false, false] rfl ?_
      exact kk _ _ _ ⟨_, _, f2, ad1, hL, hT1, by omega, by omega⟩
    · refine zlconst (v := 1) C dL_law__1532 rfl ?_
      refine zgoto (tgt := 1537) C dL_law__1533 (by decide) ?_
      refine zlcmp C dL_law__1537 ?_
      refine zif_eq_t (tgt := 1543) C dL_law__1538 (by decide) ((lg_cmp_eq _ _).mpr (hf.trans (if_neg (fun h => hvv (hev.symm.trans h))))) ?_
      refine zgoto (tgt := 2026) C dL_law__1543 (by decide) ?_
      refine zfor [true, true, true, true, true, false, false, false] rfl ?_
      exact kk _ _ _ ⟨_, _, f2, ad1, hL, hT1, by omega, by omega⟩
  · obtain ⟨hS0, hT1⟩ := (hs (xs (5 * n + 1))).2 j c hj hxc
    refine zistore (L1 := [_, _, _, _, _, _, _, _]) C dL_law__1494 rfl (Nat.le_of_ble_eq_true rfl) ?_
    refine zaload_n C dL_law__1496 rfl ?_
    refine zaload_n C dL_law__1497 rfl ?_
    refine ziload C dL_law__1498 rfl ?_
    refine zconst (v := 1) C dL_law__1500 (by decide) ?_
    refine ziadd C dL_law__1501 ?_
    refine zsldG (i0 := 5 * n + 1) C hX hbl hbA (nI_add (5 * n) 1) (by omega) (by omega) dL_law__1502 ?_
    refine zcallV C (hL.call (m_judge (xs (5 * n + 1)) hok.2.1 hok.2.2.2.2.2.2.1)) hy_X8_judge hv_X8_judge hl_L_172 hL.atmo rfl rfl rfl rfl (by decide) (by decide) (by omega) (by omega) rfl (by exact Nat.le_of_ble_eq_true rfl) dL_law__1503 (fun v M hp => ?_)
    obtain ⟨S1, hv, hL⟩ := hp
    have e1 : S1 = (o_judge S (xs (5 * n + 1))).1 := congrArg Prod.fst hv
    have e2 : v = (o_judge S (xs (5 * n + 1))).2 := congrArg Prod.snd hv
    clear hv
    subst e1
    subst e2
    refine zistore (L1 := [_, _, _, _, _, _, _, _]) C dL_law__1506 rfl (Nat.le_of_ble_eq_true rfl) ?_
    refine zaload_n C dL_law__1508 rfl ?_
    refine zcallV C (hL.call m_thrown) hy_X8_thrown hv_X8_thrown hl_L_112 hL.atmo rfl rfl rfl rfl (by decide) (by decide) (by omega) (by omega) rfl (by exact Nat.le_of_ble_eq_true rfl) dL_law__1509 (fun vt M hp => ?_)
    obtain ⟨S2, ⟨rfl, rfl⟩, hL⟩ := hp
    rw [hS0]
    refine ziload C dL_law__1512 rfl ?_
    refine zicmp_eq (tgt := 1519) C dL_law__1514 (by decide) (fun _ => ?_) (fun h => absurd rfl h)
    refine ziload C dL_law__1519 rfl ?_
    refine zif_ne_t (tgt := 1543) C dL_law__1521 (by decide) (nIj hj3) ?_
    refine zgoto (tgt := 2026) C dL_law__1543 (by decide) ?_
    refine zfor [true, true, true, true, true, false, false, false] rfl ?_
    exact kk _ _ _ ⟨K, _, f, ad, hL, hT1, by omega, by omega⟩
set_option maxRecDepth 100000 in
set_option maxHeartbeats 2000000 in
theorem lc_appeal {g : zGh} {X : zX} (C : zC g X RL cL_law_ 8 12 454 711863 6960515) (hN : zNc X.1.2.2.2) {b Ls n : Nat} {xs : Nat → Int32} (hX : va_X b Ls xs X.1.2.2.2 X.1.2.2.2.heap) (hbl : b < X.1.2.2.2.heap.size) (hbA : ¬ zA g b) (hn : 5 * n + 5 ≤ Ls) (hLs : Ls ≤ 2560) {mo : Nat} {mad : Nat → Nat} {o x : Nat} {K : zK} {S : zS} {f : Nat → Int64} {ad : zg → Nat} {M : zM} {k m : Nat} (hL : zLw g mo mad o x K S f ad M) (hok : zOK K S) (T : Nat → zK → zS → Prop) (hs : ∀ (a0 : Int32), lcal T n K (x_appeal K a0) [1, 3] (k_appeal K a0) (o_appeal S a0).1 (b2i (wonK K a0.toNatClampNeg 0) = (o_appeal S a0).2)) (hk : k ≤ 100 + 100 * n + cF K) (hm : m ≤ 50000 + 6000 * n + 4 * cF K) (kk : ∀ M1 k1 m1, zLI T g mo mad o x (n + 1) M1 k1 m1 → zG g X M1 k1 m1 2026 [some (.ref b), some (.ref x), some (.ref mo), some (.ref o), some (.int (nI (5 * n))), none, none, none] []) : zG g X M k m 1546 [some (.ref b), some (.ref x), some (.ref mo), some (.ref o), some (.int (nI (5 * n))), none, none, none] [] := by
  have hc := hok.1.2.2.2.2.2
  refine zaload_n C dL_law__1546 rfl ?_
  refine zaload_n C dL_law__1547 rfl ?_
  refine ziload C dL_law__1548 rfl ?_
  refine zconst (v := 1) C dL_law__1550 (by decide) ?_
  refine ziadd C dL_law__1551 ?_
  refine zsldG (i0 := 5 * n + 1) C hX hbl hbA (nI_add (5 * n) 1) (by omega) (by omega) dL_law__1552 ?_
  refine zaload_n C dL_law__1553 rfl ?_
  refine zcallSW (np := 3) C hN (v_appeal (xs (5 * n + 1)) hL hok) hcw_appeal zini (by decide) (by decide +kernel) hl_L_173 rfl rfl (by decide) (by decide) (by omega) (by omega) rfl (by exact Nat.le_of_ble_eq_true rfl) dL_law__1554 (fun w M1 hp => ?_)
  rcases hp with ⟨rfl, hx0, f2, ad1, hL, hf⟩ | ⟨j, c, hj, hj3, rfl, hxc, rfl⟩
  · obtain ⟨hS0, hev, hT1, hcF⟩ := (hs (xs (5 * n + 1))).1 hx0
    refine zistore (L1 := [_, _, _, _, _, _, _, _]) C dL_law__1557 rfl (Nat.le_of_ble_eq_true rfl) ?_
    refine zaload_n C dL_law__1559 rfl ?_
    refine zaload_n C dL_law__1560 rfl ?_
    refine ziload C dL_law__1561 rfl ?_
    refine zconst (v := 1) C dL_law__1563 (by decide) ?_
    refine ziadd C dL_law__1564 ?_
    refine zsldG (i0 := 5 * n + 1) C hX hbl hbA (nI_add (5 * n) 1) (by omega) (by omega) dL_law__1565 ?_
    refine zcallV C (hL.call (m_appeal (xs (5 * n + 1)) hok.2.1 hok.2.2.2.2.2.2.1 hok.2.2.2.2.2.1)) hy_X8_appeal hv_X8_appeal hl_L_175 hL.atmo rfl rfl rfl rfl (by decide) (by decide) (by omega) (by omega) rfl (by exact Nat.le_of_ble_eq_true rfl) dL_law__1566 (fun v M hp => ?_)
    obtain ⟨S1, hv, hL⟩ := hp
    have e1 : S1 = (o_appeal S (xs (5 * n + 1))).1 := congrArg Prod.fst hv
    have e2 : v = (o_appeal S (xs (5 * n + 1))).2 := congrArg Prod.snd hv
    clear hv
    subst e1
    subst e2
    refine zistore (L1 := [_, _, _, _, _, _, _, _]) C dL_law__1569 rfl (Nat.le_of_ble_eq_true rfl) ?_
    refine zaload_n C dL_law__1571 rfl ?_
    refine zcallV C (hL.call m_thrown) hy_X8_thrown hv_X8_thrown hl_L_112 hL.atmo rfl rfl rfl rfl (by decide) (by decide) (by omega) (by omega) rfl (by exact Nat.le_of_ble_eq_true rfl) dL_law__1572 (fun vt M hp => ?_)
    obtain ⟨S2, ⟨rfl, rfl⟩, hL⟩ := hp
    rw [hS0]
    refine ziload C dL_law__1575 rfl ?_
    refine zicmp_eq (tgt := 1582) C dL_law__1577 (by decide) (fun _ => ?_) (fun h => absurd rfl h)
    refine ziload C dL_law__1582 rfl ?_
    refine zif_ne_f (tgt := 1606) C dL_law__1584 (by decide) (by decide) ?_
    refine zaload_n C dL_law__1587 rfl ?_
    refine zconst (v := 0) C dL_law__1588 (by decide) ?_
    refine zrjald (i0 := 0) C hL.atout rfl (by decide) (by decide) dL_law__1589 ?_
    refine ziload C dL_law__1590 rfl ?_
    refine zif_eq (tgt := 1599) C dL_law__1592 (by decide) (fun hvv => ?_) (fun hvv => ?_)
    · refine zlconst (v := 0) C dL_law__1599 rfl ?_
      refine zlcmp C dL_law__1600 ?_
      refine zif_eq_t (tgt := 1606) C dL_law__1601 (by decide) ((lg_cmp_eq _ _).mpr (hf.trans (if_pos (hev.trans hvv)))) ?_
      refine zgoto (tgt := 2026) C dL_law__1606 (by decide) ?_
      refine zfor [true, true, true, true, true, false, false, false] rfl ?_
      exact kk _ _ _ ⟨_, _, f2, ad1, hL, hT1, by omega, by omega⟩
    · refine zlconst (v := 1) C dL_law__1595 rfl ?_
      refine zgoto (tgt := 1600) C dL_law__1596 (by decide) ?_
      refine zlcmp C dL_law__1600 ?_
      refine zif_eq_t (tgt := 1606) C dL_law__1601 (by decide) ((lg_cmp_eq _ _).mpr (hf.trans (if_neg (fun h => hvv (hev.symm.trans h))))) ?_
      refine zgoto (tgt := 2026) C dL_law__1606 (by decide) ?_
      refine zfor [true, true, true, true, true, false, false, false] rfl ?_
      exact kk _ _ _ ⟨_, _, f2, ad1, hL, hT1, by omega, by omega⟩
  · obtain ⟨hS0, hT1⟩ := (hs (xs (5 * n + 1))).2 j c hj hxc
    refine zistore (L1 := [_, _, _, _, _, _, _, _]) C dL_law__1557 rfl (Nat.le_of_ble_eq_true rfl) ?_
    refine zaload_n C dL_law__1559 rfl ?_
    refine zaload_n C dL_law__1560 rfl ?_
    refine ziload C dL_law__1561 rfl ?_
    refine zconst (v := 1) C dL_law__1563 (by decide) ?_
    refine ziadd C dL_law__1564 ?_
    refine zsldG (i0 := 5 * n + 1) C hX hbl hbA (nI_add (5 * n) 1) (by omega) (by omega) dL_law__1565 ?_
    refine zcallV C (hL.call (m_appeal (xs (5 * n + 1)) hok.2.1 hok.2.2.2.2.2.2.1 hok.2.2.2.2.2.1)) hy_X8_appeal hv_X8_appeal hl_L_175 hL.atmo rfl rfl rfl rfl (by decide) (by decide) (by omega) (by omega) rfl (by exact Nat.le_of_ble_eq_true rfl) dL_law__1566 (fun v M hp => ?_)
    obtain ⟨S1, hv, hL⟩ := hp
    have e1 : S1 = (o_appeal S (xs (5 * n + 1))).1 := congrArg Prod.fst hv
    have e2 : v = (o_appeal S (xs (5 * n + 1))).2 := congrArg Prod.snd hv
    clear hv
    subst e1
    subst e2
    refine zistore (L1 := [_, _, _, _, _, _, _, _]) C dL_law__1569 rfl (Nat.le_of_ble_eq_true rfl) ?_
    refine zaload_n C dL_law__1571 rfl ?_
    refine zcallV C (hL.call m_thrown) hy_X8_thrown hv_X8_thrown hl_L_112 hL.atmo rfl rfl rfl rfl (by decide) (by decide) (by omega) (by omega) rfl (by exact Nat.le_of_ble_eq_true rfl) dL_law__1572 (fun vt M hp => ?_)
    obtain ⟨S2, ⟨rfl, rfl⟩, hL⟩ := hp
    rw [hS0]
    refine ziload C dL_law__1575 rfl ?_
    refine zicmp_eq (tgt := 1582) C dL_law__1577 (by decide) (fun _ => ?_) (fun h => absurd rfl h)
    refine ziload C dL_law__1582 rfl ?_
    refine zif_ne_t (tgt := 1606) C dL_law__1584 (by decide) (nIj hj3) ?_
    refine zgoto (tgt := 2026) C dL_law__1606 (by decide) ?_
    refine zfor [true, true, true, true, true, false, false, false] rfl ?_
    exact kk _ _ _ ⟨K, _, f, ad, hL, hT1, by omega, by omega⟩
set_option maxRecDepth 100000 in
set_option maxHeartbeats 2000000 in
theorem lc_execute {g : zGh} {X : zX} (C : zC g X RL cL_law_ 8 12 454 711863 6960515) (hN : zNc X.1.2.2.2) {b Ls n : Nat} {xs : Nat → Int32} (hX : va_X b Ls xs X.1.2.2.2 X.1.2.2.2.heap) (hbl : b < X.1.2.2.2.heap.size) (hbA : ¬ zA g b) (hn : 5 * n + 5 ≤ Ls) (hLs : Ls ≤ 2560) {mo : Nat} {mad : Nat → Nat} {o x : Nat} {K : zK} {S : zS} {f : Nat → Int64} {ad : zg → Nat} {M : zM} {k m : Nat} (hL : zLw g mo mad o x K S f ad M) (hok : zOK K S) (T : Nat → zK → zS → Prop) (hs : ∀ (a0 : Int32), lcal T n K (x_execute K a0) [1, 3] (k_execute K a0.toNatClampNeg) (o_execute S a0).1 ((exeA K a0.toNatClampNeg).toInt64 = (o_execute S a0).2)) (hk : k ≤ 100 + 100 * n + cF K) (hm : m ≤ 50000 + 6000 * n + 4 * cF K) (kk : ∀ M1 k1 m1, zLI T g mo mad o x (n + 1) M1 k1 m1 → zG g X M1 k1 m1 2026 [some (.ref b), some (.ref x), some (.ref mo), some (.ref o), some (.int (nI (5 * n))), none, none, none] []) : zG g X M k m 1609 [some (.ref b), some (.ref x), some (.ref mo), some (.ref o), some (.int (nI (5 * n))), none, none, none] [] := by
  have hc := hok.1.2.2.2.2.2
  refine zaload_n C dL_law__1609 rfl ?_
  refine zaload_n C dL_law__1610 rfl ?_
  refine ziload C dL_law__1611 rfl ?_
  refine zconst (v := 1) C dL_law__1613 (by decide) ?_
  refine ziadd C dL_law__1614 ?_
  refine zsldG (i0 := 5 * n + 1) C hX hbl hbA (nI_add (5 * n) 1) (by omega) (by omega) dL_law__1615 ?_
  refine zaload_n C dL_law__1616 rfl ?_
  refine zcallSW (np := 3) C hN (v_execute (xs (5 * n + 1)) hL hok) hcw_execute zini (by decide) (by decide +kernel) hl_L_176 rfl rfl (by decide) (by decide) (by omega) (by omega) rfl (by exact Nat.le_of_ble_eq_true rfl) dL_law__1617 (fun w M1 hp => ?_)
  rcases hp with ⟨rfl, hx0, f2, ad1, hL, hf⟩ | ⟨j, c, hj, hj3, rfl, hxc, rfl⟩
  · obtain ⟨hS0, hev, hT1, hcF⟩ := (hs (xs (5 * n + 1))).1 hx0
    refine zistore (L1 := [_, _, _, _, _, _, _, _]) C dL_law__1620 rfl (Nat.le_of_ble_eq_true rfl) ?_
    refine zaload_n C dL_law__1622 rfl ?_
    refine zaload_n C dL_law__1623 rfl ?_
    refine ziload C dL_law__1624 rfl ?_
    refine zconst (v := 1) C dL_law__1626 (by decide) ?_
    refine ziadd C dL_law__1627 ?_
    refine zsldG (i0 := 5 * n + 1) C hX hbl hbA (nI_add (5 * n) 1) (by omega) (by omega) dL_law__1628 ?_
    refine zcallV C (hL.call (m_execute (xs (5 * n + 1)) hok.2.1 hok.2.2.2.2.2.1)) hy_X8_execute hv_X8_execute hl_L_178 hL.atmo rfl rfl rfl rfl (by decide) (by decide) (by omega) (by omega) rfl (by exact Nat.le_of_ble_eq_true rfl) dL_law__1629 (fun v M hp => ?_)
    obtain ⟨S1, hv, hL⟩ := hp
    have e1 : S1 = (o_execute S (xs (5 * n + 1))).1 := congrArg Prod.fst hv
    have e2 : v = (o_execute S (xs (5 * n + 1))).2 := congrArg Prod.snd hv
    clear hv
    subst e1
    subst e2
    refine zlstore (L1 := [_, _, _, _, _, _, _, _]) C dL_law__1632 rfl (Nat.le_of_ble_eq_true rfl) ?_
    refine zaload_n C dL_law__1634 rfl ?_
    refine zcallV C (hL.call m_thrown) hy_X8_thrown hv_X8_thrown hl_L_112 hL.atmo rfl rfl rfl rfl (by decide) (by decide) (by omega) (by omega) rfl (by exact Nat.le_of_ble_eq_true rfl) dL_law__1635 (fun vt M hp => ?_)
    obtain ⟨S2, ⟨rfl, rfl⟩, hL⟩ := hp
    rw [hS0]
    refine ziload C dL_law__1638 rfl ?_
    refine zicmp_eq (tgt := 1645) C dL_law__1640 (by decide) (fun _ => ?_) (fun h => absurd rfl h)
    refine ziload C dL_law__1645 rfl ?_
    refine zif_ne_f (tgt := 1661) C dL_law__1647 (by decide) (by decide) ?_
    refine zaload_n C dL_law__1650 rfl ?_
    refine zconst (v := 0) C dL_law__1651 (by decide) ?_
    refine zrjald (i0 := 0) C hL.atout rfl (by decide) (by decide) dL_law__1652 ?_
    refine zlload C dL_law__1653 rfl ?_
    refine zlcmp C dL_law__1655 ?_
    refine zif_eq_t (tgt := 1661) C dL_law__1656 (by decide) ((lg_cmp_eq _ _).mpr (hf.trans hev)) ?_
    refine zgoto (tgt := 2026) C dL_law__1661 (by decide) ?_
    refine zfor [true, true, true, true, true, false, false, false] rfl ?_
    exact kk _ _ _ ⟨_, _, f2, ad1, hL, hT1, by omega, by omega⟩
  · obtain ⟨hS0, hT1⟩ := (hs (xs (5 * n + 1))).2 j c hj hxc
    refine zistore (L1 := [_, _, _, _, _, _, _, _]) C dL_law__1620 rfl (Nat.le_of_ble_eq_true rfl) ?_
    refine zaload_n C dL_law__1622 rfl ?_
    refine zaload_n C dL_law__1623 rfl ?_
    refine ziload C dL_law__1624 rfl ?_
    refine zconst (v := 1) C dL_law__1626 (by decide) ?_
    refine ziadd C dL_law__1627 ?_
    refine zsldG (i0 := 5 * n + 1) C hX hbl hbA (nI_add (5 * n) 1) (by omega) (by omega) dL_law__1628 ?_
    refine zcallV C (hL.call (m_execute (xs (5 * n + 1)) hok.2.1 hok.2.2.2.2.2.1)) hy_X8_execute hv_X8_execute hl_L_178 hL.atmo rfl rfl rfl rfl (by decide) (by decide) (by omega) (by omega) rfl (by exact Nat.le_of_ble_eq_true rfl) dL_law__1629 (fun v M hp => ?_)
    obtain ⟨S1, hv, hL⟩ := hp
    have e1 : S1 = (o_execute S (xs (5 * n + 1))).1 := congrArg Prod.fst hv
    have e2 : v = (o_execute S (xs (5 * n + 1))).2 := congrArg Prod.snd hv
    clear hv
    subst e1
    subst e2
    refine zlstore (L1 := [_, _, _, _, _, _, _, _]) C dL_law__1632 rfl (Nat.le_of_ble_eq_true rfl) ?_
    refine zaload_n C dL_law__1634 rfl ?_
    refine zcallV C (hL.call m_thrown) hy_X8_thrown hv_X8_thrown hl_L_112 hL.atmo rfl rfl rfl rfl (by decide) (by decide) (by omega) (by omega) rfl (by exact Nat.le_of_ble_eq_true rfl) dL_law__1635 (fun vt M hp => ?_)
    obtain ⟨S2, ⟨rfl, rfl⟩, hL⟩ := hp
    rw [hS0]
    refine ziload C dL_law__1638 rfl ?_
    refine zicmp_eq (tgt := 1645) C dL_law__1640 (by decide) (fun _ => ?_) (fun h => absurd rfl h)
    refine ziload C dL_law__1645 rfl ?_
    refine zif_ne_t (tgt := 1661) C dL_law__1647 (by decide) (nIj hj3) ?_
    refine zgoto (tgt := 2026) C dL_law__1661 (by decide) ?_
    refine zfor [true, true, true, true, true, false, false, false] rfl ?_
    exact kk _ _ _ ⟨K, _, f, ad, hL, hT1, by omega, by omega⟩
set_option maxRecDepth 100000 in
set_option maxHeartbeats 2000000 in
theorem lc_wins {g : zGh} {X : zX} (C : zC g X RL cL_law_ 8 12 454 711863 6960515) (hN : zNc X.1.2.2.2) {b Ls n : Nat} {xs : Nat → Int32} (hX : va_X b Ls xs X.1.2.2.2 X.1.2.2.2.heap) (hbl : b < X.1.2.2.2.heap.size) (hbA : ¬ zA g b) (hn : 5 * n + 5 ≤ Ls) (hLs : Ls ≤ 2560) {mo : Nat} {mad : Nat → Nat} {o x : Nat} {K : zK} {S : zS} {f : Nat → Int64} {ad : zg → Nat} {M : zM} {k m : Nat} (hL : zLw g mo mad o x K S f ad M) (hok : zOK K S) (T : Nat → zK → zS → Prop) (hs : ∀ (a0 : Int32) (a1 : Int32), lcal T n K (x_wins K a0 a1) [1] (K) (o_wins S a0 a1).1 (b2i (a_wins K a0 a1) = (o_wins S a0 a1).2)) (hk : k ≤ 100 + 100 * n + cF K) (hm : m ≤ 50000 + 6000 * n + 4 * cF K) (kk : ∀ M1 k1 m1, zLI T g mo mad o x (n + 1) M1 k1 m1 → zG g X M1 k1 m1 2026 [some (.ref b), some (.ref x), some (.ref mo), some (.ref o), some (.int (nI (5 * n))), none, none, none] []) : zG g X M k m 1664 [some (.ref b), some (.ref x), some (.ref mo), some (.ref o), some (.int (nI (5 * n))), none, none, none] [] := by
  have hc := hok.1.2.2.2.2.2
  refine zaload_n C dL_law__1664 rfl ?_
  refine zaload_n C dL_law__1665 rfl ?_
  refine ziload C dL_law__1666 rfl ?_
  refine zconst (v := 1) C dL_law__1668 (by decide) ?_
  refine ziadd C dL_law__1669 ?_
  refine zsldG (i0 := 5 * n + 1) C hX hbl hbA (nI_add (5 * n) 1) (by omega) (by omega) dL_law__1670 ?_
  refine zaload_n C dL_law__1671 rfl ?_
  refine ziload C dL_law__1672 rfl ?_
  refine zconst (v := 2) C dL_law__1674 (by decide) ?_
  refine ziadd C dL_law__1675 ?_
  refine zsldG (i0 := 5 * n + 2) C hX hbl hbA (nI_add (5 * n) 2) (by omega) (by omega) dL_law__1676 ?_
  refine zaload_n C dL_law__1677 rfl ?_
  refine zcallSW (np := 4) C hN (v_wins (xs (5 * n + 1)) (xs (5 * n + 2)) hL hok) hcw_wins zini (by decide) (by decide +kernel) hl_L_179 rfl rfl (by decide) (by decide) (by omega) (by omega) rfl (by exact Nat.le_of_ble_eq_true rfl) dL_law__1678 (fun w M1 hp => ?_)
  rcases hp with ⟨rfl, hx0, f2, ad1, hL, hf⟩ | ⟨j, c, hj, hj3, rfl, hxc, rfl⟩
  · obtain ⟨hS0, hev, hT1, hcF⟩ := (hs (xs (5 * n + 1)) (xs (5 * n + 2))).1 hx0
    refine zistore (L1 := [_, _, _, _, _, _, _, _]) C dL_law__1681 rfl (Nat.le_of_ble_eq_true rfl) ?_
    refine zaload_n C dL_law__1683 rfl ?_
    refine zaload_n C dL_law__1684 rfl ?_
    refine ziload C dL_law__1685 rfl ?_
    refine zconst (v := 1) C dL_law__1687 (by decide) ?_
    refine ziadd C dL_law__1688 ?_
    refine zsldG (i0 := 5 * n + 1) C hX hbl hbA (nI_add (5 * n) 1) (by omega) (by omega) dL_law__1689 ?_
    refine zaload_n C dL_law__1690 rfl ?_
    refine ziload C dL_law__1691 rfl ?_
    refine zconst (v := 2) C dL_law__1693 (by decide) ?_
    refine ziadd C dL_law__1694 ?_
    refine zsldG (i0 := 5 * n + 2) C hX hbl hbA (nI_add (5 * n) 2) (by omega) (by omega) dL_law__1695 ?_
    refine zcallV C (hL.call (m_wins (xs (5 * n + 1)) (xs (5 * n + 2)) hok.2.1 hok.2.2.2.2.2.2.1)) hy_X8_wins hv_X8_wins hl_L_181 hL.atmo rfl rfl rfl rfl (by decide) (by decide) (by omega) (by omega) rfl (by exact Nat.le_of_ble_eq_true rfl) dL_law__1696 (fun v M hp => ?_)
    obtain ⟨S1, hv, hL⟩ := hp
    have e1 : S1 = (o_wins S (xs (5 * n + 1)) (xs (5 * n + 2))).1 := congrArg Prod.fst hv
    have e2 : v = (o_wins S (xs (5 * n + 1)) (xs (5 * n + 2))).2 := congrArg Prod.snd hv
    clear hv
    subst e1
    subst e2
    refine zistore (L1 := [_, _, _, _, _, _, _, _]) C dL_law__1699 rfl (Nat.le_of_ble_eq_true rfl) ?_
    refine zaload_n C dL_law__1701 rfl ?_
    refine zcallV C (hL.call m_thrown) hy_X8_thrown hv_X8_thrown hl_L_112 hL.atmo rfl rfl rfl rfl (by decide) (by decide) (by omega) (by omega) rfl (by exact Nat.le_of_ble_eq_true rfl) dL_law__1702 (fun vt M hp => ?_)
    obtain ⟨S2, ⟨rfl, rfl⟩, hL⟩ := hp
    rw [hS0]
    refine ziload C dL_law__1705 rfl ?_
    refine zicmp_eq (tgt := 1712) C dL_law__1707 (by decide) (fun _ => ?_) (fun h => absurd rfl h)
    refine ziload C dL_law__1712 rfl ?_
    refine zif_ne_f (tgt := 1736) C dL_law__1714 (by decide) (by decide) ?_
    refine zaload_n C dL_law__1717 rfl ?_
    refine zconst (v := 0) C dL_law__1718 (by decide) ?_
    refine zrjald (i0 := 0) C hL.atout rfl (by decide) (by decide) dL_law__1719 ?_
    refine ziload C dL_law__1720 rfl ?_
    refine zif_eq (tgt := 1729) C dL_law__1722 (by decide) (fun hvv => ?_) (fun hvv => ?_)
    · refine zlconst (v := 0) C dL_law__1729 rfl ?_
      refine zlcmp C dL_law__1730 ?_
      refine zif_eq_t (tgt := 1736) C dL_law__1731 (by decide) ((lg_cmp_eq _ _).mpr (hf.trans (if_pos (hev.trans hvv)))) ?_
      refine zgoto (tgt := 2026) C dL_law__1736 (by decide) ?_
      refine zfor [true, true, true, true, true, false, false, false] rfl ?_
      exact kk _ _ _ ⟨_, _, f2, ad1, hL, hT1, by omega, by omega⟩
    · refine zlconst (v := 1) C dL_law__1725 rfl ?_
      refine zgoto (tgt := 1730) C dL_law__1726 (by decide) ?_
      refine zlcmp C dL_law__1730 ?_
      refine zif_eq_t (tgt := 1736) C dL_law__1731 (by decide) ((lg_cmp_eq _ _).mpr (hf.trans (if_neg (fun h => hvv (hev.symm.trans h))))) ?_
      refine zgoto (tgt := 2026) C dL_law__1736 (by decide) ?_
      refine zfor [true, true, true, true, true, false, false, false] rfl ?_
      exact kk _ _ _ ⟨_, _, f2, ad1, hL, hT1, by omega, by omega⟩
  · obtain ⟨hS0, hT1⟩ := (hs (xs (5 * n + 1)) (xs (5 * n + 2))).2 j c hj hxc
    refine zistore (L1 := [_, _, _, _, _, _, _, _]) C dL_law__1681 rfl (Nat.le_of_ble_eq_true rfl) ?_
    refine zaload_n C dL_law__1683 rfl ?_
    refine zaload_n C dL_law__1684 rfl ?_
    refine ziload C dL_law__1685 rfl ?_
    refine zconst (v := 1) C dL_law__1687 (by decide) ?_
    refine ziadd C dL_law__1688 ?_
    refine zsldG (i0 := 5 * n + 1) C hX hbl hbA (nI_add (5 * n) 1) (by omega) (by omega) dL_law__1689 ?_
    refine zaload_n C dL_law__1690 rfl ?_
    refine ziload C dL_law__1691 rfl ?_
    refine zconst (v := 2) C dL_law__1693 (by decide) ?_
    refine ziadd C dL_law__1694 ?_
    refine zsldG (i0 := 5 * n + 2) C hX hbl hbA (nI_add (5 * n) 2) (by omega) (by omega) dL_law__1695 ?_
    refine zcallV C (hL.call (m_wins (xs (5 * n + 1)) (xs (5 * n + 2)) hok.2.1 hok.2.2.2.2.2.2.1)) hy_X8_wins hv_X8_wins hl_L_181 hL.atmo rfl rfl rfl rfl (by decide) (by decide) (by omega) (by omega) rfl (by exact Nat.le_of_ble_eq_true rfl) dL_law__1696 (fun v M hp => ?_)
    obtain ⟨S1, hv, hL⟩ := hp
    have e1 : S1 = (o_wins S (xs (5 * n + 1)) (xs (5 * n + 2))).1 := congrArg Prod.fst hv
    have e2 : v = (o_wins S (xs (5 * n + 1)) (xs (5 * n + 2))).2 := congrArg Prod.snd hv
    clear hv
    subst e1
    subst e2
    refine zistore (L1 := [_, _, _, _, _, _, _, _]) C dL_law__1699 rfl (Nat.le_of_ble_eq_true rfl) ?_
    refine zaload_n C dL_law__1701 rfl ?_
    refine zcallV C (hL.call m_thrown) hy_X8_thrown hv_X8_thrown hl_L_112 hL.atmo rfl rfl rfl rfl (by decide) (by decide) (by omega) (by omega) rfl (by exact Nat.le_of_ble_eq_true rfl) dL_law__1702 (fun vt M hp => ?_)
    obtain ⟨S2, ⟨rfl, rfl⟩, hL⟩ := hp
    rw [hS0]
    refine ziload C dL_law__1705 rfl ?_
    refine zicmp_eq (tgt := 1712) C dL_law__1707 (by decide) (fun _ => ?_) (fun h => absurd rfl h)
    refine ziload C dL_law__1712 rfl ?_
    refine zif_ne_t (tgt := 1736) C dL_law__1714 (by decide) (nIj hj3) ?_
    refine zgoto (tgt := 2026) C dL_law__1736 (by decide) ?_
    refine zfor [true, true, true, true, true, false, false, false] rfl ?_
    exact kk _ _ _ ⟨K, _, f, ad, hL, hT1, by omega, by omega⟩
set_option maxRecDepth 100000 in
set_option maxHeartbeats 2000000 in
theorem lc_ofPerson {g : zGh} {X : zX} (C : zC g X RL cL_law_ 8 12 454 711863 6960515) (hN : zNc X.1.2.2.2) {b Ls n : Nat} {xs : Nat → Int32} (hX : va_X b Ls xs X.1.2.2.2 X.1.2.2.2.heap) (hbl : b < X.1.2.2.2.heap.size) (hbA : ¬ zA g b) (hn : 5 * n + 5 ≤ Ls) (hLs : Ls ≤ 2560) {mo : Nat} {mad : Nat → Nat} {o x : Nat} {K : zK} {S : zS} {f : Nat → Int64} {ad : zg → Nat} {M : zM} {k m : Nat} (hL : zLw g mo mad o x K S f ad M) (hok : zOK K S) (T : Nat → zK → zS → Prop) (hs : ∀ (a0 : Int32) (a1 : Int32), lcal T n K (x_of (K.1 13) 5 a0 a1) [1, 2] (K) (o_ofPerson S a0 a1).1 (a_ofPerson K a0 a1 = (o_ofPerson S a0 a1).2)) (hk : k ≤ 100 + 100 * n + cF K) (hm : m ≤ 50000 + 6000 * n + 4 * cF K) (kk : ∀ M1 k1 m1, zLI T g mo mad o x (n + 1) M1 k1 m1 → zG g X M1 k1 m1 2026 [some (.ref b), some (.ref x), some (.ref mo), some (.ref o), some (.int (nI (5 * n))), none, none, none] []) : zG g X M k m 1739 [some (.ref b), some (.ref x), some (.ref mo), some (.ref o), some (.int (nI (5 * n))), none, none, none] [] := by
  have hc := hok.1.2.2.2.2.2
  refine zaload_n C dL_law__1739 rfl ?_
  refine zaload_n C dL_law__1740 rfl ?_
  refine ziload C dL_law__1741 rfl ?_
  refine zconst (v := 1) C dL_law__1743 (by decide) ?_
  refine ziadd C dL_law__1744 ?_
  refine zsldG (i0 := 5 * n + 1) C hX hbl hbA (nI_add (5 * n) 1) (by omega) (by omega) dL_law__1745 ?_
  refine zaload_n C dL_law__1746 rfl ?_
  refine ziload C dL_law__1747 rfl ?_
  refine zconst (v := 2) C dL_law__1749 (by decide) ?_
  refine ziadd C dL_law__1750 ?_
  refine zsldG (i0 := 5 * n + 2) C hX hbl hbA (nI_add (5 * n) 2) (by omega) (by omega) dL_law__1751 ?_
  refine zaload_n C dL_law__1752 rfl ?_
  refine zcallSW (np := 4) C hN (v_ofPerson (xs (5 * n + 1)) (xs (5 * n + 2)) hL hok) hcw_ofPerson zini (by decide) (by decide +kernel) hl_L_182 rfl rfl (by decide) (by decide) (by omega) (by omega) rfl (by exact Nat.le_of_ble_eq_true rfl) dL_law__1753 (fun w M1 hp => ?_)
  rcases hp with ⟨rfl, hx0, f2, ad1, hL, hf⟩ | ⟨j, c, hj, hj3, rfl, hxc, rfl⟩
  · obtain ⟨hS0, hev, hT1, hcF⟩ := (hs (xs (5 * n + 1)) (xs (5 * n + 2))).1 hx0
    refine zistore (L1 := [_, _, _, _, _, _, _, _]) C dL_law__1756 rfl (Nat.le_of_ble_eq_true rfl) ?_
    refine zaload_n C dL_law__1758 rfl ?_
    refine zaload_n C dL_law__1759 rfl ?_
    refine ziload C dL_law__1760 rfl ?_
    refine zconst (v := 1) C dL_law__1762 (by decide) ?_
    refine ziadd C dL_law__1763 ?_
    refine zsldG (i0 := 5 * n + 1) C hX hbl hbA (nI_add (5 * n) 1) (by omega) (by omega) dL_law__1764 ?_
    refine zaload_n C dL_law__1765 rfl ?_
    refine ziload C dL_law__1766 rfl ?_
    refine zconst (v := 2) C dL_law__1768 (by decide) ?_
    refine ziadd C dL_law__1769 ?_
    refine zsldG (i0 := 5 * n + 2) C hX hbl hbA (nI_add (5 * n) 2) (by omega) (by omega) dL_law__1770 ?_
    refine zcallV C (hL.call (m_ofPerson (xs (5 * n + 1)) (xs (5 * n + 2)) hok.2.1)) hy_X8_ofPerson hv_X8_ofPerson hl_L_184 hL.atmo rfl rfl rfl rfl (by decide) (by decide) (by omega) (by omega) rfl (by exact Nat.le_of_ble_eq_true rfl) dL_law__1771 (fun v M hp => ?_)
    obtain ⟨S1, hv, hL⟩ := hp
    have e1 : S1 = (o_ofPerson S (xs (5 * n + 1)) (xs (5 * n + 2))).1 := congrArg Prod.fst hv
    have e2 : v = (o_ofPerson S (xs (5 * n + 1)) (xs (5 * n + 2))).2 := congrArg Prod.snd hv
    clear hv
    subst e1
    subst e2
    refine zlstore (L1 := [_, _, _, _, _, _, _, _]) C dL_law__1774 rfl (Nat.le_of_ble_eq_true rfl) ?_
    refine zaload_n C dL_law__1776 rfl ?_
    refine zcallV C (hL.call m_thrown) hy_X8_thrown hv_X8_thrown hl_L_112 hL.atmo rfl rfl rfl rfl (by decide) (by decide) (by omega) (by omega) rfl (by exact Nat.le_of_ble_eq_true rfl) dL_law__1777 (fun vt M hp => ?_)
    obtain ⟨S2, ⟨rfl, rfl⟩, hL⟩ := hp
    rw [hS0]
    refine ziload C dL_law__1780 rfl ?_
    refine zicmp_eq (tgt := 1787) C dL_law__1782 (by decide) (fun _ => ?_) (fun h => absurd rfl h)
    refine ziload C dL_law__1787 rfl ?_
    refine zif_ne_f (tgt := 1803) C dL_law__1789 (by decide) (by decide) ?_
    refine zaload_n C dL_law__1792 rfl ?_
    refine zconst (v := 0) C dL_law__1793 (by decide) ?_
    refine zrjald (i0 := 0) C hL.atout rfl (by decide) (by decide) dL_law__1794 ?_
    refine zlload C dL_law__1795 rfl ?_
    refine zlcmp C dL_law__1797 ?_
    refine zif_eq_t (tgt := 1803) C dL_law__1798 (by decide) ((lg_cmp_eq _ _).mpr (hf.trans hev)) ?_
    refine zgoto (tgt := 2026) C dL_law__1803 (by decide) ?_
    refine zfor [true, true, true, true, true, false, false, false] rfl ?_
    exact kk _ _ _ ⟨_, _, f2, ad1, hL, hT1, by omega, by omega⟩
  · obtain ⟨hS0, hT1⟩ := (hs (xs (5 * n + 1)) (xs (5 * n + 2))).2 j c hj hxc
    refine zistore (L1 := [_, _, _, _, _, _, _, _]) C dL_law__1756 rfl (Nat.le_of_ble_eq_true rfl) ?_
    refine zaload_n C dL_law__1758 rfl ?_
    refine zaload_n C dL_law__1759 rfl ?_
    refine ziload C dL_law__1760 rfl ?_
    refine zconst (v := 1) C dL_law__1762 (by decide) ?_
    refine ziadd C dL_law__1763 ?_
    refine zsldG (i0 := 5 * n + 1) C hX hbl hbA (nI_add (5 * n) 1) (by omega) (by omega) dL_law__1764 ?_
    refine zaload_n C dL_law__1765 rfl ?_
    refine ziload C dL_law__1766 rfl ?_
    refine zconst (v := 2) C dL_law__1768 (by decide) ?_
    refine ziadd C dL_law__1769 ?_
    refine zsldG (i0 := 5 * n + 2) C hX hbl hbA (nI_add (5 * n) 2) (by omega) (by omega) dL_law__1770 ?_
    refine zcallV C (hL.call (m_ofPerson (xs (5 * n + 1)) (xs (5 * n + 2)) hok.2.1)) hy_X8_ofPerson hv_X8_ofPerson hl_L_184 hL.atmo rfl rfl rfl rfl (by decide) (by decide) (by omega) (by omega) rfl (by exact Nat.le_of_ble_eq_true rfl) dL_law__1771 (fun v M hp => ?_)
    obtain ⟨S1, hv, hL⟩ := hp
    have e1 : S1 = (o_ofPerson S (xs (5 * n + 1)) (xs (5 * n + 2))).1 := congrArg Prod.fst hv
    have e2 : v = (o_ofPerson S (xs (5 * n + 1)) (xs (5 * n + 2))).2 := congrArg Prod.snd hv
    clear hv
    subst e1
    subst e2
    refine zlstore (L1 := [_, _, _, _, _, _, _, _]) C dL_law__1774 rfl (Nat.le_of_ble_eq_true rfl) ?_
    refine zaload_n C dL_law__1776 rfl ?_
    refine zcallV C (hL.call m_thrown) hy_X8_thrown hv_X8_thrown hl_L_112 hL.atmo rfl rfl rfl rfl (by decide) (by decide) (by omega) (by omega) rfl (by exact Nat.le_of_ble_eq_true rfl) dL_law__1777 (fun vt M hp => ?_)
    obtain ⟨S2, ⟨rfl, rfl⟩, hL⟩ := hp
    rw [hS0]
    refine ziload C dL_law__1780 rfl ?_
    refine zicmp_eq (tgt := 1787) C dL_law__1782 (by decide) (fun _ => ?_) (fun h => absurd rfl h)
    refine ziload C dL_law__1787 rfl ?_
    refine zif_ne_t (tgt := 1803) C dL_law__1789 (by decide) (nIj hj3) ?_
    refine zgoto (tgt := 2026) C dL_law__1803 (by decide) ?_
    refine zfor [true, true, true, true, true, false, false, false] rfl ?_
    exact kk _ _ _ ⟨K, _, f, ad, hL, hT1, by omega, by omega⟩
set_option maxRecDepth 100000 in
set_option maxHeartbeats 2000000 in
theorem lc_ofMarriage {g : zGh} {X : zX} (C : zC g X RL cL_law_ 8 12 454 711863 6960515) (hN : zNc X.1.2.2.2) {b Ls n : Nat} {xs : Nat → Int32} (hX : va_X b Ls xs X.1.2.2.2 X.1.2.2.2.heap) (hbl : b < X.1.2.2.2.heap.size) (hbA : ¬ zA g b) (hn : 5 * n + 5 ≤ Ls) (hLs : Ls ≤ 2560) {mo : Nat} {mad : Nat → Nat} {o x : Nat} {K : zK} {S : zS} {f : Nat → Int64} {ad : zg → Nat} {M : zM} {k m : Nat} (hL : zLw g mo mad o x K S f ad M) (hok : zOK K S) (T : Nat → zK → zS → Prop) (hs : ∀ (a0 : Int32) (a1 : Int32), lcal T n K (x_of (K.1 25) 4 a0 a1) [1, 2] (K) (o_ofMarriage S a0 a1).1 ((a_ofMarriage K a0 a1) = (o_ofMarriage S a0 a1).2)) (hk : k ≤ 100 + 100 * n + cF K) (hm : m ≤ 50000 + 6000 * n + 4 * cF K) (kk : ∀ M1 k1 m1, zLI T g mo mad o x (n + 1) M1 k1 m1 → zG g X M1 k1 m1 2026 [some (.ref b), some (.ref x), some (.ref mo), some (.ref o), some (.int (nI (5 * n))), none, none, none] []) : zG g X M k m 1806 [some (.ref b), some (.ref x), some (.ref mo), some (.ref o), some (.int (nI (5 * n))), none, none, none] [] := by
  have hc := hok.1.2.2.2.2.2
  refine zaload_n C dL_law__1806 rfl ?_
  refine zaload_n C dL_law__1807 rfl ?_
  refine ziload C dL_law__1808 rfl ?_
  refine zconst (v := 1) C dL_law__1810 (by decide) ?_
  refine ziadd C dL_law__1811 ?_
  refine zsldG (i0 := 5 * n + 1) C hX hbl hbA (nI_add (5 * n) 1) (by omega) (by omega) dL_law__1812 ?_
  refine zaload_n C dL_law__1813 rfl ?_
  refine ziload C dL_law__1814 rfl ?_
  refine zconst (v := 2) C dL_law__1816 (by decide) ?_
  refine ziadd C dL_law__1817 ?_
  refine zsldG (i0 := 5 * n + 2) C hX hbl hbA (nI_add (5 * n) 2) (by omega) (by omega) dL_law__1818 ?_
  refine zaload_n C dL_law__1819 rfl ?_
  refine zcallSW (np := 4) C hN (v_ofMarriage (xs (5 * n + 1)) (xs (5 * n + 2)) hL hok) hcw_ofMarriage zini (by decide) (by decide +kernel) hl_L_185 rfl rfl (by decide) (by decide) (by omega) (by omega) rfl (by exact Nat.le_of_ble_eq_true rfl) dL_law__1820 (fun w M1 hp => ?_)
  rcases hp with ⟨rfl, hx0, f2, ad1, hL, hf⟩ | ⟨j, c, hj, hj3, rfl, hxc, rfl⟩
  · obtain ⟨hS0, hev, hT1, hcF⟩ := (hs (xs (5 * n + 1)) (xs (5 * n + 2))).1 hx0
    refine zistore (L1 := [_, _, _, _, _, _, _, _]) C dL_law__1823 rfl (Nat.le_of_ble_eq_true rfl) ?_
    refine zaload_n C dL_law__1825 rfl ?_
    refine zaload_n C dL_law__1826 rfl ?_
    refine ziload C dL_law__1827 rfl ?_
    refine zconst (v := 1) C dL_law__1829 (by decide) ?_
    refine ziadd C dL_law__1830 ?_
    refine zsldG (i0 := 5 * n + 1) C hX hbl hbA (nI_add (5 * n) 1) (by omega) (by omega) dL_law__1831 ?_
    refine zaload_n C dL_law__1832 rfl ?_
    refine ziload C dL_law__1833 rfl ?_
    refine zconst (v := 2) C dL_law__1835 (by decide) ?_
    refine ziadd C dL_law__1836 ?_
    refine zsldG (i0 := 5 * n + 2) C hX hbl hbA (nI_add (5 * n) 2) (by omega) (by omega) dL_law__1837 ?_
    refine zcallV C (hL.call (m_ofMarriage (xs (5 * n + 1)) (xs (5 * n + 2)) hok.2.1)) hy_X8_ofMarriage hv_X8_ofMarriage hl_L_187 hL.atmo rfl rfl rfl rfl (by decide) (by decide) (by omega) (by omega) rfl (by exact Nat.le_of_ble_eq_true rfl) dL_law__1838 (fun v M hp => ?_)
    obtain ⟨S1, hv, hL⟩ := hp
    have e1 : S1 = (o_ofMarriage S (xs (5 * n + 1)) (xs (5 * n + 2))).1 := congrArg Prod.fst hv
    have e2 : v = (o_ofMarriage S (xs (5 * n + 1)) (xs (5 * n + 2))).2 := congrArg Prod.snd hv
    clear hv
    subst e1
    subst e2
    refine zistore (L1 := [_, _, _, _, _, _, _, _]) C dL_law__1841 rfl (Nat.le_of_ble_eq_true rfl) ?_
    refine zaload_n C dL_law__1843 rfl ?_
    refine zcallV C (hL.call m_thrown) hy_X8_thrown hv_X8_thrown hl_L_112 hL.atmo rfl rfl rfl rfl (by decide) (by decide) (by omega) (by omega) rfl (by exact Nat.le_of_ble_eq_true rfl) dL_law__1844 (fun vt M hp => ?_)
    obtain ⟨S2, ⟨rfl, rfl⟩, hL⟩ := hp
    rw [hS0]
    refine ziload C dL_law__1847 rfl ?_
    refine zicmp_eq (tgt := 1854) C dL_law__1849 (by decide) (fun _ => ?_) (fun h => absurd rfl h)
    refine ziload C dL_law__1854 rfl ?_
    refine zif_ne_f (tgt := 1871) C dL_law__1856 (by decide) (by decide) ?_
    refine zaload_n C dL_law__1859 rfl ?_
    refine zconst (v := 0) C dL_law__1860 (by decide) ?_
    refine zrjald (i0 := 0) C hL.atout rfl (by decide) (by decide) dL_law__1861 ?_
    refine ziload C dL_law__1862 rfl ?_
    refine zi2l C dL_law__1864 ?_
    refine zlcmp C dL_law__1865 ?_
    refine zif_eq_t (tgt := 1871) C dL_law__1866 (by decide) ((lg_cmp_eq _ _).mpr (hf.trans (congrArg Int32.toInt64 hev))) ?_
    refine zgoto (tgt := 2026) C dL_law__1871 (by decide) ?_
    refine zfor [true, true, true, true, true, false, false, false] rfl ?_
    exact kk _ _ _ ⟨_, _, f2, ad1, hL, hT1, by omega, by omega⟩
  · obtain ⟨hS0, hT1⟩ := (hs (xs (5 * n + 1)) (xs (5 * n + 2))).2 j c hj hxc
    refine zistore (L1 := [_, _, _, _, _, _, _, _]) C dL_law__1823 rfl (Nat.le_of_ble_eq_true rfl) ?_
    refine zaload_n C dL_law__1825 rfl ?_
    refine zaload_n C dL_law__1826 rfl ?_
    refine ziload C dL_law__1827 rfl ?_
    refine zconst (v := 1) C dL_law__1829 (by decide) ?_
    refine ziadd C dL_law__1830 ?_
    refine zsldG (i0 := 5 * n + 1) C hX hbl hbA (nI_add (5 * n) 1) (by omega) (by omega) dL_law__1831 ?_
    refine zaload_n C dL_law__1832 rfl ?_
    refine ziload C dL_law__1833 rfl ?_
    refine zconst (v := 2) C dL_law__1835 (by decide) ?_
    refine ziadd C dL_law__1836 ?_
    refine zsldG (i0 := 5 * n + 2) C hX hbl hbA (nI_add (5 * n) 2) (by omega) (by omega) dL_law__1837 ?_
    refine zcallV C (hL.call (m_ofMarriage (xs (5 * n + 1)) (xs (5 * n + 2)) hok.2.1)) hy_X8_ofMarriage hv_X8_ofMarriage hl_L_187 hL.atmo rfl rfl rfl rfl (by decide) (by decide) (by omega) (by omega) rfl (by exact Nat.le_of_ble_eq_true rfl) dL_law__1838 (fun v M hp => ?_)
    obtain ⟨S1, hv, hL⟩ := hp
    have e1 : S1 = (o_ofMarriage S (xs (5 * n + 1)) (xs (5 * n + 2))).1 := congrArg Prod.fst hv
    have e2 : v = (o_ofMarriage S (xs (5 * n + 1)) (xs (5 * n + 2))).2 := congrArg Prod.snd hv
    clear hv
    subst e1
    subst e2
    refine zistore (L1 := [_, _, _, _, _, _, _, _]) C dL_law__1841 rfl (Nat.le_of_ble_eq_true rfl) ?_
    refine zaload_n C dL_law__1843 rfl ?_
    refine zcallV C (hL.call m_thrown) hy_X8_thrown hv_X8_thrown hl_L_112 hL.atmo rfl rfl rfl rfl (by decide) (by decide) (by omega) (by omega) rfl (by exact Nat.le_of_ble_eq_true rfl) dL_law__1844 (fun vt M hp => ?_)
    obtain ⟨S2, ⟨rfl, rfl⟩, hL⟩ := hp
    rw [hS0]
    refine ziload C dL_law__1847 rfl ?_
    refine zicmp_eq (tgt := 1854) C dL_law__1849 (by decide) (fun _ => ?_) (fun h => absurd rfl h)
    refine ziload C dL_law__1854 rfl ?_
    refine zif_ne_t (tgt := 1871) C dL_law__1856 (by decide) (nIj hj3) ?_
    refine zgoto (tgt := 2026) C dL_law__1871 (by decide) ?_
    refine zfor [true, true, true, true, true, false, false, false] rfl ?_
    exact kk _ _ _ ⟨K, _, f, ad, hL, hT1, by omega, by omega⟩
set_option maxRecDepth 100000 in
set_option maxHeartbeats 2000000 in
theorem lc_ofSuit {g : zGh} {X : zX} (C : zC g X RL cL_law_ 8 12 454 711863 6960515) (hN : zNc X.1.2.2.2) {b Ls n : Nat} {xs : Nat → Int32} (hX : va_X b Ls xs X.1.2.2.2 X.1.2.2.2.heap) (hbl : b < X.1.2.2.2.heap.size) (hbA : ¬ zA g b) (hn : 5 * n + 5 ≤ Ls) (hLs : Ls ≤ 2560) {mo : Nat} {mad : Nat → Nat} {o x : Nat} {K : zK} {S : zS} {f : Nat → Int64} {ad : zg → Nat} {M : zM} {k m : Nat} (hL : zLw g mo mad o x K S f ad M) (hok : zOK K S) (T : Nat → zK → zS → Prop) (hs : ∀ (a0 : Int32) (a1 : Int32), lcal T n K (x_of (K.1 33) 4 a0 a1) [1, 2] (K) (o_ofSuit S a0 a1).1 ((a_ofSuit K a0 a1) = (o_ofSuit S a0 a1).2)) (hk : k ≤ 100 + 100 * n + cF K) (hm : m ≤ 50000 + 6000 * n + 4 * cF K) (kk : ∀ M1 k1 m1, zLI T g mo mad o x (n + 1) M1 k1 m1 → zG g X M1 k1 m1 2026 [some (.ref b), some (.ref x), some (.ref mo), some (.ref o), some (.int (nI (5 * n))), none, none, none] []) : zG g X M k m 1874 [some (.ref b), some (.ref x), some (.ref mo), some (.ref o), some (.int (nI (5 * n))), none, none, none] [] := by
  have hc := hok.1.2.2.2.2.2
  refine zaload_n C dL_law__1874 rfl ?_
  refine zaload_n C dL_law__1875 rfl ?_
  refine ziload C dL_law__1876 rfl ?_
  refine zconst (v := 1) C dL_law__1878 (by decide) ?_
  refine ziadd C dL_law__1879 ?_
  refine zsldG (i0 := 5 * n + 1) C hX hbl hbA (nI_add (5 * n) 1) (by omega) (by omega) dL_law__1880 ?_
  refine zaload_n C dL_law__1881 rfl ?_
  refine ziload C dL_law__1882 rfl ?_
  refine zconst (v := 2) C dL_law__1884 (by decide) ?_
  refine ziadd C dL_law__1885 ?_
  refine zsldG (i0 := 5 * n + 2) C hX hbl hbA (nI_add (5 * n) 2) (by omega) (by omega) dL_law__1886 ?_
  refine zaload_n C dL_law__1887 rfl ?_
  refine zcallSW (np := 4) C hN (v_ofSuit (xs (5 * n + 1)) (xs (5 * n + 2)) hL hok) hcw_ofSuit zini (by decide) (by decide +kernel) hl_L_188 rfl rfl (by decide) (by decide) (by omega) (by omega) rfl (by exact Nat.le_of_ble_eq_true rfl) dL_law__1888 (fun w M1 hp => ?_)
  rcases hp with ⟨rfl, hx0, f2, ad1, hL, hf⟩ | ⟨j, c, hj, hj3, rfl, hxc, rfl⟩
  · obtain ⟨hS0, hev, hT1, hcF⟩ := (hs (xs (5 * n + 1)) (xs (5 * n + 2))).1 hx0
    refine zistore (L1 := [_, _, _, _, _, _, _, _]) C dL_law__1891 rfl (Nat.le_of_ble_eq_true rfl) ?_
    refine zaload_n C dL_law__1893 rfl ?_
    refine zaload_n C dL_law__1894 rfl ?_
    refine ziload C dL_law__1895 rfl ?_
    refine zconst (v := 1) C dL_law__1897 (by decide) ?_
    refine ziadd C dL_law__1898 ?_
    refine zsldG (i0 := 5 * n + 1) C hX hbl hbA (nI_add (5 * n) 1) (by omega) (by omega) dL_law__1899 ?_
    refine zaload_n C dL_law__1900 rfl ?_
    refine ziload C dL_law__1901 rfl ?_
    refine zconst (v := 2) C dL_law__1903 (by decide) ?_
    refine ziadd C dL_law__1904 ?_
    refine zsldG (i0 := 5 * n + 2) C hX hbl hbA (nI_add (5 * n) 2) (by omega) (by omega) dL_law__1905 ?_
    refine zcallV C (hL.call (m_ofSuit (xs (5 * n + 1)) (xs (5 * n + 2)) hok.2.1)) hy_X8_ofSuit hv_X8_ofSuit hl_L_190 hL.atmo rfl rfl rfl rfl (by decide) (by decide) (by omega) (by omega) rfl (by exact Nat.le_of_ble_eq_true rfl) dL_law__1906 (fun v M hp => ?_)
    obtain ⟨S1, hv, hL⟩ := hp
    have e1 : S1 = (o_ofSuit S (xs (5 * n + 1)) (xs (5 * n + 2))).1 := congrArg Prod.fst hv
    have e2 : v = (o_ofSuit S (xs (5 * n + 1)) (xs (5 * n + 2))).2 := congrArg Prod.snd hv
    clear hv
    subst e1
    subst e2
    refine zistore (L1 := [_, _, _, _, _, _, _, _]) C dL_law__1909 rfl (Nat.le_of_ble_eq_true rfl) ?_
    refine zaload_n C dL_law__1911 rfl ?_
    refine zcallV C (hL.call m_thrown) hy_X8_thrown hv_X8_thrown hl_L_112 hL.atmo rfl rfl rfl rfl (by decide) (by decide) (by omega) (by omega) rfl (by exact Nat.le_of_ble_eq_true rfl) dL_law__1912 (fun vt M hp => ?_)
    obtain ⟨S2, ⟨rfl, rfl⟩, hL⟩ := hp
    rw [hS0]
    refine ziload C dL_law__1915 rfl ?_
    refine zicmp_eq (tgt := 1922) C dL_law__1917 (by decide) (fun _ => ?_) (fun h => absurd rfl h)
    refine ziload C dL_law__1922 rfl ?_
    refine zif_ne_f (tgt := 1939) C dL_law__1924 (by decide) (by decide) ?_
    refine zaload_n C dL_law__1927 rfl ?_
    refine zconst (v := 0) C dL_law__1928 (by decide) ?_
    refine zrjald (i0 := 0) C hL.atout rfl (by decide) (by decide) dL_law__1929 ?_
    refine ziload C dL_law__1930 rfl ?_
    refine zi2l C dL_law__1932 ?_
    refine zlcmp C dL_law__1933 ?_
    refine zif_eq_t (tgt := 1939) C dL_law__1934 (by decide) ((lg_cmp_eq _ _).mpr (hf.trans (congrArg Int32.toInt64 hev))) ?_
    refine zgoto (tgt := 2026) C dL_law__1939 (by decide) ?_
    refine zfor [true, true, true, true, true, false, false, false] rfl ?_
    exact kk _ _ _ ⟨_, _, f2, ad1, hL, hT1, by omega, by omega⟩
  · obtain ⟨hS0, hT1⟩ := (hs (xs (5 * n + 1)) (xs (5 * n + 2))).2 j c hj hxc
    refine zistore (L1 := [_, _, _, _, _, _, _, _]) C dL_law__1891 rfl (Nat.le_of_ble_eq_true rfl) ?_
    refine zaload_n C dL_law__1893 rfl ?_
    refine zaload_n C dL_law__1894 rfl ?_
    refine ziload C dL_law__1895 rfl ?_
    refine zconst (v := 1) C dL_law__1897 (by decide) ?_
    refine ziadd C dL_law__1898 ?_
    refine zsldG (i0 := 5 * n + 1) C hX hbl hbA (nI_add (5 * n) 1) (by omega) (by omega) dL_law__1899 ?_
    refine zaload_n C dL_law__1900 rfl ?_
    refine ziload C dL_law__1901 rfl ?_
    refine zconst (v := 2) C dL_law__1903 (by decide) ?_
    refine ziadd C dL_law__1904 ?_
    refine zsldG (i0 := 5 * n + 2) C hX hbl hbA (nI_add (5 * n) 2) (by omega) (by omega) dL_law__1905 ?_
    refine zcallV C (hL.call (m_ofSuit (xs (5 * n + 1)) (xs (5 * n + 2)) hok.2.1)) hy_X8_ofSuit hv_X8_ofSuit hl_L_190 hL.atmo rfl rfl rfl rfl (by decide) (by decide) (by omega) (by omega) rfl (by exact Nat.le_of_ble_eq_true rfl) dL_law__1906 (fun v M hp => ?_)
    obtain ⟨S1, hv, hL⟩ := hp
    have e1 : S1 = (o_ofSuit S (xs (5 * n + 1)) (xs (5 * n + 2))).1 := congrArg Prod.fst hv
    have e2 : v = (o_ofSuit S (xs (5 * n + 1)) (xs (5 * n + 2))).2 := congrArg Prod.snd hv
    clear hv
    subst e1
    subst e2
    refine zistore (L1 := [_, _, _, _, _, _, _, _]) C dL_law__1909 rfl (Nat.le_of_ble_eq_true rfl) ?_
    refine zaload_n C dL_law__1911 rfl ?_
    refine zcallV C (hL.call m_thrown) hy_X8_thrown hv_X8_thrown hl_L_112 hL.atmo rfl rfl rfl rfl (by decide) (by decide) (by omega) (by omega) rfl (by exact Nat.le_of_ble_eq_true rfl) dL_law__1912 (fun vt M hp => ?_)
    obtain ⟨S2, ⟨rfl, rfl⟩, hL⟩ := hp
    rw [hS0]
    refine ziload C dL_law__1915 rfl ?_
    refine zicmp_eq (tgt := 1922) C dL_law__1917 (by decide) (fun _ => ?_) (fun h => absurd rfl h)
    refine ziload C dL_law__1922 rfl ?_
    refine zif_ne_t (tgt := 1939) C dL_law__1924 (by decide) (nIj hj3) ?_
    refine zgoto (tgt := 2026) C dL_law__1939 (by decide) ?_
    refine zfor [true, true, true, true, true, false, false, false] rfl ?_
    exact kk _ _ _ ⟨K, _, f, ad, hL, hT1, by omega, by omega⟩
set_option maxRecDepth 100000 in
set_option maxHeartbeats 2000000 in
theorem lc_treasury {g : zGh} {X : zX} (C : zC g X RL cL_law_ 8 12 454 711863 6960515) (hN : zNc X.1.2.2.2) {b Ls n : Nat} {xs : Nat → Int32} (hX : va_X b Ls xs X.1.2.2.2 X.1.2.2.2.heap) (hbl : b < X.1.2.2.2.heap.size) (hbA : ¬ zA g b) (hn : 5 * n + 5 ≤ Ls) (hLs : Ls ≤ 2560) {mo : Nat} {mad : Nat → Nat} {o x : Nat} {K : zK} {S : zS} {f : Nat → Int64} {ad : zg → Nat} {M : zM} {k m : Nat} (hL : zLw g mo mad o x K S f ad M) (hok : zOK K S) (T : Nat → zK → zS → Prop) (hs : K.2.1 = (o_treasury S).2 ∧ T (n + 1) K (o_treasury S).1) (hk : k ≤ 100 + 100 * n + cF K) (hm : m ≤ 50000 + 6000 * n + 4 * cF K) (kk : ∀ M1 k1 m1, zLI T g mo mad o x (n + 1) M1 k1 m1 → zG g X M1 k1 m1 2026 [some (.ref b), some (.ref x), some (.ref mo), some (.ref o), some (.int (nI (5 * n))), none, none, none] []) : zG g X M k m 1942 [some (.ref b), some (.ref x), some (.ref mo), some (.ref o), some (.int (nI (5 * n))), none, none, none] [] := by
  have hc := hok.1.2.2.2.2.2
  obtain rfl := hL.2.2.2.2
  refine zaload_n C dL_law__1942 rfl ?_
  refine zcallV C (k_treasury hL.1) hy_X7_treasury hv_X7_treasury hl_L_191 hL.1.main rfl rfl rfl rfl (by decide) (by decide) (by omega) (by omega) rfl (by exact Nat.le_of_ble_eq_true rfl) dL_law__1943 (fun v M hp => ?_)
  obtain ⟨rfl, rfl⟩ := hp
  refine zaload_n C dL_law__1946 rfl ?_
  refine zcallV C (hL.call (m_treasury )) hy_X8_treasury hv_X8_treasury hl_L_195 hL.atmo rfl rfl rfl rfl (by decide) (by decide) (by omega) (by omega) rfl (by exact Nat.le_of_ble_eq_true rfl) dL_law__1947 (fun v M hp => ?_)
  obtain ⟨S1, hv, hL⟩ := hp
  have e1 : S1 = (o_treasury S).1 := congrArg Prod.fst hv
  have e2 : v = (o_treasury S).2 := congrArg Prod.snd hv
  clear hv
  subst e1
  subst e2
  refine zlcmp C dL_law__1950 ?_
  refine zif_eq_t (tgt := 2026) C dL_law__1951 (by decide) ((lg_cmp_eq _ _).mpr (hs.1)) ?_
  exact kk _ _ _ ⟨K, _, f, ad, hL, hs.2, by omega, by omega⟩
set_option maxRecDepth 100000 in
set_option maxHeartbeats 2000000 in
theorem lc_all {g : zGh} {X : zX} (C : zC g X RL cL_law_ 8 12 454 711863 6960515) (hN : zNc X.1.2.2.2) {b Ls n : Nat} {xs : Nat → Int32} (hX : va_X b Ls xs X.1.2.2.2 X.1.2.2.2.heap) (hbl : b < X.1.2.2.2.heap.size) (hbA : ¬ zA g b) (hn : 5 * n + 5 ≤ Ls) (hLs : Ls ≤ 2560) {mo : Nat} {mad : Nat → Nat} {o x : Nat} {K : zK} {S : zS} {f : Nat → Int64} {ad : zg → Nat} {M : zM} {k m : Nat} (hL : zLw g mo mad o x K S f ad M) (hok : zOK K S) (T : Nat → zK → zS → Prop) (hs : allK K (K.1 13) = (o_all S).2 ∧ T (n + 1) K (o_all S).1) (hk : k ≤ 100 + 100 * n + cF K) (hm : m ≤ 50000 + 6000 * n + 4 * cF K) (kk : ∀ M1 k1 m1, zLI T g mo mad o x (n + 1) M1 k1 m1 → zG g X M1 k1 m1 2026 [some (.ref b), some (.ref x), some (.ref mo), some (.ref o), some (.int (nI (5 * n))), none, none, none] []) : zG g X M k m 1956 [some (.ref b), some (.ref x), some (.ref mo), some (.ref o), some (.int (nI (5 * n))), none, none, none] [] := by
  have hc := hok.1.2.2.2.2.2
  obtain rfl := hL.2.2.2.2
  refine zaload_n C dL_law__1956 rfl ?_
  refine zcallV C (k_all hL.1 hok.1.1.1.2.2.2.2.1) hy_X7_all hv_X7_all hl_L_196 hL.1.main rfl rfl rfl rfl (by decide) (by decide) (by omega) (by omega) rfl (by exact Nat.le_of_ble_eq_true rfl) dL_law__1957 (fun v M hp => ?_)
  obtain ⟨rfl, rfl⟩ := hp
  refine zaload_n C dL_law__1960 rfl ?_
  refine zcallV C (hL.call (m_all hok.2.1)) hy_X8_all hv_X8_all hl_L_199 hL.atmo rfl rfl rfl rfl (by decide) (by decide) (by omega) (by omega) rfl (by exact Nat.le_of_ble_eq_true rfl) dL_law__1961 (fun v M hp => ?_)
  obtain ⟨S1, hv, hL⟩ := hp
  have e1 : S1 = (o_all S).1 := congrArg Prod.fst hv
  have e2 : v = (o_all S).2 := congrArg Prod.snd hv
  clear hv
  subst e1
  subst e2
  refine zlcmp C dL_law__1964 ?_
  refine zif_eq_t (tgt := 2026) C dL_law__1965 (by decide) ((lg_cmp_eq _ _).mpr (hs.1)) ?_
  exact kk _ _ _ ⟨K, _, f, ad, hL, hs.2, by omega, by omega⟩
set_option maxRecDepth 100000 in
set_option maxHeartbeats 2000000 in
theorem lc_pass {g : zGh} {X : zX} (C : zC g X RL cL_law_ 8 12 454 711863 6960515) (hN : zNc X.1.2.2.2) {b Ls n : Nat} {xs : Nat → Int32} (hX : va_X b Ls xs X.1.2.2.2 X.1.2.2.2.heap) (hbl : b < X.1.2.2.2.heap.size) (hbA : ¬ zA g b) (hn : 5 * n + 5 ≤ Ls) (hLs : Ls ≤ 2560) {mo : Nat} {mad : Nat → Nat} {o x : Nat} {K : zK} {S : zS} {f : Nat → Int64} {ad : zg → Nat} {M : zM} {k m : Nat} (hL : zLw g mo mad o x K S f ad M) (hok : zOK K S) (T : Nat → zK → zS → Prop) (hcap : ∀ n K S, T n K S → cF K ≤ 163840) (hs : ∀ (a0 : Int32), lcal T n K (x_pass K a0) [2, 3] (psK K a0.toNatClampNeg) (o_pass S a0).1 ((nI (K.1 1 + a0.toNatClampNeg)) = (o_pass S a0).2)) (hk : k ≤ 100 + 100 * n + cF K) (hm : m ≤ 50000 + 6000 * n + 4 * cF K) (kk : ∀ M1 k1 m1, zLI T g mo mad o x (n + 1) M1 k1 m1 → zG g X M1 k1 m1 2026 [some (.ref b), some (.ref x), some (.ref mo), some (.ref o), some (.int (nI (5 * n))), none, none, none] []) : zG g X M k m 1970 [some (.ref b), some (.ref x), some (.ref mo), some (.ref o), some (.int (nI (5 * n))), none, none, none] [] := by
  have hc := hok.1.2.2.2.2.2
  refine zaload_n C dL_law__1970 rfl ?_
  refine zaload_n C dL_law__1971 rfl ?_
  refine ziload C dL_law__1972 rfl ?_
  refine zconst (v := 1) C dL_law__1974 (by decide) ?_
  refine ziadd C dL_law__1975 ?_
  refine zsldG (i0 := 5 * n + 1) C hX hbl hbA (nI_add (5 * n) 1) (by omega) (by omega) dL_law__1976 ?_
  refine zaload_n C dL_law__1977 rfl ?_
  by_cases hx : x_pass K (xs (5 * n + 1)) = 0
  · obtain ⟨hS0, hev, hT1, hcF⟩ := (hs (xs (5 * n + 1))).1 hx
    have h13 := psK13 K ((xs (5 * n + 1))).toNatClampNeg
    have hcf : capF (kch (psK K ((xs (5 * n + 1))).toNatClampNeg)) (K.1 13) = cF (psK K ((xs (5 * n + 1))).toNatClampNeg) := by rw [cF, h13]
    have hcK : cF K = capF (kch K) (K.1 13) := rfl
    have hcb : cF (psK K ((xs (5 * n + 1))).toNatClampNeg) ≤ 163840 := hcap _ _ _ hT1
    refine zcallSW (np := 3) C hN (v_pass (xs (5 * n + 1)) hL hok) hcw_pass zini (by decide) (by decide +kernel) hl_L_200 rfl rfl (by decide) (by decide) (by omega) (by omega) rfl (by exact Nat.le_of_ble_eq_true rfl) dL_law__1978 (fun w M1 hp => ?_)
    rcases hp with ⟨rfl, hx0, f2, ad1, hL, hf⟩ | ⟨j, c, hj, hj3, rfl, hxc, rfl⟩
    · skip
      refine zistore (L1 := [_, _, _, _, _, _, _, _]) C dL_law__1981 rfl (Nat.le_of_ble_eq_true rfl) ?_
      refine zaload_n C dL_law__1983 rfl ?_
      refine zaload_n C dL_law__1984 rfl ?_
      refine ziload C dL_law__1985 rfl ?_
      refine zconst (v := 1) C dL_law__1987 (by decide) ?_
      refine ziadd C dL_law__1988 ?_
      refine zsldG (i0 := 5 * n + 1) C hX hbl hbA (nI_add (5 * n) 1) (by omega) (by omega) dL_law__1989 ?_
      refine zcallV C (hL.call (m_pass (xs (5 * n + 1)) hok.2.1 (by decide) hok.2.2.2.2.2.2.2.1 hok.2.2.2.2.2.2.2.2)) hy_X8_pass hv_X8_pass hl_L_202 hL.atmo rfl rfl rfl rfl (by decide) (by decide) (by omega) (by omega) rfl (by exact Nat.le_of_ble_eq_true rfl) dL_law__1990 (fun v M hp => ?_)
      obtain ⟨S1, hv, hL⟩ := hp
      have e1 : S1 = (o_pass S (xs (5 * n + 1))).1 := congrArg Prod.fst hv
      have e2 : v = (o_pass S (xs (5 * n + 1))).2 := congrArg Prod.snd hv
      clear hv
      subst e1
      subst e2
      refine zistore (L1 := [_, _, _, _, _, _, _, _]) C dL_law__1993 rfl (Nat.le_of_ble_eq_true rfl) ?_
      refine zaload_n C dL_law__1995 rfl ?_
      refine zcallV C (hL.call m_thrown) hy_X8_thrown hv_X8_thrown hl_L_112 hL.atmo rfl rfl rfl rfl (by decide) (by decide) (by omega) (by omega) rfl (by exact Nat.le_of_ble_eq_true rfl) dL_law__1996 (fun vt M hp => ?_)
      obtain ⟨S2, ⟨rfl, rfl⟩, hL⟩ := hp
      rw [hS0]
      refine ziload C dL_law__1999 rfl ?_
      refine zicmp_eq (tgt := 2006) C dL_law__2001 (by decide) (fun _ => ?_) (fun h => absurd rfl h)
      refine ziload C dL_law__2006 rfl ?_
      refine zif_ne_f (tgt := 2023) C dL_law__2008 (by decide) (by decide) ?_
      refine zaload_n C dL_law__2011 rfl ?_
      refine zconst (v := 0) C dL_law__2012 (by decide) ?_
      refine zrjald (i0 := 0) C hL.atout rfl (by decide) (by decide) dL_law__2013 ?_
      refine ziload C dL_law__2014 rfl ?_
      refine zi2l C dL_law__2016 ?_
      refine zlcmp C dL_law__2017 ?_
      refine zif_eq_t (tgt := 2023) C dL_law__2018 (by decide) ((lg_cmp_eq _ _).mpr (hf.trans (congrArg Int32.toInt64 hev))) ?_
      refine zgoto (tgt := 2026) C dL_law__2023 (by decide) ?_
      refine zfor [true, true, true, true, true, false, false, false] rfl ?_
      exact kk _ _ _ ⟨_, _, f2, ad1, hL, hT1, by omega, by omega⟩
    · exact absurd (hx.symm.trans hxc) (xc0 hj)
  · refine zcallSW (np := 3) C hN (v_passX (xs (5 * n + 1)) hL hok hx) hcw_pass zini (by decide) (by decide +kernel) hl_L_200 rfl rfl (by decide) (by decide) (by omega) (by omega) rfl (by exact Nat.le_of_ble_eq_true rfl) dL_law__1978 (fun w M1 hp => ?_)
    rcases hp with ⟨rfl, hx0, f2, ad1, hL, hf⟩ | ⟨j, c, hj, hj3, rfl, hxc, rfl⟩
    · exact absurd hx0 hx
    · obtain ⟨hS0, hT1⟩ := (hs (xs (5 * n + 1))).2 j c hj hxc
      refine zistore (L1 := [_, _, _, _, _, _, _, _]) C dL_law__1981 rfl (Nat.le_of_ble_eq_true rfl) ?_
      refine zaload_n C dL_law__1983 rfl ?_
      refine zaload_n C dL_law__1984 rfl ?_
      refine ziload C dL_law__1985 rfl ?_
      refine zconst (v := 1) C dL_law__1987 (by decide) ?_
      refine ziadd C dL_law__1988 ?_
      refine zsldG (i0 := 5 * n + 1) C hX hbl hbA (nI_add (5 * n) 1) (by omega) (by omega) dL_law__1989 ?_
      refine zcallV C (hL.call (m_pass (xs (5 * n + 1)) hok.2.1 (by decide) hok.2.2.2.2.2.2.2.1 hok.2.2.2.2.2.2.2.2)) hy_X8_pass hv_X8_pass hl_L_202 hL.atmo rfl rfl rfl rfl (by decide) (by decide) (by omega) (by omega) rfl (by exact Nat.le_of_ble_eq_true rfl) dL_law__1990 (fun v M hp => ?_)
      obtain ⟨S1, hv, hL⟩ := hp
      have e1 : S1 = (o_pass S (xs (5 * n + 1))).1 := congrArg Prod.fst hv
      have e2 : v = (o_pass S (xs (5 * n + 1))).2 := congrArg Prod.snd hv
      clear hv
      subst e1
      subst e2
      refine zistore (L1 := [_, _, _, _, _, _, _, _]) C dL_law__1993 rfl (Nat.le_of_ble_eq_true rfl) ?_
      refine zaload_n C dL_law__1995 rfl ?_
      refine zcallV C (hL.call m_thrown) hy_X8_thrown hv_X8_thrown hl_L_112 hL.atmo rfl rfl rfl rfl (by decide) (by decide) (by omega) (by omega) rfl (by exact Nat.le_of_ble_eq_true rfl) dL_law__1996 (fun vt M hp => ?_)
      obtain ⟨S2, ⟨rfl, rfl⟩, hL⟩ := hp
      rw [hS0]
      refine ziload C dL_law__1999 rfl ?_
      refine zicmp_eq (tgt := 2006) C dL_law__2001 (by decide) (fun _ => ?_) (fun h => absurd rfl h)
      refine ziload C dL_law__2006 rfl ?_
      refine zif_ne_t (tgt := 2023) C dL_law__2008 (by decide) (nIj hj3) ?_
      refine zgoto (tgt := 2026) C dL_law__2023 (by decide) ?_
      refine zfor [true, true, true, true, true, false, false, false] rfl ?_
      exact kk _ _ _ ⟨K, _, f, ad, hL, hT1, by omega, by omega⟩
