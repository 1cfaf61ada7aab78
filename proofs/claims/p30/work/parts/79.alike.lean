theorem lcmp_self (x : Int64) : lg_cmp x x = 0 := by
  unfold lg_cmp
  first | rfl | simp | (split <;> first | rfl | (split <;> first | rfl | simp_all))
theorem nge_i {i n : Nat} (h : i < n) (hn : n < 2 ^ 31) : ¬ nI n ≤ nI i := by
  rw [Int32.le_iff_toInt_le, nI_toInt hn, nI_toInt (by omega)]; omega
theorem ge_i {i n : Nat} (h : n ≤ i) (hn : i < 2 ^ 31) : nI n ≤ nI i := by
  rw [Int32.le_iff_toInt_le, nI_toInt (by omega), nI_toInt hn]; omega
set_option maxRecDepth 100000 in
set_option maxHeartbeats 4000000 in
theorem l_alike {g : zGh} {Ko Kp : zK} {ao ap : zg → Nat} {M : zM} (ho : zP g Ko nX ao M) (hp : zP g Kp nX ap M) (hok : zOk Ko) (hkp : zOk Kp) (td v : Int32) (htd : ¬ td + 1 = 0) (ht : Ko.2.1 = Kp.2.1) (hall : allK Ko (Ko.1 13) = allK Kp (Kp.1 13)) (heq : ∀ n, n = 4 ∨ n = 5 ∨ n = 9 ∨ n = 20 ∨ n = 21 ∨ n = 22 ∨ n = 23 → ∀ a b c d, dR Ko n a b c d = dR Kp n a b c d) : zCn g yL_areAlike cL_areAlike 8 (some .boolean) 11 251 mkI [.ref (ao (0, 0)), .ref (ap (0, 0)), .int td, .int v] M 12288 73728 (fun r M1 => r = 1 ∧ M1 = M) := by
  refine zofn [some (.ref (ao (0, 0))), some (.ref (ap (0, 0))), some (.int td), some (.int v), none, none, none, none] (by decide +kernel) rfl rfl (Nat.le_of_ble_eq_true rfl) ?_
  intro X C hE hN
  have C : zC g X RL cL_areAlike 8 11 251 12288 73728 := C
  have outer : ∀ r i, i + r = 24 → ∀ k m, k ≤ 512 * i → m ≤ 3072 * i → zG g X M k m 34 [some (.ref (ao (0, 0))), some (.ref (ap (0, 0))), some (.int td), some (.int v), some (.int 1), some (.int (nI i)), none, none] [] := by
    intro r
    induction r with
    | zero =>
      intro i hi k m hk hm
      obtain rfl : i = 24 := by omega
      refine ziload C dL_areAlike_34 rfl ?_
      refine zbipush (v := 24) C dL_areAlike_36 (by decide) ?_
      refine zicmp_ge (tgt := 321) C dL_areAlike_38 (by decide) (fun _ => ?_) (fun h => absurd (Int32.le_refl _) h)
      refine ziload C dL_areAlike_321 rfl ?_
      exact zend_z C hE dL_areAlike_323 (by omega) (by omega) (Or.inr rfl) ⟨rfl, rfl⟩
    | succ r ih =>
      intro i hi k m hk hm
      have hi24 : ¬ (24 : Int32) ≤ nI i := nge_i (n := 24) (by omega) (by decide)
      have inner : ∀ q j, j + q = 6 → ∀ k m, k ≤ 512 * i + 32 + 80 * j → m ≤ 3072 * i + 192 + 480 * j → zG g X M k m 138 [some (.ref (ao (0, 0))), some (.ref (ap (0, 0))), some (.int td), some (.int v), some (.int 1), some (.int (nI i)), some (.int (lowI (v + nI i) (td + 1))), some (.int (nI j))] [] := by
        intro q
        induction q with
        | zero =>
          intro j hj k m hk hm
          obtain rfl : j = 6 := by omega
          refine ziload C dL_areAlike_138 rfl ?_
          refine zbipush (v := 6) C dL_areAlike_140 (by decide) ?_
          refine zicmp_ge (tgt := 315) C dL_areAlike_142 (by decide) (fun _ => ?_) (fun h => absurd (Int32.le_refl _) h)
          refine ziinc (L1 := [_, _, _, _, _, _, _, _]) (v := nI (i + 1)) C dL_areAlike_315 rfl (nI_add i 1) rfl ?_
          refine zgoto (tgt := 34) C dL_areAlike_318 (by decide) ?_
          refine zfor [true, true, true, true, true, true, false, false] rfl ?_
          exact ih (i + 1) (by omega) _ _ (by omega) (by omega)
        | succ q ihq =>
          intro j hj k m hk hm
          have hj6 : ¬ (6 : Int32) ≤ nI j := nge_i (n := 6) (by omega) (by decide)
          refine ziload C dL_areAlike_138 rfl ?_
          refine zbipush (v := 6) C dL_areAlike_140 (by decide) ?_
          refine zicmp_ge (tgt := 315) C dL_areAlike_142 (by decide) (fun h142 => by first | exact absurd h142 hj6 | exact absurd hj6 h142) (fun h142 => ?_)
          refine ziload C dL_areAlike_145 rfl ?_
          refine zif_eq_f (tgt := 315) C dL_areAlike_147 (by decide) (by decide) ?_
          refine zaload_n C dL_areAlike_150 rfl ?_
          refine zbipush (v := 21) C dL_areAlike_151 (by decide) ?_
          refine ziload C dL_areAlike_153 rfl ?_
          refine ziload C dL_areAlike_155 rfl ?_
          refine zconst (v := 0) C dL_areAlike_157 (by decide) ?_
          refine zconst (v := 0) C dL_areAlike_158 (by decide) ?_
          refine zcallSW (np := 6) C hN (does_21 _ _ _ _ ho hok) hcw_does zinL (by decide) (by decide +kernel) hl_L_118 rfl rfl (by decide) (by decide) (by omega) (by omega) rfl (by exact Nat.le_of_ble_eq_true rfl) dL_areAlike_159 (fun r M1 hr => ?_)
          obtain ⟨rfl, rfl⟩ := hr
          refine zaload_n C dL_areAlike_162 rfl ?_
          refine zbipush (v := 21) C dL_areAlike_163 (by decide) ?_
          refine ziload C dL_areAlike_165 rfl ?_
          refine ziload C dL_areAlike_167 rfl ?_
          refine zconst (v := 0) C dL_areAlike_169 (by decide) ?_
          refine zconst (v := 0) C dL_areAlike_170 (by decide) ?_
          refine zcallSW (np := 6) C hN (does_21 _ _ _ _ hp hkp) hcw_does zinL (by decide) (by decide +kernel) hl_L_118 rfl rfl (by decide) (by decide) (by omega) (by omega) rfl (by exact Nat.le_of_ble_eq_true rfl) dL_areAlike_171 (fun r M1 hr => ?_)
          obtain ⟨rfl, rfl⟩ := hr
          refine zlcmp C dL_areAlike_174 ?_
          rw [heq 21 (by omega), lcmp_self]
          refine zif_ne_f (tgt := 306) C dL_areAlike_175 (by decide) (by decide) ?_
          refine zaload_n C dL_areAlike_178 rfl ?_
          refine zbipush (v := 22) C dL_areAlike_179 (by decide) ?_
          refine ziload C dL_areAlike_181 rfl ?_
          refine ziload C dL_areAlike_183 rfl ?_
          refine zconst (v := 0) C dL_areAlike_185 (by decide) ?_
          refine zconst (v := 0) C dL_areAlike_186 (by decide) ?_
          refine zcallSW (np := 6) C hN (does_22 _ _ _ _ ho hok) hcw_does zinL (by decide) (by decide +kernel) hl_L_118 rfl rfl (by decide) (by decide) (by omega) (by omega) rfl (by exact Nat.le_of_ble_eq_true rfl) dL_areAlike_187 (fun r M1 hr => ?_)
          obtain ⟨rfl, rfl⟩ := hr
          refine zaload_n C dL_areAlike_190 rfl ?_
          refine zbipush (v := 22) C dL_areAlike_191 (by decide) ?_
          refine ziload C dL_areAlike_193 rfl ?_
          refine ziload C dL_areAlike_195 rfl ?_
          refine zconst (v := 0) C dL_areAlike_197 (by decide) ?_
          refine zconst (v := 0) C dL_areAlike_198 (by decide) ?_
          refine zcallSW (np := 6) C hN (does_22 _ _ _ _ hp hkp) hcw_does zinL (by decide) (by decide +kernel) hl_L_118 rfl rfl (by decide) (by decide) (by omega) (by omega) rfl (by exact Nat.le_of_ble_eq_true rfl) dL_areAlike_199 (fun r M1 hr => ?_)
          obtain ⟨rfl, rfl⟩ := hr
          refine zlcmp C dL_areAlike_202 ?_
          rw [heq 22 (by omega), lcmp_self]
          refine zif_ne_f (tgt := 306) C dL_areAlike_203 (by decide) (by decide) ?_
          refine zaload_n C dL_areAlike_206 rfl ?_
          refine zbipush (v := 23) C dL_areAlike_207 (by decide) ?_
          refine ziload C dL_areAlike_209 rfl ?_
          refine ziload C dL_areAlike_211 rfl ?_
          refine zconst (v := 0) C dL_areAlike_213 (by decide) ?_
          refine zconst (v := 0) C dL_areAlike_214 (by decide) ?_
          refine zcallSW (np := 6) C hN (does_23 _ _ _ _ ho hok) hcw_does zinL (by decide) (by decide +kernel) hl_L_118 rfl rfl (by decide) (by decide) (by omega) (by omega) rfl (by exact Nat.le_of_ble_eq_true rfl) dL_areAlike_215 (fun r M1 hr => ?_)
          obtain ⟨rfl, rfl⟩ := hr
          refine zaload_n C dL_areAlike_218 rfl ?_
          refine zbipush (v := 23) C dL_areAlike_219 (by decide) ?_
          refine ziload C dL_areAlike_221 rfl ?_
          refine ziload C dL_areAlike_223 rfl ?_
          refine zconst (v := 0) C dL_areAlike_225 (by decide) ?_
          refine zconst (v := 0) C dL_areAlike_226 (by decide) ?_
          refine zcallSW (np := 6) C hN (does_23 _ _ _ _ hp hkp) hcw_does zinL (by decide) (by decide +kernel) hl_L_118 rfl rfl (by decide) (by decide) (by omega) (by omega) rfl (by exact Nat.le_of_ble_eq_true rfl) dL_areAlike_227 (fun r M1 hr => ?_)
          obtain ⟨rfl, rfl⟩ := hr
          refine zlcmp C dL_areAlike_230 ?_
          rw [heq 23 (by omega), lcmp_self]
          refine zif_ne_f (tgt := 306) C dL_areAlike_231 (by decide) (by decide) ?_
          refine zaload_n C dL_areAlike_234 rfl ?_
          refine zbipush (v := 20) C dL_areAlike_235 (by decide) ?_
          refine ziload C dL_areAlike_237 rfl ?_
          refine ziload C dL_areAlike_239 rfl ?_
          refine zconst (v := 1) C dL_areAlike_241 (by decide) ?_
          refine zisub C dL_areAlike_242 ?_
          refine zconst (v := 0) C dL_areAlike_243 (by decide) ?_
          refine zconst (v := 0) C dL_areAlike_244 (by decide) ?_
          refine zcallSW (np := 6) C hN (does_20 _ _ _ _ ho hok) hcw_does zinL (by decide) (by decide +kernel) hl_L_118 rfl rfl (by decide) (by decide) (by omega) (by omega) rfl (by exact Nat.le_of_ble_eq_true rfl) dL_areAlike_245 (fun r M1 hr => ?_)
          obtain ⟨rfl, rfl⟩ := hr
          refine zaload_n C dL_areAlike_248 rfl ?_
          refine zbipush (v := 20) C dL_areAlike_249 (by decide) ?_
          refine ziload C dL_areAlike_251 rfl ?_
          refine ziload C dL_areAlike_253 rfl ?_
          refine zconst (v := 1) C dL_areAlike_255 (by decide) ?_
          refine zisub C dL_areAlike_256 ?_
          refine zconst (v := 0) C dL_areAlike_257 (by decide) ?_
          refine zconst (v := 0) C dL_areAlike_258 (by decide) ?_
          refine zcallSW (np := 6) C hN (does_20 _ _ _ _ hp hkp) hcw_does zinL (by decide) (by decide +kernel) hl_L_118 rfl rfl (by decide) (by decide) (by omega) (by omega) rfl (by exact Nat.le_of_ble_eq_true rfl) dL_areAlike_259 (fun r M1 hr => ?_)
          obtain ⟨rfl, rfl⟩ := hr
          refine zlcmp C dL_areAlike_262 ?_
          rw [heq 20 (by omega), lcmp_self]
          refine zif_ne_f (tgt := 306) C dL_areAlike_263 (by decide) (by decide) ?_
          refine zaload_n C dL_areAlike_266 rfl ?_
          refine zconst (v := 4) C dL_areAlike_267 (by decide) ?_
          refine ziload C dL_areAlike_268 rfl ?_
          refine zconst (v := 5) C dL_areAlike_270 (by decide) ?_
          refine zirem C dL_areAlike_271 (by decide) ?_
          refine zconst (v := 1) C dL_areAlike_272 (by decide) ?_
          refine zisub C dL_areAlike_273 ?_
          refine ziload C dL_areAlike_274 rfl ?_
          refine ziload C dL_areAlike_276 rfl ?_
          refine zconst (v := 0) C dL_areAlike_278 (by decide) ?_
          refine zcallSW (np := 6) C hN (does_4 _ _ _ _ ho hok) hcw_does zinL (by decide) (by decide +kernel) hl_L_118 rfl rfl (by decide) (by decide) (by omega) (by omega) rfl (by exact Nat.le_of_ble_eq_true rfl) dL_areAlike_279 (fun r M1 hr => ?_)
          obtain ⟨rfl, rfl⟩ := hr
          refine zaload_n C dL_areAlike_282 rfl ?_
          refine zconst (v := 4) C dL_areAlike_283 (by decide) ?_
          refine ziload C dL_areAlike_284 rfl ?_
          refine zconst (v := 5) C dL_areAlike_286 (by decide) ?_
          refine zirem C dL_areAlike_287 (by decide) ?_
          refine zconst (v := 1) C dL_areAlike_288 (by decide) ?_
          refine zisub C dL_areAlike_289 ?_
          refine ziload C dL_areAlike_290 rfl ?_
          refine ziload C dL_areAlike_292 rfl ?_
          refine zconst (v := 0) C dL_areAlike_294 (by decide) ?_
          refine zcallSW (np := 6) C hN (does_4 _ _ _ _ hp hkp) hcw_does zinL (by decide) (by decide +kernel) hl_L_118 rfl rfl (by decide) (by decide) (by omega) (by omega) rfl (by exact Nat.le_of_ble_eq_true rfl) dL_areAlike_295 (fun r M1 hr => ?_)
          obtain ⟨rfl, rfl⟩ := hr
          refine zlcmp C dL_areAlike_298 ?_
          rw [heq 4 (by omega), lcmp_self]
          refine zif_ne_f (tgt := 306) C dL_areAlike_299 (by decide) (by decide) ?_
          refine zconst (v := 1) C dL_areAlike_302 (by decide) ?_
          refine zgoto (tgt := 307) C dL_areAlike_303 (by decide) ?_
          refine zistore (L1 := [_, _, _, _, _, _, _, _]) C dL_areAlike_307 rfl (Nat.le_of_ble_eq_true rfl) ?_
          refine ziinc (L1 := [_, _, _, _, _, _, _, _]) (v := nI (j + 1)) C dL_areAlike_309 rfl (nI_add j 1) rfl ?_
          refine zgoto (tgt := 138) C dL_areAlike_312 (by decide) ?_
          exact ihq (j + 1) (by omega) _ _ (by omega) (by omega)
      refine ziload C dL_areAlike_34 rfl ?_
      refine zbipush (v := 24) C dL_areAlike_36 (by decide) ?_
      refine zicmp_ge (tgt := 321) C dL_areAlike_38 (by decide) (fun h38 => by first | exact absurd h38 hi24 | exact absurd hi24 h38) (fun h38 => ?_)
      refine ziload C dL_areAlike_41 rfl ?_
      refine zif_eq_f (tgt := 321) C dL_areAlike_43 (by decide) (by decide) ?_
      refine ziload_n C dL_areAlike_46 rfl ?_
      refine ziload C dL_areAlike_47 rfl ?_
      refine ziadd C dL_areAlike_49 ?_
      refine ziload_n C dL_areAlike_50 rfl ?_
      refine zconst (v := 1) C dL_areAlike_51 (by decide) ?_
      refine ziadd C dL_areAlike_52 ?_
      refine zcallS C (l_low _ _ htd) hy_L_low hst_L_low hl_L_115 rfl rfl (by decide) (by decide) (by omega) (by omega) rfl (by exact Nat.le_of_ble_eq_true rfl) dL_areAlike_53 (fun v53 M hp53 => ?_)
      obtain ⟨rfl, rfl⟩ := hp53
      refine zistore (L1 := [_, _, _, _, _, _, _, _]) C dL_areAlike_56 rfl (Nat.le_of_ble_eq_true rfl) ?_
      refine zaload_n C dL_areAlike_58 rfl ?_
      refine zbipush (v := 9) C dL_areAlike_59 (by decide) ?_
      refine ziload C dL_areAlike_61 rfl ?_
      refine ziload C dL_areAlike_63 rfl ?_
      refine zconst (v := 0) C dL_areAlike_65 (by decide) ?_
      refine zconst (v := 0) C dL_areAlike_66 (by decide) ?_
      refine zcallSW (np := 6) C hN (does_9 _ _ _ _ ho hok) hcw_does zinL (by decide) (by decide +kernel) hl_L_118 rfl rfl (by decide) (by decide) (by omega) (by omega) rfl (by exact Nat.le_of_ble_eq_true rfl) dL_areAlike_67 (fun r M1 hr => ?_)
      obtain ⟨rfl, rfl⟩ := hr
      refine zaload_n C dL_areAlike_70 rfl ?_
      refine zbipush (v := 9) C dL_areAlike_71 (by decide) ?_
      refine ziload C dL_areAlike_73 rfl ?_
      refine ziload C dL_areAlike_75 rfl ?_
      refine zconst (v := 0) C dL_areAlike_77 (by decide) ?_
      refine zconst (v := 0) C dL_areAlike_78 (by decide) ?_
      refine zcallSW (np := 6) C hN (does_9 _ _ _ _ hp hkp) hcw_does zinL (by decide) (by decide +kernel) hl_L_118 rfl rfl (by decide) (by decide) (by omega) (by omega) rfl (by exact Nat.le_of_ble_eq_true rfl) dL_areAlike_79 (fun r M1 hr => ?_)
      obtain ⟨rfl, rfl⟩ := hr
      refine zlcmp C dL_areAlike_82 ?_
      rw [heq 9 (by omega), lcmp_self]
      refine zif_ne_f (tgt := 132) C dL_areAlike_83 (by decide) (by decide) ?_
      refine zaload_n C dL_areAlike_86 rfl ?_
      refine zconst (v := 5) C dL_areAlike_87 (by decide) ?_
      refine ziload C dL_areAlike_88 rfl ?_
      refine zconst (v := 4) C dL_areAlike_90 (by decide) ?_
      refine zirem C dL_areAlike_91 (by decide) ?_
      refine ziload C dL_areAlike_92 rfl ?_
      refine ziload_n C dL_areAlike_94 rfl ?_
      refine zbipush (v := 12) C dL_areAlike_95 (by decide) ?_
      refine zcallS C (l_low _ _ (by decide)) hy_L_low hst_L_low hl_L_115 rfl rfl (by decide) (by decide) (by omega) (by omega) rfl (by exact Nat.le_of_ble_eq_true rfl) dL_areAlike_97 (fun v97 M hp97 => ?_)
      obtain ⟨rfl, rfl⟩ := hp97
      refine ziload C dL_areAlike_100 rfl ?_
      refine zcallSW (np := 6) C hN (does_5 _ _ _ _ ho hok) hcw_does zinL (by decide) (by decide +kernel) hl_L_118 rfl rfl (by decide) (by decide) (by omega) (by omega) rfl (by exact Nat.le_of_ble_eq_true rfl) dL_areAlike_102 (fun r M1 hr => ?_)
      obtain ⟨rfl, rfl⟩ := hr
      refine zaload_n C dL_areAlike_105 rfl ?_
      refine zconst (v := 5) C dL_areAlike_106 (by decide) ?_
      refine ziload C dL_areAlike_107 rfl ?_
      refine zconst (v := 4) C dL_areAlike_109 (by decide) ?_
      refine zirem C dL_areAlike_110 (by decide) ?_
      refine ziload C dL_areAlike_111 rfl ?_
      refine ziload_n C dL_areAlike_113 rfl ?_
      refine zbipush (v := 12) C dL_areAlike_114 (by decide) ?_
      refine zcallS C (l_low _ _ (by decide)) hy_L_low hst_L_low hl_L_115 rfl rfl (by decide) (by decide) (by omega) (by omega) rfl (by exact Nat.le_of_ble_eq_true rfl) dL_areAlike_116 (fun v116 M hp116 => ?_)
      obtain ⟨rfl, rfl⟩ := hp116
      refine ziload C dL_areAlike_119 rfl ?_
      refine zcallSW (np := 6) C hN (does_5 _ _ _ _ hp hkp) hcw_does zinL (by decide) (by decide +kernel) hl_L_118 rfl rfl (by decide) (by decide) (by omega) (by omega) rfl (by exact Nat.le_of_ble_eq_true rfl) dL_areAlike_121 (fun r M1 hr => ?_)
      obtain ⟨rfl, rfl⟩ := hr
      refine zlcmp C dL_areAlike_124 ?_
      rw [heq 5 (by omega), lcmp_self]
      refine zif_ne_f (tgt := 132) C dL_areAlike_125 (by decide) (by decide) ?_
      refine zconst (v := 1) C dL_areAlike_128 (by decide) ?_
      refine zgoto (tgt := 133) C dL_areAlike_129 (by decide) ?_
      refine zistore (L1 := [_, _, _, _, _, _, _, _]) C dL_areAlike_133 rfl (Nat.le_of_ble_eq_true rfl) ?_
      refine zconst (v := 0) C dL_areAlike_135 (by decide) ?_
      refine zistore (L1 := [_, _, _, _, _, _, _, _]) C dL_areAlike_136 rfl (Nat.le_of_ble_eq_true rfl) ?_
      exact inner 6 0 (by omega) _ _ (by omega) (by omega)
  refine zaload_n C dL_areAlike_0 rfl ?_
  refine zcallV C (k_treasury ho) hy_X7_treasury hv_X7_treasury hl_L_122 ho.main rfl rfl rfl rfl (by decide) (by decide) (by omega) (by omega) rfl (by exact Nat.le_of_ble_eq_true rfl) dL_areAlike_1 (fun v M hv => ?_)
  obtain ⟨rfl, rfl⟩ := hv
  refine zaload_n C dL_areAlike_4 rfl ?_
  refine zcallV C (k_treasury hp) hy_X7_treasury hv_X7_treasury hl_L_122 hp.main rfl rfl rfl rfl (by decide) (by decide) (by omega) (by omega) rfl (by exact Nat.le_of_ble_eq_true rfl) dL_areAlike_5 (fun v M hv => ?_)
  obtain ⟨rfl, rfl⟩ := hv
  refine zlcmp C dL_areAlike_8 ?_
  rw [ht, lcmp_self]
  refine zif_ne_f (tgt := 28) C dL_areAlike_9 (by decide) (by decide) ?_
  refine zaload_n C dL_areAlike_12 rfl ?_
  refine zcallV C (k_all ho hok.1.1.2.2.2.2.1) hy_X7_all hv_X7_all hl_L_126 ho.main rfl rfl rfl rfl (by decide) (by decide) (by omega) (by omega) rfl (by exact Nat.le_of_ble_eq_true rfl) dL_areAlike_13 (fun v M hv => ?_)
  obtain ⟨rfl, rfl⟩ := hv
  refine zaload_n C dL_areAlike_16 rfl ?_
  refine zcallV C (k_all hp hkp.1.1.2.2.2.2.1) hy_X7_all hv_X7_all hl_L_126 hp.main rfl rfl rfl rfl (by decide) (by decide) (by omega) (by omega) rfl (by exact Nat.le_of_ble_eq_true rfl) dL_areAlike_17 (fun v M hv => ?_)
  obtain ⟨rfl, rfl⟩ := hv
  refine zlcmp C dL_areAlike_20 ?_
  rw [hall, lcmp_self]
  refine zif_ne_f (tgt := 28) C dL_areAlike_21 (by decide) (by decide) ?_
  refine zconst (v := 1) C dL_areAlike_24 (by decide) ?_
  refine zgoto (tgt := 29) C dL_areAlike_25 (by decide) ?_
  refine zistore (L1 := [_, _, _, _, _, _, _, _]) C dL_areAlike_29 rfl (Nat.le_of_ble_eq_true rfl) ?_
  refine zconst (v := 0) C dL_areAlike_31 (by decide) ?_
  refine zistore (L1 := [_, _, _, _, _, _, _, _]) C dL_areAlike_32 rfl (Nat.le_of_ble_eq_true rfl) ?_
  exact outer 24 0 (by omega) _ _ (by omega) (by omega)
