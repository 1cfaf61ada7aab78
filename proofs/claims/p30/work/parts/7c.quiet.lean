/-! isQuiet -/
def qW (v : Int32) : Int32 := lowI v 5 - 1
def qN (v : Int32) : Int32 := lowI (v >>> ((3 : Int32) &&& 31)) 7
def qM (v : Int32) : Int32 := lowI (v >>> ((2 : Int32) &&& 31)) 4
def qP (v : Int32) : Int32 := lowI (v >>> ((4 : Int32) &&& 31)) 8
def qO (v : Int32) : Int32 := lowI (v >>> ((5 : Int32) &&& 31)) 8
def qC (v : Int32) : Int32 := lowI (v >>> ((3 : Int32) &&& 31)) 4
def qK (K : zK) (td v : Int32) : zK := dS K 2 (qW v) (qN v) (a_law K (qW v) (qN v) td) 0
/-- what isQuiet wants of the two states -/
def qF (Ko Kp : zK) (td v : Int32) : Prop :=
  (zOk Ko ∧ zOk Kp) ∧ x_law Ko (qW v) (qN v) td = 0 ∧ x_court Ko (qM v) (qP v) (qO v) td = 0 ∧
  (dR Ko 2 (qW v) (qN v) (a_law Ko (qW v) (qN v) td) 0 = (a_law Ko (qW v) (qN v) td).toInt64 ∨ dR Ko 2 (qW v) (qN v) (a_law Ko (qW v) (qN v) td) 0 = -2100000000) ∧
  dR Kp 2 (qW v) (qN v) (a_law Ko (qW v) (qN v) td) 0 = dR Ko 2 (qW v) (qN v) (a_law Ko (qW v) (qN v) td) 0 ∧
  ∃ Ko1 Kp1, Ko1 = dS Ko 2 (qW v) (qN v) (a_law Ko (qW v) (qN v) td) 0 ∧ Kp1 = dS Kp 2 (qW v) (qN v) (a_law Ko (qW v) (qN v) td) 0 ∧ (zOk Ko1 ∧ zOk Kp1) ∧
  (x_law Ko1 (qW v) (qN v) td = 0 ∧ a_law Ko1 (qW v) (qN v) td = a_law Ko (qW v) (qN v) td) ∧ x_recognise Ko1 (qC v) = 0 ∧
  (zOk (k_recognise Ko1 (qC v) true) ∧ x_recognise (k_recognise Ko1 (qC v) true) (qC v) = 0 ∧ a_recognise (k_recognise Ko1 (qC v) true) (qC v) = true) ∧
  (x_recognise Kp1 (qC v) = 0 ∧ a_recognise Kp1 (qC v) = a_recognise Ko1 (qC v)) ∧
  ∃ Ko3, Ko3 = k_recognise (k_recognise Ko1 (qC v) true) (qC v) (a_recognise Ko1 (qC v)) ∧ zOk Ko3 ∧
  (x_court Ko3 (qM v) (qP v) (qO v) td = 0 ∧ a_court Ko3 (qM v) (qP v) (qO v) td = a_court Ko (qM v) (qP v) (qO v) td) ∧
  (¬ a_court Ko (qM v) (qP v) (qO v) td < 0 → (x_faith Ko3 (qP v) td = 0 ∧ x_faith Ko3 (qO v) td = 0) ∧ (a_faith Ko3 (qP v) td = a_court Ko (qM v) (qP v) (qO v) td ∨ a_faith Ko3 (qO v) td = a_court Ko (qM v) (qP v) (qO v) td)) ∧
  True
set_option maxRecDepth 100000 in
set_option maxHeartbeats 4000000 in
theorem l_quiet {g : zGh} {Ko Kp : zK} {ao ap : zg → Nat} {M : zM} (td v : Int32) (z : zW2 g Ko Kp ao ap M) (hq : qF Ko Kp td v) : zCn g yL_isQuiet cL_isQuiet 15 (some .boolean) 11 251 mkI [.ref (ao (0, 0)), .ref (ap (0, 0)), .int td, .int v] M 400 26000 (fun r M1 => r = 1 ∧ ∃ ao1 ap1, zW2 g (k_recognise (k_recognise (dS Ko 2 (qW v) (qN v) (a_law Ko (qW v) (qN v) td) 0) (qC v) true) (qC v) (a_recognise (dS Ko 2 (qW v) (qN v) (a_law Ko (qW v) (qN v) td) 0) (qC v))) (k_recognise (dS Kp 2 (qW v) (qN v) (a_law Ko (qW v) (qN v) td) 0) (qC v) (a_recognise (dS Ko 2 (qW v) (qN v) (a_law Ko (qW v) (qN v) td) 0) (qC v))) ao1 ap1 M1 ∧ ao1 (0, 0) = ao (0, 0) ∧ ap1 (0, 0) = ap (0, 0)) := by
  obtain ⟨⟨hok, hkp⟩, x1, x2, f1, f2, Ko1, Kp1, eo1, ep1, ⟨hok1, hkp1⟩, ⟨x3, f3⟩, x4, ⟨hok2, x5, f5⟩, ⟨x6, f6⟩, Ko3, eo3, hok3, ⟨x7, f7⟩, f8, -⟩ := hq
  rw [← eo1, ← ep1]
  refine zofn [some (.ref (ao (0, 0))), some (.ref (ap (0, 0))), some (.int td), some (.int v), none, none, none, none, none, none, none, none, none, none, none] (by decide +kernel) rfl rfl (Nat.le_of_ble_eq_true rfl) ?_
  intro X C hE hN
  have C : zC g X RL cL_isQuiet 15 11 251 400 26000 := C
  refine ziload_n C dL_isQuiet_0 rfl ?_
  refine zconst (v := 5) C dL_isQuiet_1 (by decide) ?_
  refine zcallS C (l_low _ _ (by decide)) hy_L_low hst_L_low hl_L_115 rfl rfl (by decide) (by decide) (by omega) (by omega) rfl (by exact Nat.le_of_ble_eq_true rfl) dL_isQuiet_2 (fun v2 M hp2 => ?_)
  obtain ⟨rfl, rfl⟩ := hp2
  refine zconst (v := 1) C dL_isQuiet_5 (by decide) ?_
  refine zisub C dL_isQuiet_6 ?_
  rw [show lowI v 5 - 1 = qW v from rfl]
  refine zistore (L1 := [_, _, _, _, _, _, _, _, _, _, _, _, _, _, _]) C dL_isQuiet_7 rfl (Nat.le_of_ble_eq_true rfl) ?_
  refine ziload_n C dL_isQuiet_9 rfl ?_
  refine zconst (v := 3) C dL_isQuiet_10 (by decide) ?_
  refine zishr C dL_isQuiet_11 ?_
  refine zbipush (v := 7) C dL_isQuiet_12 (by decide) ?_
  refine zcallS C (l_low _ _ (by decide)) hy_L_low hst_L_low hl_L_115 rfl rfl (by decide) (by decide) (by omega) (by omega) rfl (by exact Nat.le_of_ble_eq_true rfl) dL_isQuiet_14 (fun v14 M hp14 => ?_)
  obtain ⟨rfl, rfl⟩ := hp14
  rw [show lowI (v >>> ((3 : Int32) &&& 31)) 7 = qN v from rfl]
  refine zistore (L1 := [_, _, _, _, _, _, _, _, _, _, _, _, _, _, _]) C dL_isQuiet_17 rfl (Nat.le_of_ble_eq_true rfl) ?_
  refine zaload_n C dL_isQuiet_19 rfl ?_
  refine ziload C dL_isQuiet_20 rfl ?_
  refine ziload C dL_isQuiet_22 rfl ?_
  refine ziload_n C dL_isQuiet_24 rfl ?_
  refine zcallVX C (K_law _ _ _ z.1 hok.1) hy_X7_law hv_X7_law hl_L_90 z.1.main rfl rfl rfl rfl (by decide) (by decide) (by omega) (by omega) rfl (by exact Nat.le_of_ble_eq_true rfl) dL_isQuiet_25 (fun E M1 hx => absurd x1 (exI hx.1)) (fun v M1 hv => ?_)
  obtain ⟨-, rfl, rfl⟩ := hv
  refine zistore (L1 := [_, _, _, _, _, _, _, _, _, _, _, _, _, _, _]) C dL_isQuiet_28 rfl (Nat.le_of_ble_eq_true rfl) ?_
  refine ziload_n C dL_isQuiet_30 rfl ?_
  refine zconst (v := 2) C dL_isQuiet_31 (by decide) ?_
  refine zishr C dL_isQuiet_32 ?_
  refine zconst (v := 4) C dL_isQuiet_33 (by decide) ?_
  refine zcallS C (l_low _ _ (by decide)) hy_L_low hst_L_low hl_L_115 rfl rfl (by decide) (by decide) (by omega) (by omega) rfl (by exact Nat.le_of_ble_eq_true rfl) dL_isQuiet_34 (fun v34 M hp34 => ?_)
  obtain ⟨rfl, rfl⟩ := hp34
  rw [show lowI (v >>> ((2 : Int32) &&& 31)) 4 = qM v from rfl]
  refine zistore (L1 := [_, _, _, _, _, _, _, _, _, _, _, _, _, _, _]) C dL_isQuiet_37 rfl (Nat.le_of_ble_eq_true rfl) ?_
  refine ziload_n C dL_isQuiet_39 rfl ?_
  refine zconst (v := 4) C dL_isQuiet_40 (by decide) ?_
  refine zishr C dL_isQuiet_41 ?_
  refine zbipush (v := 8) C dL_isQuiet_42 (by decide) ?_
  refine zcallS C (l_low _ _ (by decide)) hy_L_low hst_L_low hl_L_115 rfl rfl (by decide) (by decide) (by omega) (by omega) rfl (by exact Nat.le_of_ble_eq_true rfl) dL_isQuiet_44 (fun v44 M hp44 => ?_)
  obtain ⟨rfl, rfl⟩ := hp44
  rw [show lowI (v >>> ((4 : Int32) &&& 31)) 8 = qP v from rfl]
  refine zistore (L1 := [_, _, _, _, _, _, _, _, _, _, _, _, _, _, _]) C dL_isQuiet_47 rfl (Nat.le_of_ble_eq_true rfl) ?_
  refine zaload_n C dL_isQuiet_49 rfl ?_
  refine ziload C dL_isQuiet_50 rfl ?_
  refine ziload C dL_isQuiet_52 rfl ?_
  refine ziload_n C dL_isQuiet_54 rfl ?_
  refine zconst (v := 5) C dL_isQuiet_55 (by decide) ?_
  refine zishr C dL_isQuiet_56 ?_
  refine zbipush (v := 8) C dL_isQuiet_57 (by decide) ?_
  refine zcallS C (l_low _ _ (by decide)) hy_L_low hst_L_low hl_L_115 rfl rfl (by decide) (by decide) (by omega) (by omega) rfl (by exact Nat.le_of_ble_eq_true rfl) dL_isQuiet_59 (fun v59 M hp59 => ?_)
  obtain ⟨rfl, rfl⟩ := hp59
  refine ziload_n C dL_isQuiet_62 rfl ?_
  rw [show lowI (v >>> ((5 : Int32) &&& 31)) 8 = qO v from rfl]
  refine zcallVX C (K_court _ _ _ _ z.1 hok.1) hy_X7_court hv_X7_court hl_L_93 z.1.main rfl rfl rfl rfl (by decide) (by decide) (by omega) (by omega) rfl (by exact Nat.le_of_ble_eq_true rfl) dL_isQuiet_63 (fun E M1 hx => absurd x2 (exI hx.1)) (fun v M1 hv => ?_)
  obtain ⟨-, rfl, rfl⟩ := hv
  refine zistore (L1 := [_, _, _, _, _, _, _, _, _, _, _, _, _, _, _]) C dL_isQuiet_66 rfl (Nat.le_of_ble_eq_true rfl) ?_
  refine zaload_n C dL_isQuiet_68 rfl ?_
  refine zconst (v := 2) C dL_isQuiet_69 (by decide) ?_
  refine ziload C dL_isQuiet_70 rfl ?_
  refine ziload C dL_isQuiet_72 rfl ?_
  refine ziload C dL_isQuiet_74 rfl ?_
  refine zconst (v := 0) C dL_isQuiet_76 (by decide) ?_
  refine zcallSW (np := 6) C hN (z.call (does_2 _ _ _ _ z.into hok)) hcw_does zinL (by decide) (by decide +kernel) hl_L_118 rfl rfl (by decide) (by decide) (by omega) (by omega) rfl (by exact Nat.le_of_ble_eq_true rfl) dL_isQuiet_77 (fun r M1 hr => ?_)
  obtain ⟨rfl, ao2, z, e1⟩ := hr
  replace z : zW2 g Ko1 Kp ao2 ap M1 := by rw [eo1]; exact z
  rw [← e1]
  refine zlstore (L1 := [_, _, _, _, _, _, _, _, _, _, _, _, _, _, _]) C dL_isQuiet_80 rfl (Nat.le_of_ble_eq_true rfl) ?_
  have k100 : ∀ k n, k ≤ 116 → n ≤ 6096 → zG g X M1 k n 100 [some (.ref (ao2 (0, 0))), some (.ref (ap (0, 0))), some (.int td), some (.int v), some (.int (qW v)), some (.int (qN v)), some (.int (a_law Ko (qW v) (qN v) td)), some (.int (qM v)), some (.int (qP v)), some (.int (a_court Ko (qM v) (qP v) (qO v) td)), some (.long (dR Ko 2 (qW v) (qN v) (a_law Ko (qW v) (qN v) td) 0)), none, none, none, none] [] := by
    intro k n hk hn
    refine zaload_n C dL_isQuiet_100 rfl ?_
    refine zconst (v := 2) C dL_isQuiet_101 (by decide) ?_
    refine ziload C dL_isQuiet_102 rfl ?_
    refine ziload C dL_isQuiet_104 rfl ?_
    refine ziload C dL_isQuiet_106 rfl ?_
    refine zconst (v := 0) C dL_isQuiet_108 (by decide) ?_
    refine zcallSW (np := 6) C hN (z.sym.call (does_2 _ _ _ _ z.sym.into hkp)) hcw_does zinL (by decide) (by decide +kernel) hl_L_118 rfl rfl (by decide) (by decide) (by omega) (by omega) rfl (by exact Nat.le_of_ble_eq_true rfl) dL_isQuiet_109 (fun r M1 hr => ?_)
    obtain ⟨rfl, ap2, z0, e2⟩ := hr
    have z := z0.sym
    replace z : zW2 g Ko1 Kp1 ao2 ap2 M1 := by rw [ep1]; exact z
    rw [← e2]
    refine zlload C dL_isQuiet_112 rfl ?_
    refine zlcmp C dL_isQuiet_114 ?_
    rw [show dR Kp 2 (qW v) (qN v) (a_law Ko (qW v) (qN v) td) 0 = dR Ko 2 (qW v) (qN v) (a_law Ko (qW v) (qN v) td) 0 from f2, lcmp_self]
    refine zif_ne_f (tgt := 136) C dL_isQuiet_115 (by decide) (by decide) ?_
    refine zaload_n C dL_isQuiet_118 rfl ?_
    refine ziload C dL_isQuiet_119 rfl ?_
    refine ziload C dL_isQuiet_121 rfl ?_
    refine ziload_n C dL_isQuiet_123 rfl ?_
    refine zcallVX C (K_law _ _ _ z.1 hok1.1) hy_X7_law hv_X7_law hl_L_90 z.1.main rfl rfl rfl rfl (by decide) (by decide) (by omega) (by omega) rfl (by exact Nat.le_of_ble_eq_true rfl) dL_isQuiet_124 (fun E M1 hx => absurd x3 (exI hx.1)) (fun v M1 hv => ?_)
    obtain ⟨-, rfl, rfl⟩ := hv
    rw [show a_law Ko1 (qW v) (qN v) td = a_law Ko (qW v) (qN v) td from f3]
    refine ziload C dL_isQuiet_127 rfl ?_
    refine zicmp_ne (tgt := 136) C dL_isQuiet_129 (by decide) (fun h129 => by first | exact absurd h129 rfl | exact absurd rfl h129) (fun h129 => ?_)
    refine zconst (v := 1) C dL_isQuiet_132 (by decide) ?_
    refine zgoto (tgt := 137) C dL_isQuiet_133 (by decide) ?_
    refine zistore (L1 := [_, _, _, _, _, _, _, _, _, _, _, _, _, _, _]) C dL_isQuiet_137 rfl (Nat.le_of_ble_eq_true rfl) ?_
    refine ziload_n C dL_isQuiet_139 rfl ?_
    refine zconst (v := 3) C dL_isQuiet_140 (by decide) ?_
    refine zishr C dL_isQuiet_141 ?_
    refine zconst (v := 4) C dL_isQuiet_142 (by decide) ?_
    refine zcallS C (l_low _ _ (by decide)) hy_L_low hst_L_low hl_L_115 rfl rfl (by decide) (by decide) (by omega) (by omega) rfl (by exact Nat.le_of_ble_eq_true rfl) dL_isQuiet_143 (fun v143 M hp143 => ?_)
    obtain ⟨rfl, rfl⟩ := hp143
    rw [show lowI (v >>> ((3 : Int32) &&& 31)) 4 = qC v from rfl]
    refine zistore (L1 := [_, _, _, _, _, _, _, _, _, _, _, _, _, _, _]) C dL_isQuiet_146 rfl (Nat.le_of_ble_eq_true rfl) ?_
    refine zaload_n C dL_isQuiet_148 rfl ?_
    refine ziload C dL_isQuiet_149 rfl ?_
    refine zconst (v := 1) C dL_isQuiet_151 (by decide) ?_
    refine zcallVX C (K_recognise _ true z.into hok1.1 hok1.2.1) hy_X7_recognise hv_X7_recognise hl_L_79 z.into.main rfl rfl rfl rfl (by decide) (by decide) (by omega) (by omega) rfl (by exact Nat.le_of_ble_eq_true rfl) dL_isQuiet_152 (fun E M1 hx => absurd x4 (exI hx.1)) (fun v1 M1 hv => ?_)
    obtain ⟨-, rfl, ad1, p1, p2⟩ := hv
    obtain ⟨z, e3⟩ := z.back p1 (fun t ht => p2 t (by omega) (by omega))
    rw [← e3]
    refine zistore (L1 := [_, _, _, _, _, _, _, _, _, _, _, _, _, _, _]) C dL_isQuiet_155 rfl (Nat.le_of_ble_eq_true rfl) ?_
    refine ziload C dL_isQuiet_157 rfl ?_
    refine zif_eq_f (tgt := 247) C dL_isQuiet_159 (by decide) (by decide) ?_
    refine zaload_n C dL_isQuiet_162 rfl ?_
    refine ziload C dL_isQuiet_163 rfl ?_
    refine ziload C dL_isQuiet_165 rfl ?_
    refine zcallVX C (K_recognise _ (a_recognise Ko1 (qC v)) z.into hok2.1 hok2.2.1) hy_X7_recognise hv_X7_recognise hl_L_79 z.into.main rfl rfl rfl rfl (by decide) (by decide) (by omega) (by omega) rfl (by exact Nat.le_of_ble_eq_true rfl) dL_isQuiet_167 (fun E M1 hx => absurd x5 (exI hx.1)) (fun v1 M1 hv => ?_)
    obtain ⟨-, rfl, ad1, p1, p2⟩ := hv
    obtain ⟨z, e4⟩ := z.back p1 (fun t ht => p2 t (by omega) (by omega))
    replace z := (show zW2 g Ko3 Kp1 _ _ _ by rw [eo3]; exact z)
    rw [← e4]
    rw [f5]
    refine zif_eq_f (tgt := 247) C dL_isQuiet_170 (by decide) (by decide) ?_
    refine zaload_n C dL_isQuiet_173 rfl ?_
    refine ziload C dL_isQuiet_174 rfl ?_
    refine ziload C dL_isQuiet_176 rfl ?_
    refine zcallVX C (K_recognise _ (a_recognise Ko1 (qC v)) z.sym.into hkp1.1 hkp1.2.1) hy_X7_recognise hv_X7_recognise hl_L_79 z.sym.into.main rfl rfl rfl rfl (by decide) (by decide) (by omega) (by omega) rfl (by exact Nat.le_of_ble_eq_true rfl) dL_isQuiet_178 (fun E M1 hx => absurd x6 (exI hx.1)) (fun v1 M1 hv => ?_)
    obtain ⟨-, rfl, ad1, p1, p2⟩ := hv
    obtain ⟨z0, e5⟩ := z.sym.back p1 (fun t ht => p2 t (by omega) (by omega))
    have z := z0.sym
    rw [← e5]
    rw [f6]
    refine ziload C dL_isQuiet_181 rfl ?_
    refine zicmp_ne (tgt := 247) C dL_isQuiet_183 (by decide) (fun h183 => by first | exact absurd h183 rfl | exact absurd rfl h183) (fun h183 => ?_)
    refine zaload_n C dL_isQuiet_186 rfl ?_
    refine ziload C dL_isQuiet_187 rfl ?_
    refine ziload C dL_isQuiet_189 rfl ?_
    refine ziload_n C dL_isQuiet_191 rfl ?_
    refine zconst (v := 5) C dL_isQuiet_192 (by decide) ?_
    refine zishr C dL_isQuiet_193 ?_
    refine zbipush (v := 8) C dL_isQuiet_194 (by decide) ?_
    refine zcallS C (l_low _ _ (by decide)) hy_L_low hst_L_low hl_L_115 rfl rfl (by decide) (by decide) (by omega) (by omega) rfl (by exact Nat.le_of_ble_eq_true rfl) dL_isQuiet_196 (fun v196 M hp196 => ?_)
    obtain ⟨rfl, rfl⟩ := hp196
    refine ziload_n C dL_isQuiet_199 rfl ?_
    rw [show lowI (v >>> ((5 : Int32) &&& 31)) 8 = qO v from rfl]
    refine zcallVX C (K_court _ _ _ _ z.1 hok3.1) hy_X7_court hv_X7_court hl_L_93 z.1.main rfl rfl rfl rfl (by decide) (by decide) (by omega) (by omega) rfl (by exact Nat.le_of_ble_eq_true rfl) dL_isQuiet_200 (fun E M1 hx => absurd x7 (exI hx.1)) (fun v M1 hv => ?_)
    obtain ⟨-, rfl, rfl⟩ := hv
    rw [show a_court Ko3 (qM v) (qP v) (qO v) td = a_court Ko (qM v) (qP v) (qO v) td from f7]
    refine ziload C dL_isQuiet_203 rfl ?_
    refine zicmp_ne (tgt := 247) C dL_isQuiet_205 (by decide) (fun h205 => by first | exact absurd h205 rfl | exact absurd rfl h205) (fun h205 => ?_)
    refine ziload C dL_isQuiet_208 rfl ?_
    refine zif_lt (tgt := 243) C dL_isQuiet_210 (by decide) (fun h210 => ?_) (fun h210 => ?_)
    · refine zconst (v := 1) C dL_isQuiet_243 (by decide) ?_
      refine zgoto (tgt := 248) C dL_isQuiet_244 (by decide) ?_
      exact zend_z C hE dL_isQuiet_248 (by omega) (by omega) (Or.inr rfl) ⟨rfl, _, _, (by rw [← eo3]; exact z), e4.trans (e3.trans e1), e5.trans e2⟩
    · obtain ⟨⟨x8, x9⟩, f9⟩ := f8 h210
      refine zaload_n C dL_isQuiet_213 rfl ?_
      refine ziload C dL_isQuiet_214 rfl ?_
      refine ziload_n C dL_isQuiet_216 rfl ?_
      refine zcallVX C (K_faith _ _ z.1 hok3.1) hy_X7_faith hv_X7_faith hl_L_106 z.1.main rfl rfl rfl rfl (by decide) (by decide) (by omega) (by omega) rfl (by exact Nat.le_of_ble_eq_true rfl) dL_isQuiet_217 (fun E M1 hx => absurd x8 (exI hx.1)) (fun v M1 hv => ?_)
      obtain ⟨-, rfl, rfl⟩ := hv
      refine ziload C dL_isQuiet_220 rfl ?_
      refine zicmp_eq (tgt := 243) C dL_isQuiet_222 (by decide) (fun h222 => ?_) (fun h222 => ?_)
      · refine zconst (v := 1) C dL_isQuiet_243 (by decide) ?_
        refine zgoto (tgt := 248) C dL_isQuiet_244 (by decide) ?_
        exact zend_z C hE dL_isQuiet_248 (by omega) (by omega) (Or.inr rfl) ⟨rfl, _, _, (by rw [← eo3]; exact z), e4.trans (e3.trans e1), e5.trans e2⟩
      · have f10 := f9.resolve_left h222
        refine zaload_n C dL_isQuiet_225 rfl ?_
        refine ziload_n C dL_isQuiet_226 rfl ?_
        refine zconst (v := 5) C dL_isQuiet_227 (by decide) ?_
        refine zishr C dL_isQuiet_228 ?_
        refine zbipush (v := 8) C dL_isQuiet_229 (by decide) ?_
        refine zcallS C (l_low _ _ (by decide)) hy_L_low hst_L_low hl_L_115 rfl rfl (by decide) (by decide) (by omega) (by omega) rfl (by exact Nat.le_of_ble_eq_true rfl) dL_isQuiet_231 (fun v231 M hp231 => ?_)
        obtain ⟨rfl, rfl⟩ := hp231
        refine ziload_n C dL_isQuiet_234 rfl ?_
        rw [show lowI (v >>> ((5 : Int32) &&& 31)) 8 = qO v from rfl]
        refine zcallVX C (K_faith _ _ z.1 hok3.1) hy_X7_faith hv_X7_faith hl_L_106 z.1.main rfl rfl rfl rfl (by decide) (by decide) (by omega) (by omega) rfl (by exact Nat.le_of_ble_eq_true rfl) dL_isQuiet_235 (fun E M1 hx => absurd x9 (exI hx.1)) (fun v M1 hv => ?_)
        obtain ⟨-, rfl, rfl⟩ := hv
        refine ziload C dL_isQuiet_238 rfl ?_
        refine zicmp_ne (tgt := 247) C dL_isQuiet_240 (by decide) (fun h240 => by first | exact absurd h240 f10 | exact absurd f10 h240) (fun h240 => ?_)
        refine zconst (v := 1) C dL_isQuiet_243 (by decide) ?_
        refine zgoto (tgt := 248) C dL_isQuiet_244 (by decide) ?_
        exact zend_z C hE dL_isQuiet_248 (by omega) (by omega) (Or.inr rfl) ⟨rfl, _, _, (by rw [← eo3]; exact z), e4.trans (e3.trans e1), e5.trans e2⟩
  refine zlload C dL_isQuiet_82 rfl ?_
  refine ziload C dL_isQuiet_84 rfl ?_
  refine zi2l C dL_isQuiet_86 ?_
  refine zlcmp C dL_isQuiet_87 ?_
  refine zif_eq (tgt := 100) C dL_isQuiet_88 (by decide) (fun h88 => ?_) (fun h88 => ?_)
  · exact k100 _ _ (by omega) (by omega)
  · have h88x : dR Ko 2 (qW v) (qN v) (a_law Ko (qW v) (qN v) td) 0 = -2100000000 := f1.resolve_left (fun hh => h88 ((lg_cmp_eq _ _).mpr hh))
    refine zlload C dL_isQuiet_91 rfl ?_
    refine zldc2 C hk_L_69 dL_isQuiet_93 ?_
    refine zlcmp C dL_isQuiet_96 ?_
    rw [show lg_cmp (dR Ko 2 (qW v) (qN v) (a_law Ko (qW v) (qN v) td) 0) (-2100000000) = 0 from by rw [h88x]; exact lcmp_self _]
    refine zif_ne_f (tgt := 136) C dL_isQuiet_97 (by decide) (by decide) ?_
    exact k100 _ _ (by omega) (by omega)
