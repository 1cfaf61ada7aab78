def zfd (ad : Nat → Nat) (d j : Nat) : Value := if (zkd j).1 = 0 then .int 0 else if (zkd j).1 = 1 then .long 0 else if j < d then .ref (ad j) else .null
def zS0 : zS := (fun _ => 0, 0, fun _ _ => 0, fun _ _ => 0)
/-- the reference's object while it is made: its rows below d stand -/
def zRi (g : zGh) (M0 : zM) (mo : Nat) (ad : Nat → Nat) (d : Nat) (M : zM) : Prop :=
  M mo = some (zob 9 ((List.range 48).map (zfd ad d))) ∧ (∀ j, j < d → 2 ≤ (zkd j).1 → M (ad j) = some (zme g zS0 j)) ∧
  (∀ i j, i < d → j < d → 2 ≤ (zkd i).1 → 2 ≤ (zkd j).1 → ad i = ad j → i = j) ∧ (∀ q, q ≠ mo → (∀ j, j < d → 2 ≤ (zkd j).1 → q ≠ ad j) → M q = M0 q) ∧ (∀ j, j < d → 2 ≤ (zkd j).1 → M0 (ad j) = none)
def zsk (d j : Nat) : Bool := decide (d ≤ j) && decide (j < 48) && decide (2 ≤ (zkd j).1) && (List.range 48).all fun i => decide (i < d) || decide (j ≤ i) || decide ((zkd i).1 < 2)
theorem zsk_of {d j : Nat} (h : zsk d j = true) : d ≤ j ∧ j < 48 ∧ 2 ≤ (zkd j).1 ∧ ∀ i, d ≤ i → i < j → (zkd i).1 < 2 := by
  unfold zsk at h
  simp only [Bool.and_eq_true, decide_eq_true_eq, List.all_eq_true, List.mem_range, Bool.or_eq_true] at h
  obtain ⟨⟨⟨h1, h2⟩, h3⟩, h4⟩ := h
  refine ⟨h1, h2, h3, fun i hi hj => ?_⟩
  have := h4 i (by omega)
  omega
theorem zfd_0 (ad : Nat → Nat) : (List.range 48).map (fun j => defaultValue (tyX8 j)) = (List.range 48).map (zfd ad 0) := by
  apply List.map_congr_left
  intro j hj
  have h : ∀ j, j < 48 → defaultValue (tyX8 j) = zfd (fun _ => 0) 0 j := by decide
  rw [h j (List.mem_range.mp hj)]
  unfold zfd
  simp
theorem zRi_0 {g : zGh} {M : zM} {mo : Nat} (h : M mo = some (zob 9 ((List.range 48).map fun j => defaultValue (tyX8 j)))) : zRi g M mo (fun _ => 0) 0 M :=
  ⟨by rw [h, zfd_0], fun j hj => absurd hj (by omega), fun i j hi => absurd hi (by omega), fun _ _ _ => rfl, fun j hj => absurd hj (by omega)⟩
theorem zRi_end {g : zGh} {M0 M : zM} {mo : Nat} {ad : Nat → Nat} (h : zRi g M0 mo ad 48 M) : zR g M0 mo ad zS0 M := by
  refine ⟨?_, h.2.1, h.2.2.1, h.2.2.2.1⟩
  rw [h.1]
  congr 2
theorem zRi_step {g : zGh} {M0 M : zM} {mo d j q : Nat} {ad : Nat → Nat} (hR : zRi g M0 mo ad d M) (hs : zsk d j = true) (hq : M q = none) : zRi g M0 mo (va_up ad j q) (j + 1) (zup (zup M q (zme g zS0 j)) mo (zob 9 ((List.range 48).map (zfd (va_up ad j q) (j + 1))))) := by
  obtain ⟨h1, h2, h3, h4⟩ := zsk_of hs
  have hqm : q ≠ mo := fun e => by rw [e, hR.1] at hq; cases hq
  have ham : ∀ i, i < d → 2 ≤ (zkd i).1 → ad i ≠ mo := fun i hi hk e => by
    have := hR.2.1 i hi hk
    rw [e, hR.1] at this
    unfold zme zob at this
    split at this
    · cases this
    · split at this <;> cases this
  have haq : ∀ i, i < d → 2 ≤ (zkd i).1 → ad i ≠ q := fun i hi hk e => by
    have := hR.2.1 i hi hk
    rw [e, hq] at this
    cases this
  have hd : ∀ i, i < j + 1 → 2 ≤ (zkd i).1 → i < d ∧ i ≠ j ∨ i = j := fun i hi hk => by
    by_cases e : i = j
    · exact Or.inr e
    · refine Or.inl ⟨?_, e⟩
      apply Classical.byContradiction
      intro hn
      have := h4 i (by omega) (by omega)
      omega
  have hup : ∀ i, i ≠ j → va_up ad j q i = ad i := fun i e => by simp [va_up, e]
  have hus : va_up ad j q j = q := by simp [va_up]
  refine ⟨zup_same, fun i hi hk => ?_, fun i l hi hl hki hkl e => ?_, fun p g1 g2 => ?_, fun i hi hk => ?_⟩
  · rcases hd i hi hk with ⟨a, b⟩ | rfl
    · rw [hup i b, zup_ne (ham i a hk), zup_ne (haq i a hk)]
      exact hR.2.1 i a hk
    · rw [hus, zup_ne hqm]
      exact zup_same
  · rcases hd i hi hki with ⟨a, b⟩ | rfl
    · rcases hd l hl hkl with ⟨a1, b1⟩ | rfl
      · rw [hup i b, hup l b1] at e
        exact hR.2.2.1 i l a a1 hki hkl e
      · rw [hup i b, hus] at e
        exact absurd e (haq i a hki)
    · rcases hd l hl hkl with ⟨a1, b1⟩ | rfl
      · rw [hup l b1, hus] at e
        exact absurd e.symm (haq l a1 hkl)
      · rfl
  · have gq : p ≠ q := fun e => g2 j (by omega) h3 (by rw [hus]; exact e)
    rw [zup_ne g1, zup_ne gq]
    refine hR.2.2.2.1 p g1 fun i hi hk e => g2 i (by omega) hk ?_
    rw [hup i (by omega)]
    exact e
  · rcases hd i hi hk with ⟨a, b⟩ | rfl
    · rw [hup i b]
      exact hR.2.2.2.2 i a hk
    · rw [hus, ← hR.2.2.2.1 q hqm (fun i hi hk e => haq i hi hk e.symm)]
      exact hq
theorem zfd_set {ad : Nat → Nat} {d j q : Nat} (hs : zsk d j = true) : ((List.range 48).map (zfd ad d)).set j (.ref q) = (List.range 48).map (zfd (va_up ad j q) (j + 1)) := by
  obtain ⟨h1, h2, h3, h4⟩ := zsk_of hs
  apply List.ext_getElem?
  intro i
  by_cases hij : j = i
  · subst hij
    rw [List.getElem?_set_self (by simp [h2])]
    simp only [List.getElem?_map, List.getElem?_range h2, Option.map_some]
    unfold zfd
    rw [if_neg (by omega), if_neg (by omega), if_pos (by omega)]
    simp [va_up]
  · rw [List.getElem?_set_ne hij]
    by_cases hi : i < 48
    · simp only [List.getElem?_map, List.getElem?_range hi, Option.map_some]
      unfold zfd
      by_cases k0 : (zkd i).1 = 0
      · simp [k0]
      · by_cases k1 : (zkd i).1 = 1
        · simp [k1]
        · rw [if_neg k0, if_neg k1, if_neg k0, if_neg k1]
          by_cases hid : i < d
          · rw [if_pos hid, if_pos (by omega)]
            simp [va_up, Ne.symm hij]
          · rw [if_neg hid, if_neg]
            intro hlt
            have := h4 i (by omega) (by omega)
            omega
    · simp [hi]
section ZMI
variable {g : zGh} {X : zX} {cc : ByteArray} {nL fr lc mc ms : Nat} {M0 M : zM} {mo : Nat} {ad : Nat → Nat} {k n pc d : Nat} {L : List (Option Value)} {st : List Value} {idx j N : Nat}
theorem znfi (C : zC g X RX8 cc nL fr lc mc ms) (hnm : zNm X "<init>") (hR : zRi g M0 mo ad d M) (hF : zF RX8 idx 9 j RX8 TX8 48 "MilletcourtModel") (hk : zkd j = (2, N)) (hs : zsk d j = true) (hty : tyX8 j = .array .int) (hfin : (TX8 j).2.2.2 = true) (hdc : (TX8 j).1 = RX8) {v : Int32} (hv : v = nI N) (hN : N < 2 ^ 31) (hb : N * 4 ≤ 536870912) (h0 : ¬ v < 0) (hc : k + 1 ≤ mc) (hsl : n + N ≤ ms) (hd : decode cc pc = .ok (.newarray .int, 2)) (hd2 : decode cc (pc + 2) = .ok (.putfield idx, 3))
    (kk : ∀ ad1 M1, zRi g M0 mo ad1 (j + 1) M1 → zG g X M1 (k + 1) (n + N) (pc + 2 + 3) L st) : zG g X M k n pc L (.int v :: .ref mo :: st) := by
  refine znewi C ha_int h0 (by rw [hv]; exact nI_clamp hN) hb hc hsl hd (fun q hq => ?_)
  have hz : zme g zS0 j = zai g N (fun _ => 0) := by unfold zme; rw [hk]; rfl
  rw [← hz]
  have hqm : mo ≠ q := fun e => by rw [← e, hR.1] at hq; cases hq
  exact zputF C hnm hF hp_X8 hfin hdc (by rw [zup_ne hqm]; exact hR.1) (by rw [hty]; rfl) (by rw [hty]; rfl) (by simp [hF.2.1]) (zfd_set hs) hd2 (kk _ _ (zRi_step hR hs hq))
theorem znfz (C : zC g X RX8 cc nL fr lc mc ms) (hnm : zNm X "<init>") (hR : zRi g M0 mo ad d M) (hF : zF RX8 idx 9 j RX8 TX8 48 "MilletcourtModel") (hk : zkd j = (3, N)) (hs : zsk d j = true) (hty : tyX8 j = .array .boolean) (hfin : (TX8 j).2.2.2 = true) (hdc : (TX8 j).1 = RX8) {v : Int32} (hv : v = nI N) (hN : N < 2 ^ 31) (hb : N * 1 ≤ 536870912) (h0 : ¬ v < 0) (hc : k + 1 ≤ mc) (hsl : n + N ≤ ms) (hd : decode cc pc = .ok (.newarray .boolean, 2)) (hd2 : decode cc (pc + 2) = .ok (.putfield idx, 3))
    (kk : ∀ ad1 M1, zRi g M0 mo ad1 (j + 1) M1 → zG g X M1 (k + 1) (n + N) (pc + 2 + 3) L st) : zG g X M k n pc L (.int v :: .ref mo :: st) := by
  refine znewz C ha_boolean h0 (by rw [hv]; exact nI_clamp hN) hb hc hsl hd (fun q hq => ?_)
  have hz : zme g zS0 j = zaz g N (fun _ => 0) := by unfold zme; rw [hk]; rfl
  rw [← hz]
  have hqm : mo ≠ q := fun e => by rw [← e, hR.1] at hq; cases hq
  exact zputF C hnm hF hp_X8 hfin hdc (by rw [zup_ne hqm]; exact hR.1) (by rw [hty]; rfl) (by rw [hty]; rfl) (by simp [hF.2.1]) (zfd_set hs) hd2 (kk _ _ (zRi_step hR hs hq))
theorem znfj (C : zC g X RX8 cc nL fr lc mc ms) (hnm : zNm X "<init>") (hR : zRi g M0 mo ad d M) (hF : zF RX8 idx 9 j RX8 TX8 48 "MilletcourtModel") (hk : zkd j = (4, N)) (hs : zsk d j = true) (hty : tyX8 j = .array .long) (hfin : (TX8 j).2.2.2 = true) (hdc : (TX8 j).1 = RX8) {v : Int32} (hv : v = nI N) (hN : N < 2 ^ 31) (hb : N * 8 ≤ 536870912) (h0 : ¬ v < 0) (hc : k + 1 ≤ mc) (hsl : n + N ≤ ms) (hd : decode cc pc = .ok (.newarray .long, 2)) (hd2 : decode cc (pc + 2) = .ok (.putfield idx, 3))
    (kk : ∀ ad1 M1, zRi g M0 mo ad1 (j + 1) M1 → zG g X M1 (k + 1) (n + N) (pc + 2 + 3) L st) : zG g X M k n pc L (.int v :: .ref mo :: st) := by
  refine znewj C ha_long h0 (by rw [hv]; exact nI_clamp hN) hb hc hsl hd (fun q hq => ?_)
  have hz : zme g zS0 j = zaj g N (fun _ => 0) := by unfold zme; rw [hk]; rfl
  rw [← hz]
  have hqm : mo ≠ q := fun e => by rw [← e, hR.1] at hq; cases hq
  exact zputF C hnm hF hp_X8 hfin hdc (by rw [zup_ne hqm]; exact hR.1) (by rw [hty]; rfl) (by rw [hty]; rfl) (by simp [hF.2.1]) (zfd_set hs) hd2 (kk _ _ (zRi_step hR hs hq))
end ZMI
set_option maxRecDepth 100000 in
set_option maxHeartbeats 1000000 in
theorem m_init8 {g : zGh} {M : zM} {mo : Nat} (hmo : M mo = some (zob 9 ((List.range 48).map fun j => defaultValue (tyX8 j)))) : zCt g yX8_init cX8_init 1 none 1 20 mkV [.ref mo] M 39 48778 (fun _ M1 => ∃ ad, zR g M mo ad zS0 M1 ∧ ∀ j, j < 48 → 2 ≤ (zkd j).1 → M (ad j) = none) noX := by
  have hR := zRi_0 (g := g) hmo
  refine zof [some (.ref mo)] (by decide +kernel) rfl rfl (Nat.le_of_ble_eq_true rfl) ?_
  intro X C hE hnm
  have C : zC g X RX8 cX8_init 1 1 20 39 48778 := C
  refine zaload_n C dX8_init_0 rfl ?_
  refine zobj C hl_X8_1 hoi1 hoi2 rfl (by decide) (by decide) dX8_init_1 ?_
  refine zaload_n C dX8_init_4 rfl ?_
  refine zsipush (v := 5628) C dX8_init_5 (by decide) ?_
  refine znfi (j := 3) (N := 5628) C hnm hR hf_X8_7 rfl rfl rfl rfl rfl rfl (by decide) (by decide) (by decide) (by omega) (by omega) dX8_init_8 dX8_init_10 (fun ad M hR => ?_)
  refine zaload_n C dX8_init_13 rfl ?_
  refine zbipush (v := 100) C dX8_init_14 (by decide) ?_
  refine znfi (j := 5) (N := 100) C hnm hR hf_X8_13 rfl rfl rfl rfl rfl rfl (by decide) (by decide) (by decide) (by omega) (by omega) dX8_init_16 dX8_init_18 (fun ad M hR => ?_)
  refine zaload_n C dX8_init_21 rfl ?_
  refine zbipush (v := 100) C dX8_init_22 (by decide) ?_
  refine znfi (j := 6) (N := 100) C hnm hR hf_X8_16 rfl rfl rfl rfl rfl rfl (by decide) (by decide) (by decide) (by omega) (by omega) dX8_init_24 dX8_init_26 (fun ad M hR => ?_)
  refine zaload_n C dX8_init_29 rfl ?_
  refine zbipush (v := 100) C dX8_init_30 (by decide) ?_
  refine znfi (j := 7) (N := 100) C hnm hR hf_X8_19 rfl rfl rfl rfl rfl rfl (by decide) (by decide) (by decide) (by omega) (by omega) dX8_init_32 dX8_init_34 (fun ad M hR => ?_)
  refine zaload_n C dX8_init_37 rfl ?_
  refine zbipush (v := 100) C dX8_init_38 (by decide) ?_
  refine znfi (j := 8) (N := 100) C hnm hR hf_X8_22 rfl rfl rfl rfl rfl rfl (by decide) (by decide) (by decide) (by omega) (by omega) dX8_init_40 dX8_init_42 (fun ad M hR => ?_)
  refine zaload_n C dX8_init_45 rfl ?_
  refine zbipush (v := 40) C dX8_init_46 (by decide) ?_
  refine znfi (j := 10) (N := 40) C hnm hR hf_X8_25 rfl rfl rfl rfl rfl rfl (by decide) (by decide) (by decide) (by omega) (by omega) dX8_init_48 dX8_init_50 (fun ad M hR => ?_)
  refine zaload_n C dX8_init_53 rfl ?_
  refine zbipush (v := 40) C dX8_init_54 (by decide) ?_
  refine znfi (j := 11) (N := 40) C hnm hR hf_X8_28 rfl rfl rfl rfl rfl rfl (by decide) (by decide) (by decide) (by omega) (by omega) dX8_init_56 dX8_init_58 (fun ad M hR => ?_)
  refine zaload_n C dX8_init_61 rfl ?_
  refine zbipush (v := 40) C dX8_init_62 (by decide) ?_
  refine znfi (j := 12) (N := 40) C hnm hR hf_X8_31 rfl rfl rfl rfl rfl rfl (by decide) (by decide) (by decide) (by omega) (by omega) dX8_init_64 dX8_init_66 (fun ad M hR => ?_)
  refine zaload_n C dX8_init_69 rfl ?_
  refine zbipush (v := 40) C dX8_init_70 (by decide) ?_
  refine znfz (j := 14) (N := 40) C hnm hR hf_X8_34 rfl rfl rfl rfl rfl rfl (by decide) (by decide) (by decide) (by omega) (by omega) dX8_init_72 dX8_init_74 (fun ad M hR => ?_)
  refine zaload_n C dX8_init_77 rfl ?_
  refine zbipush (v := 40) C dX8_init_78 (by decide) ?_
  refine znfi (j := 15) (N := 40) C hnm hR hf_X8_38 rfl rfl rfl rfl rfl rfl (by decide) (by decide) (by decide) (by omega) (by omega) dX8_init_80 dX8_init_82 (fun ad M hR => ?_)
  refine zaload_n C dX8_init_85 rfl ?_
  refine zbipush (v := 40) C dX8_init_86 (by decide) ?_
  refine znfi (j := 16) (N := 40) C hnm hR hf_X8_41 rfl rfl rfl rfl rfl rfl (by decide) (by decide) (by decide) (by omega) (by omega) dX8_init_88 dX8_init_90 (fun ad M hR => ?_)
  refine zaload_n C dX8_init_93 rfl ?_
  refine zbipush (v := 40) C dX8_init_94 (by decide) ?_
  refine znfi (j := 17) (N := 40) C hnm hR hf_X8_44 rfl rfl rfl rfl rfl rfl (by decide) (by decide) (by decide) (by omega) (by omega) dX8_init_96 dX8_init_98 (fun ad M hR => ?_)
  refine zaload_n C dX8_init_101 rfl ?_
  refine zbipush (v := 40) C dX8_init_102 (by decide) ?_
  refine znfz (j := 18) (N := 40) C hnm hR hf_X8_47 rfl rfl rfl rfl rfl rfl (by decide) (by decide) (by decide) (by omega) (by omega) dX8_init_104 dX8_init_106 (fun ad M hR => ?_)
  refine zaload_n C dX8_init_109 rfl ?_
  refine zbipush (v := 40) C dX8_init_110 (by decide) ?_
  refine znfj (j := 19) (N := 40) C hnm hR hf_X8_50 rfl rfl rfl rfl rfl rfl (by decide) (by decide) (by decide) (by omega) (by omega) dX8_init_112 dX8_init_114 (fun ad M hR => ?_)
  refine zaload_n C dX8_init_117 rfl ?_
  refine zbipush (v := 40) C dX8_init_118 (by decide) ?_
  refine znfi (j := 20) (N := 40) C hnm hR hf_X8_54 rfl rfl rfl rfl rfl rfl (by decide) (by decide) (by decide) (by omega) (by omega) dX8_init_120 dX8_init_122 (fun ad M hR => ?_)
  refine zaload_n C dX8_init_125 rfl ?_
  refine zldc C hk_X8_57 dX8_init_126 ?_
  refine znfi (j := 21) (N := 40960) C hnm hR hf_X8_58 rfl rfl rfl rfl rfl rfl (by decide) (by decide) (by decide) (by omega) (by omega) dX8_init_128 dX8_init_130 (fun ad M hR => ?_)
  refine zaload_n C dX8_init_133 rfl ?_
  refine zbipush (v := 40) C dX8_init_134 (by decide) ?_
  refine znfi (j := 22) (N := 40) C hnm hR hf_X8_61 rfl rfl rfl rfl rfl rfl (by decide) (by decide) (by decide) (by omega) (by omega) dX8_init_136 dX8_init_138 (fun ad M hR => ?_)
  refine zaload_n C dX8_init_141 rfl ?_
  refine zbipush (v := 40) C dX8_init_142 (by decide) ?_
  refine znfi (j := 23) (N := 40) C hnm hR hf_X8_64 rfl rfl rfl rfl rfl rfl (by decide) (by decide) (by decide) (by omega) (by omega) dX8_init_144 dX8_init_146 (fun ad M hR => ?_)
  refine zaload_n C dX8_init_149 rfl ?_
  refine zbipush (v := 40) C dX8_init_150 (by decide) ?_
  refine znfz (j := 24) (N := 40) C hnm hR hf_X8_67 rfl rfl rfl rfl rfl rfl (by decide) (by decide) (by decide) (by omega) (by omega) dX8_init_152 dX8_init_154 (fun ad M hR => ?_)
  refine zaload_n C dX8_init_157 rfl ?_
  refine zbipush (v := 30) C dX8_init_158 (by decide) ?_
  refine znfi (j := 26) (N := 30) C hnm hR hf_X8_70 rfl rfl rfl rfl rfl rfl (by decide) (by decide) (by decide) (by omega) (by omega) dX8_init_160 dX8_init_162 (fun ad M hR => ?_)
  refine zaload_n C dX8_init_165 rfl ?_
  refine zbipush (v := 30) C dX8_init_166 (by decide) ?_
  refine znfi (j := 27) (N := 30) C hnm hR hf_X8_73 rfl rfl rfl rfl rfl rfl (by decide) (by decide) (by decide) (by omega) (by omega) dX8_init_168 dX8_init_170 (fun ad M hR => ?_)
  refine zaload_n C dX8_init_173 rfl ?_
  refine zbipush (v := 30) C dX8_init_174 (by decide) ?_
  refine znfi (j := 28) (N := 30) C hnm hR hf_X8_76 rfl rfl rfl rfl rfl rfl (by decide) (by decide) (by decide) (by omega) (by omega) dX8_init_176 dX8_init_178 (fun ad M hR => ?_)
  refine zaload_n C dX8_init_181 rfl ?_
  refine zbipush (v := 30) C dX8_init_182 (by decide) ?_
  refine znfi (j := 29) (N := 30) C hnm hR hf_X8_79 rfl rfl rfl rfl rfl rfl (by decide) (by decide) (by decide) (by omega) (by omega) dX8_init_184 dX8_init_186 (fun ad M hR => ?_)
  refine zaload_n C dX8_init_189 rfl ?_
  refine zbipush (v := 30) C dX8_init_190 (by decide) ?_
  refine znfi (j := 30) (N := 30) C hnm hR hf_X8_82 rfl rfl rfl rfl rfl rfl (by decide) (by decide) (by decide) (by omega) (by omega) dX8_init_192 dX8_init_194 (fun ad M hR => ?_)
  refine zaload_n C dX8_init_197 rfl ?_
  refine zbipush (v := 30) C dX8_init_198 (by decide) ?_
  refine znfz (j := 31) (N := 30) C hnm hR hf_X8_85 rfl rfl rfl rfl rfl rfl (by decide) (by decide) (by decide) (by omega) (by omega) dX8_init_200 dX8_init_202 (fun ad M hR => ?_)
  refine zaload_n C dX8_init_205 rfl ?_
  refine zbipush (v := 30) C dX8_init_206 (by decide) ?_
  refine znfz (j := 32) (N := 30) C hnm hR hf_X8_88 rfl rfl rfl rfl rfl rfl (by decide) (by decide) (by decide) (by omega) (by omega) dX8_init_208 dX8_init_210 (fun ad M hR => ?_)
  refine zaload_n C dX8_init_213 rfl ?_
  refine zbipush (v := 20) C dX8_init_214 (by decide) ?_
  refine znfi (j := 34) (N := 20) C hnm hR hf_X8_91 rfl rfl rfl rfl rfl rfl (by decide) (by decide) (by decide) (by omega) (by omega) dX8_init_216 dX8_init_218 (fun ad M hR => ?_)
  refine zaload_n C dX8_init_221 rfl ?_
  refine zbipush (v := 20) C dX8_init_222 (by decide) ?_
  refine znfi (j := 35) (N := 20) C hnm hR hf_X8_94 rfl rfl rfl rfl rfl rfl (by decide) (by decide) (by decide) (by omega) (by omega) dX8_init_224 dX8_init_226 (fun ad M hR => ?_)
  refine zaload_n C dX8_init_229 rfl ?_
  refine zbipush (v := 20) C dX8_init_230 (by decide) ?_
  refine znfi (j := 36) (N := 20) C hnm hR hf_X8_97 rfl rfl rfl rfl rfl rfl (by decide) (by decide) (by decide) (by omega) (by omega) dX8_init_232 dX8_init_234 (fun ad M hR => ?_)
  refine zaload_n C dX8_init_237 rfl ?_
  refine zbipush (v := 20) C dX8_init_238 (by decide) ?_
  refine znfi (j := 37) (N := 20) C hnm hR hf_X8_100 rfl rfl rfl rfl rfl rfl (by decide) (by decide) (by decide) (by omega) (by omega) dX8_init_240 dX8_init_242 (fun ad M hR => ?_)
  refine zaload_n C dX8_init_245 rfl ?_
  refine zbipush (v := 20) C dX8_init_246 (by decide) ?_
  refine znfz (j := 38) (N := 20) C hnm hR hf_X8_103 rfl rfl rfl rfl rfl rfl (by decide) (by decide) (by decide) (by omega) (by omega) dX8_init_248 dX8_init_250 (fun ad M hR => ?_)
  refine zaload_n C dX8_init_253 rfl ?_
  refine zbipush (v := 20) C dX8_init_254 (by decide) ?_
  refine znfi (j := 39) (N := 20) C hnm hR hf_X8_106 rfl rfl rfl rfl rfl rfl (by decide) (by decide) (by decide) (by omega) (by omega) dX8_init_256 dX8_init_258 (fun ad M hR => ?_)
  refine zaload_n C dX8_init_261 rfl ?_
  refine zbipush (v := 20) C dX8_init_262 (by decide) ?_
  refine znfz (j := 40) (N := 20) C hnm hR hf_X8_109 rfl rfl rfl rfl rfl rfl (by decide) (by decide) (by decide) (by omega) (by omega) dX8_init_264 dX8_init_266 (fun ad M hR => ?_)
  refine zaload_n C dX8_init_269 rfl ?_
  refine zsipush (v := 800) C dX8_init_270 (by decide) ?_
  refine znfi (j := 41) (N := 800) C hnm hR hf_X8_112 rfl rfl rfl rfl rfl rfl (by decide) (by decide) (by decide) (by omega) (by omega) dX8_init_273 dX8_init_275 (fun ad M hR => ?_)
  refine zaload_n C dX8_init_278 rfl ?_
  refine zbipush (v := 20) C dX8_init_279 (by decide) ?_
  refine znfj (j := 42) (N := 20) C hnm hR hf_X8_115 rfl rfl rfl rfl rfl rfl (by decide) (by decide) (by decide) (by omega) (by omega) dX8_init_281 dX8_init_283 (fun ad M hR => ?_)
  refine zaload_n C dX8_init_286 rfl ?_
  refine zbipush (v := 20) C dX8_init_287 (by decide) ?_
  refine znfj (j := 43) (N := 20) C hnm hR hf_X8_118 rfl rfl rfl rfl rfl rfl (by decide) (by decide) (by decide) (by omega) (by omega) dX8_init_289 dX8_init_291 (fun ad M hR => ?_)
  refine zaload_n C dX8_init_294 rfl ?_
  refine zbipush (v := 20) C dX8_init_295 (by decide) ?_
  refine znfi (j := 44) (N := 20) C hnm hR hf_X8_121 rfl rfl rfl rfl rfl rfl (by decide) (by decide) (by decide) (by omega) (by omega) dX8_init_297 dX8_init_299 (fun ad M hR => ?_)
  refine zaload_n C dX8_init_302 rfl ?_
  refine zbipush (v := 20) C dX8_init_303 (by decide) ?_
  refine znfz (j := 45) (N := 20) C hnm hR hf_X8_124 rfl rfl rfl rfl rfl rfl (by decide) (by decide) (by decide) (by omega) (by omega) dX8_init_305 dX8_init_307 (fun ad M hR => ?_)
  refine zaload_n C dX8_init_310 rfl ?_
  refine zbipush (v := 40) C dX8_init_311 (by decide) ?_
  refine znfz (j := 47) (N := 40) C hnm hR hf_X8_127 rfl rfl rfl rfl rfl rfl (by decide) (by decide) (by decide) (by omega) (by omega) dX8_init_313 dX8_init_315 (fun ad M hR => ?_)
  exact zend_v C hE dX8_init_318 (by omega) (by omega) ⟨_, zRi_end hR, hR.2.2.2.2⟩
