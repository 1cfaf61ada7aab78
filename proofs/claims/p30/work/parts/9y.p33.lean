/-! every call keeps the tie; the start -/
theorem tie2_0 : tie2 0 K0 zS0 := by
  refine ⟨tie_0, ⟨fun m hm => absurd hm (Nat.not_lt_zero _), fun m m' hm => absurd hm (Nat.not_lt_zero _)⟩, fun l hl i hi => ?_⟩
  have hl : l ≤ 0 := hl
  have hi : i ≤ 0 := hi
  obtain rfl : l = 0 := by omega
  obtain rfl : i = 0 := by omega
  exact ⟨25, by decide, rfl⟩
theorem tie_pack : zPack tie2 :=
  ⟨tie2_0, fun _ _ _ h => h.1.ok, fun _ _ _ h hn => ⟨h.1.up hn, h.2⟩,
  fun _ _ _ h hn => lc2 h (p_community h.1 hn) (fun _ => iv_com h),
  fun _ _ _ h hn c on => lc2 h (p_recognise h.1 hn c on) (fun _ => inv_same h (s2_rec _ _ _)),
  fun _ _ _ h hn c w x => lc2 h (p_decree h.1 hn c w x) (fun hx => iv_decree h c w x hx),
  fun _ _ _ h hn m r => lc2 h (p_rule h.1 hn m r) (fun hx => iv_rule h m r hx),
  fun _ _ _ h hn c w d => lc2 h (p_law h.1 hn c w d) (fun _ => h.2),
  fun _ _ _ h hn m p q d => lc2 h (p_court h.1 hn m p q d) (fun _ => h.2),
  fun _ _ _ h hn man mo fa f => lc2 h (p_person h.1 hn man mo fa f) (fun _ => iv_person h man mo fa f),
  fun _ _ _ h hn p c a b => lc2 h (p_turn h.1 hn p c a b) (fun _ => inv_same h (s2_spe rfl)),
  fun _ _ _ h hn p => lc2 h (p_recant h.1 hn p) (fun _ => inv_same h (s2_spe rfl)),
  fun _ _ _ h hn p d => lc2 h (p_faith h.1 hn p d) (fun _ => h.2),
  fun _ _ _ h hn a w d => lc2 h (p_marry h.1 hn a w d) (fun hx => iv_marry h a w d hx),
  fun _ _ _ h hn m b => lc2 h (p_divorce h.1 hn m b) (fun _ => iv_divorce h m b),
  fun _ _ _ h hn p x => lc2 h (p_goods h.1 hn p x) (fun _ => inv_same h (s2_spe rfl)),
  fun _ _ _ h hn p => lc2 h (p_dies0 h.1 h.2.1 h.2.2 hn p) (fun hx => iv_dies h p hx),
  fun _ _ _ h hn p q c x => lc2 h (p_sue h.1 hn p q c x) (fun _ => inv_same h ⟨rfl, rfl, rfl, fun _ _ => rfl, fun _ _ => rfl⟩),
  fun _ _ _ h hn s => lc2 h (p_appear h.1 hn s) (fun _ => inv_same h s2_su),
  fun _ _ _ h hn s p f => lc2 h (p_testify h.1 hn s p f) (fun _ => inv_same h ⟨rfl, rfl, rfl, fun _ _ => rfl, fun _ _ => rfl⟩),
  fun _ _ _ h hn s => lc2 h (p_judge h.1 hn s) (fun _ => inv_same h (s2_judge _ _)),
  fun _ _ _ h hn s => lc2 h (p_appeal h.1 hn s) (fun _ => inv_same h (s2_appeal _ _)),
  fun _ _ _ h hn s => lc2 h (p_execute h.1 hn s) (fun _ => inv_same h (s2_exec _ _)),
  fun _ _ _ h hn s c => lc2 h (p_wins h.1 hn s c) (fun _ => h.2),
  fun _ _ _ h hn p w => lc2 h (p_ofPerson h.1 hn p w) (fun _ => h.2),
  fun _ _ _ h hn m w => lc2 h (p_ofMarriage h.1 hn m w) (fun _ => h.2),
  fun _ _ _ h hn s w => lc2 h (p_ofSuit h.1 hn s w) (fun _ => h.2),
  fun _ _ _ h hn => ⟨(p_treasury h.1 hn).1, (p_treasury h.1 hn).2, h.2⟩,
  fun _ _ _ h hn => ⟨(p_all h.1 hn).1, (p_all h.1 hn).2, h.2⟩,
  fun _ _ _ h hn d => lc2 h (p_pass h.1 hn d) (fun _ => inv_same h (s2_pass _ _))⟩
