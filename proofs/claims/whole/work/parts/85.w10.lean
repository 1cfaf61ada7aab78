/-! the law from its entry: for any tie that does what zPack asks -/
section ZLE
variable {p : Program} {e : Env} {s : State} {m : MethodId} {below : List Frame} {meth : Method} {c : Code} {l : Launch} {b : Nat} {g : zGh}
abbrev zXl (p : Program) (e : Env) (s : State) (m : MethodId) (b : Nat) (below : List Frame) (meth : Method) (c : Code) : zX := ((p, e, room_1, s), (m, #[Value.ref b], below, meth, c), lw_Z below #[Value.ref b] s)
theorem zend_law (hg1 : g.1 = s.heap.size) (hx : p.tables.exec = Jvm.exec) (hb : c.code = code) (hr : meth.sig.returnType = ret) (hlocks : meth.locks = false) {M : zM} {k n : Nat} {L : List (Option Value)} (hk : k ≤ 711863) (hn : n ≤ 6960515) : zG g (zXl p e s m b below meth c) M k n 2033 L [.int 1] := by
  intro H locs ls hH hS hL
  refine va_forget (fun q hq => by have := hS.2.2 q hq; rwa [zA, hg1] at this) ?_
  refine W.widen (k := 711863) (n := 6960515) hk hn ?_
  exact lw_ret hx hb hr hlocks dL_law__2033
end ZLE
set_option maxRecDepth 100000 in
set_option maxHeartbeats 4000000 in
theorem whole_start0 (T : Nat → zK → zS → Prop) (hP : zPack T) {p : Program} {e : Env} {s : State} {m : MethodId} {below : List Frame} {meth : Method} {c : Code} (l : Launch) (hflags : l.flags = flags0) {b L : Nat} {xs : Nat → Int32} (hL : L ≤ 2560) (C0 : lw_At p s m meth c b L xs) : W p l e room_1 s m #[Value.ref b] below meth c s.heap [] 0 0 (lw_Z below #[Value.ref b] s) (entryFrame m ([Value.ref b] : List Value).toArray 8) := by
  obtain ⟨hx, hb, hr, hml, hown, hts, hX, hbl, hlocks, hgv⟩ := id C0
  obtain ⟨g, hg1, hg2, hTS, hN⟩ := zstart (l := l) (by unfold Launch.stackTraces; rw [hflags]; decide +kernel) hts hgv
  subst hg2
  have hbA : ¬ zA g b := by rw [zA, hg1]; exact Nat.not_le.mpr hbl
  have C : zC g (zXl p e s m b below meth c) RL cL_law_ 8 12 454 711863 6960515 := ⟨hx, hb, hml, hown, fun w hw => hts w (zGWt hw), hTS, hlocks, Nat.le_of_eq hg1, rfl, rfl, rfl, rfl⟩
  rw [lg_entry_eq]
  have hM0 : zH vwCl g (fun _ => none) s.heap := ⟨[], fun k q h => by simp at h, ⟨fun i j p q h => by simp at h, fun k q h => by simp at h⟩, fun a e => by simp⟩
  suffices K : zG g (zXl p e s m b below meth c) (fun _ => none) 0 0 0 [some (.ref b), none, none, none, none, none, none, none] [] from K s.heap [] _ hM0 va_S.rf (lv_entry [.ref b] (n := 8) (Nat.le_of_ble_eq_true rfl))
  clear hM0
  refine znew C hw_L_8 rfl (by decide) (by decide) dL_law__0 (fun x hx0 => ?_)
  refine zdup C dL_law__3 rfl ?_
  refine zcallI C (k_init zup_same) hy_X7_init hi_X7_init hl_L_102 rfl rfl (by decide) (by decide) (by decide) (by decide) rfl (by exact Nat.le_of_ble_eq_true rfl) dL_law__4 (fun M2 hp => ?_)
  obtain ⟨ad, hp2, hadx⟩ := hp
  refine zastore_n (L1 := [_, _, _, _, _, _, _, _]) C dL_law__7 rfl (Nat.le_of_ble_eq_true rfl) ?_
  refine znew C hw_L_103 rfl (by decide) (by decide) dL_law__8 (fun mo hmo => ?_)
  refine zdup C dL_law__11 rfl ?_
  refine zcallI C (m_init8 zup_same) hy_X8_init hi_X8_init hl_L_105 rfl rfl (by decide) (by decide) (by decide) (by decide) rfl (by exact Nat.le_of_ble_eq_true rfl) dL_law__12 (fun M4 hp => ?_)
  obtain ⟨mad, hR, hfr⟩ := hp
  refine zastore_n (L1 := [_, _, _, _, _, _, _, _]) C dL_law__15 rfl (Nat.le_of_ble_eq_true rfl) ?_
  refine zconst (v := 1) C dL_law__16 (by decide) ?_
  refine znewj C ha_long (by decide) rfl (by decide) (by decide) (by decide) dL_law__17 (fun o ho => ?_)
  obtain ⟨ad1, hL1⟩ := zLw0 hp2 hadx hmo hR hfr ho
  refine zastore_n (L1 := [_, _, _, _, _, _, _, _]) C dL_law__19 rfl (Nat.le_of_ble_eq_true rfl) ?_
  refine zconst (v := 0) C dL_law__20 (by decide) ?_
  refine zistore (L1 := [_, _, _, _, _, _, _, _]) C dL_law__21 rfl (Nat.le_of_ble_eq_true rfl) ?_
  refine zcg (L1 := [some (.ref b), some (.ref x), some (.ref mo), some (.ref o), some (.int (nI (5 * 0))), none, none, none]) (lw_loop C hN hX hbl hbA hL T hP (fun M k m L h1 h2 => zend_law hg1 hx hb hr hlocks h1 h2) (L / 5) 0 (by omega) _ _ _ ⟨K0, zS0, _, ad1, hL1, hP.1, ?_, ?_⟩) rfl rfl
  · exact Nat.le_trans (by decide) (Nat.le_add_right 100 _)
  · exact Nat.le_trans (by decide) (Nat.le_add_right 50000 _)
