/-- a list: it never held anything, or its row is its own; a row's length is one of those that a list grows through -/
def zLq (g : zGh) (M : zM) (a len : Nat) (f : Nat → Option Nat) : Prop :=
  (len = 0 ∧ ∃ mc, M a = some (zob 0 [.int mc, .ref (g.2.2.2.1 4), .int 0])) ∨ ∃ ea cap mc, zLst g M a ea cap len f mc ∧ (cap = 10 ∨ cap = 15 ∨ cap = 22 ∨ cap = 33 ∨ cap = 49)
theorem zLq.obj {g : zGh} {M : zM} {a len : Nat} {f : Nat → Option Nat} (h : zLq g M a len f) : ∃ mc w, M a = some (zob 0 [.int mc, w, .int (nI len)]) := by
  rcases h with ⟨rfl, mc, h⟩ | ⟨ea, cap, mc, h, _⟩
  · exact ⟨mc, _, h⟩
  · exact ⟨mc, _, h.1⟩
theorem zLq.own {g : zGh} {M : zM} {a len j : Nat} {f : Nat → Option Nat} (h : zLq g M a len f) (hj : j < len) : ∃ ea cap mc, zLst g M a ea cap len f mc := by
  rcases h with ⟨rfl, mc, h⟩ | ⟨ea, cap, mc, h, _⟩
  · exact absurd hj (by omega)
  · exact ⟨ea, cap, mc, h⟩
theorem q_size {g : zGh} {M : zM} {a len : Nat} {f : Nat → Option Nat} (h : zLq g M a len f) : zCt g yJx4a65c_size_8abf5 cJx4a65c_size_8abf5 1 (some .int) 0 0 mkI [.ref a] M 0 0 (fun v M1 => v = nI len ∧ M1 = M) noX := by
  obtain ⟨mc, w, hA⟩ := h.obj
  exact l_size hA
theorem q_get {g : zGh} {M : zM} {a len : Nat} {f : Nat → Option Nat} (j : Nat) (h : zLq g M a len f) (hj : j < len) : zCt g yJx4a65c_get_915e3 cJx4a65c_get_915e3 2 (some (.object "java/lang/Object")) 2 43 (fun r => some (va_rf r)) [.ref a, .int (nI j)] M 0 0 (fun v M1 => v = f j ∧ M1 = M) noX := by
  obtain ⟨ea, cap, mc, hl⟩ := h.own hj
  exact l_get j hl hj
/-- what a list of witnesses holds -/
def zWit (M : zM) (n : Nat) (f : Nat → Option Nat) (wp : Nat → Nat) (wf : Nat → Int32) : Prop := ∀ i, i < n → ∃ y, f i = some y ∧ M y = some (zob 7 [.ref (wp i), .int (wf i)])
def hrd (wp : Nat → Nat) (q : Nat) : Nat → Bool
  | 0 => false
  | k + 1 => hrd wp q k || decide (wp k = q)
theorem hrd_mono {wp : Nat → Nat} {q i : Nat} (h : hrd wp q i = true) : ∀ r, hrd wp q (i + r) = true
  | 0 => h
  | r + 1 => by
    show (hrd wp q (i + r) || _) = true
    rw [hrd_mono h r]
    rfl
set_option maxRecDepth 100000 in
set_option maxHeartbeats 1000000 in
theorem s_hasHeard {g : zGh} {M : zM} {a : Nat} {p d wl : Nat} {court cents status can owed judged app : Int32} {len : Nat} {f : Nat → Option Nat} {wp : Nat → Nat} {wf : Nat → Int32} (q : Nat) (hA : M a = some (zob 6 (suiF p d court cents wl status can owed judged app))) (hl : zLq g M wl len f) (hlen : len < 2 ^ 30) (hw : zWit M len f wp wf) : zCt g yX5_hasHeard cX5_hasHeard 3 (some .boolean) 3 64 mkI [.ref a, .ref q] M 0 0 (fun v M1 => v = b2i (hrd wp q len) ∧ M1 = M) noX := by
  refine zof [some (.ref a), some (.ref q), none] (by decide +kernel) rfl rfl (Nat.le_of_ble_eq_true rfl) ?_
  intro X C hE hnm
  have C : zC g X RX5 cX5_hasHeard 3 3 64 0 0 := C
  obtain ⟨mc2, w2, hA2⟩ := hl.obj
  have loop : ∀ (r i : Nat), i + r = len → hrd wp q i = false → zG g X M 0 0 2 [some (.ref a), some (.ref q), some (.int (nI i))] [] := by
    intro r
    induction r with
    | zero =>
      intro i hi hf
      refine ziload_n C dX5_hasHeard_2 rfl ?_
      refine zaload_n C dX5_hasHeard_3 rfl ?_
      refine zget C hf_X5_12 hA (by rfl) dX5_hasHeard_4 ?_
      refine zcallV C (q_size hl) hy_Jx4a65c_size_8abf5 hv_Jx4a65c_size_8abf5 hl_X5_53 hA2 rfl rfl rfl rfl (by decide) (by decide) (by omega) (by omega) rfl (by exact Nat.le_of_ble_eq_true rfl) dX5_hasHeard_7 (fun v7 M hp7 => ?_)
      obtain ⟨rfl, rfl⟩ := hp7
      refine zicmp_ge (tgt := 39) C dX5_hasHeard_10 (by decide) (fun h10 => ?_) (fun h10 => by first | exact absurd (nI_le (by omega) (by omega)) h10 | exact absurd h10 (nI_le (by omega) (by omega)))
      refine zconst (v := 0) C dX5_hasHeard_39 (by decide) ?_
      exact zend_z C hE dX5_hasHeard_40 (by omega) (by omega) (by first | exact Or.inl rfl | exact Or.inr rfl | exact b2i_b _) ⟨by rw [show len = i by omega, hf]; rfl, rfl⟩
    | succ r ih =>
      intro i hi hf
      obtain ⟨y, hy1, hy2⟩ := hw i (by omega)
      refine ziload_n C dX5_hasHeard_2 rfl ?_
      refine zaload_n C dX5_hasHeard_3 rfl ?_
      refine zget C hf_X5_12 hA (by rfl) dX5_hasHeard_4 ?_
      refine zcallV C (q_size hl) hy_Jx4a65c_size_8abf5 hv_Jx4a65c_size_8abf5 hl_X5_53 hA2 rfl rfl rfl rfl (by decide) (by decide) (by omega) (by omega) rfl (by exact Nat.le_of_ble_eq_true rfl) dX5_hasHeard_7 (fun v7 M hp7 => ?_)
      obtain ⟨rfl, rfl⟩ := hp7
      refine zicmp_ge (tgt := 39) C dX5_hasHeard_10 (by decide) (fun h10 => by first | exact absurd h10 (nI_ge (by omega) (by omega)) | exact absurd (nI_ge (by omega) (by omega)) h10) (fun h10 => ?_)
      refine zaload_n C dX5_hasHeard_13 rfl ?_
      refine zget C hf_X5_12 hA (by rfl) dX5_hasHeard_14 ?_
      refine ziload_n C dX5_hasHeard_17 rfl ?_
      refine zcallV C (q_get i hl (by omega)) hy_Jx4a65c_get_915e3 hv_Jx4a65c_get_915e3 hl_X5_57 hA2 rfl rfl rfl rfl (by decide) (by decide) (by omega) (by omega) rfl (by exact Nat.le_of_ble_eq_true rfl) dX5_hasHeard_18 (fun v18 M hp18 => ?_)
      obtain ⟨rfl, rfl⟩ := hp18
      rw [hy1]
      refine zcastS C hy2 rfl hc_X5_61 dX5_hasHeard_21 ?_
      refine zget C hf_X5_63 hy2 (by rfl) dX5_hasHeard_24 ?_
      refine zaload_n C dX5_hasHeard_27 rfl ?_
      refine zacmp_ne (tgt := 33) C dX5_hasHeard_28 (by decide) (show va_rf (some (wp i)) = _ from rfl) (show va_rf (some q) = _ from rfl) (fun h28 => ?_) (fun h28 => ?_)
      · replace h28 : ¬ wp i = q := fun e => h28 (congrArg some e)
        refine ziinc (L1 := [_, _, _]) (v := nI (i + 1)) C dX5_hasHeard_33 rfl (nI_1 i) rfl ?_
        refine zgoto (tgt := 2) C dX5_hasHeard_36 (by decide) ?_
        exact ih (i + 1) (by omega) (by simp [hrd, hf, h28])
      · replace h28 := Option.some.inj h28
        refine zconst (v := 1) C dX5_hasHeard_31 (by decide) ?_
        exact zend_z C hE dX5_hasHeard_32 (by omega) (by omega) (by first | exact Or.inl rfl | exact Or.inr rfl | exact b2i_b _) ⟨by rw [show len = (i + 1) + r by omega, hrd_mono (i := i + 1) (by simp [hrd, h28]) r]; rfl, rfl⟩
  refine zconst (v := 0) C dX5_hasHeard_0 (by decide) ?_
  refine zistore_n (L1 := [_, _, _]) C dX5_hasHeard_1 rfl (Nat.le_of_ble_eq_true rfl) ?_
  exact zcg (loop len 0 (by omega) rfl) (by simp [zk1, nI_0])
