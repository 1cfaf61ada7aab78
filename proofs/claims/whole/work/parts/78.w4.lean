set_option maxRecDepth 100000 in
set_option maxHeartbeats 1000000 in
theorem K_passX {g : zGh} {K : zK} {X : zg → Option va_E} {ad : zg → Nat} {M : zM} (d : Int32) (hp : zP g K X ad M) (hi : iK K) (hx0 : ¬ x_pass K d = 0) : zCt g yX7_pass cX7_pass 3 (some .int) 7 153 mkI [.ref (ad (0, 0)), .int d] M 8 48 (fun v M1 => False) (fun E M1 => thr E (x_pass K d) ∧ M1 = M) := by
  refine zof [some (.ref (ad (0, 0))), some (.int d), none] (by decide +kernel) rfl rfl (Nat.le_of_ble_eq_true rfl) ?_
  intro Z C hE hnm
  have C : zC g Z RX7 cX7_pass 3 7 153 8 48 := C
  obtain ⟨⟨hb1, h2, h4, h9, h13, h25, h33⟩, ⟨hch, hf⟩, ⟨hma, hsu, hpa⟩, hwp, hwi, hsc⟩ := hi
  have hw64 : ∀ s, (kws K s).1 ≤ 64 := fun s => Nat.le_trans (hwi s) (by decide)
  refine ziload_n C dX7_pass_0 rfl ?_
  refine zconst (v := 1) C dX7_pass_1 (by decide) ?_
  refine zsipush (v := 2000) C dX7_pass_2 (by decide) ?_
  refine zcallSX C (k_needWithin _ _ _) hy_X7_needWithin hst_X7_needWithin hl_X7_102 rfl rfl (by decide) (by decide) (by omega) (by omega) rfl (by exact Nat.le_of_ble_eq_true rfl) dX7_pass_5 (fun E M1 hx => zout C hE (by omega) (by omega) (by obtain ⟨e, hz, hm⟩ := hx; subst e; subst hm; exact ⟨thr2 (by simp [x_pass, hz]), rfl⟩)) (fun v5 M hp5 => ?_)
  obtain ⟨w5, rfl⟩ := hp5
  obtain ⟨dn, hd1, hd2, rfl⟩ := days_of w5
  have edn : (nI dn).toNatClampNeg = dn := nI_clamp (by omega)
  refine ziload_n C dX7_pass_8 rfl ?_
  refine zsipush (v := 30000) C dX7_pass_9 (by decide) ?_
  refine zaload_n C dX7_pass_12 rfl ?_
  refine zget C hf_X7_51 hp.main (by rfl) dX7_pass_13 ?_
  refine zisub C dX7_pass_16 ?_
  refine zicmp_le (tgt := 31) C dX7_pass_17 (by decide) (fun h17 => ?_) (fun h17 => ?_)
  · exact absurd (by rw [x_pass, w5, decide_eq_true h17]; rfl) hx0
  · exact zthrowW C hE ht_X7_388_66 rfl (by decide) (by exact Nat.le_of_ble_eq_true rfl) (by omega) (by omega) dX7_pass_20 dX7_pass_23 dX7_pass_24 dX7_pass_27 dX7_pass_30 ⟨thr3 (by rw [x_pass, w5, decide_eq_false h17]; rfl), rfl⟩
set_option maxRecDepth 100000 in
theorem v_passX {g : zGh} {mo : Nat} {mad : Nat → Nat} {o x : Nat} {K : zK} {S : zS} {f : Nat → Int64} {ad : zg → Nat} {M : zM} (a0 : Int32) (hL : zLw g mo mad o x K S f ad M) (hok : zOK K S) (hx0 : ¬ x_pass K a0 = 0) : zCw g yL_pass cL_pass 4 [(0, 9, 12, 25), (0, 9, 15, 13)] 8 175 [.ref x, .int a0, .ref o] M 8 48 (zPst g mo mad o x S M (x_pass K a0) [2, 3] (psK K a0.toNatClampNeg) ((nI (K.1 1 + a0.toNatClampNeg)).toInt64)) := by
  obtain ⟨hp, h14, h15, h16, rfl⟩ := hL
  have h0 := K_passX a0 hp hok.1.1 hx0
  refine zCw.post (w_pass (f := f) (o := o) h0 hp.main ?_ ?_) ?_
  · intro v M1 hP
    exact hP.elim
  · intro E M1 hE
    obtain ⟨⟨h, rfl⟩ | ⟨h, rfl⟩ | ⟨h, rfl⟩, -⟩ := hE
    · exact absurd h (by unfold x_pass; (repeat' split) <;> simp)
    · exact Or.inl rfl
    · exact Or.inr rfl
  · intro w M2 hw
    rcases hw with ⟨rfl, v, M1, hP, rfl⟩ | ⟨rfl, hE, rfl⟩ | ⟨rfl, hE, rfl⟩
    · exact hP.elim
    · exact Or.inr ⟨0, 2, rfl, by decide, rfl, thrE2 hE, rfl⟩
    · exact Or.inr ⟨1, 3, rfl, by decide, rfl, thrE3 hE, rfl⟩
