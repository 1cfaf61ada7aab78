/-- a row of chronicles while it is filled: the first i stand -/
def zCF (g : zGh) (M0 M : zM) (r N i : Nat) (f : Nat → Int32) (cq dq nq : Nat → Nat) : Prop :=
  M r = some (zac g N (fun j => if j < i then some (cq j) else none)) ∧ (∀ j, j < i → zChr g M (cq j) (dq j) (nq j) 2 0 (upd (fun _ => 0) 0 0) (upd (fun _ => 0) 0 (f j))) ∧ M0 r = none ∧ (∀ j, j < i → M0 (cq j) = none ∧ M0 (dq j) = none ∧ M0 (nq j) = none) ∧
  (∀ j l, j < i → l < i → j ≠ l → cq j ≠ cq l ∧ dq j ≠ dq l ∧ nq j ≠ nq l ∧ dq j ≠ nq l) ∧ ∀ x e, M0 x = some e → M x = some e
theorem zob_ac {g : zGh} {M : zM} {a d ci N : Nat} {fs : List Value} {f : Nat → Option Nat} (h1 : M a = some (zob ci fs)) (h2 : M d = some (zac g N f)) : a ≠ d := fun e => by
  rw [e, h2] at h1
  simp [zac, zob] at h1
theorem zai_ac {g : zGh} {M : zM} {a d N K : Nat} {h : Nat → Int32} {f : Nat → Option Nat} (h1 : M a = some (zai g K h)) (h2 : M d = some (zac g N f)) : a ≠ d := fun e => by
  rw [e, h2] at h1
  simp [zac, zai] at h1
theorem zChr.upC {g : zGh} {M : zM} {q d n cap k r N : Nat} {fd fn : Nat → Int32} {f : Nat → Option Nat} {e : va_E} (h : zChr g M q d n cap k fd fn) (hr : M r = some (zac g N f)) : zChr g (zup M r e) q d n cap k fd fn := by
  have h1 := zob_ac h.1 hr
  have h2 := zai_ac h.2.1 hr
  have h3 := zai_ac h.2.2.1 hr
  refine h.keep fun x e hx hc => ?_
  rw [zup_ne]
  · exact hx
  · rcases hc with rfl | rfl | rfl
    · exact h1
    · exact h2
    · exact h3
theorem zCF_step {g : zGh} {M0 M M1 : zM} {r N i q d1 n1 : Nat} {f : Nat → Int32} {cq dq nq : Nat → Nat} (h : zCF g M0 M r N i f cq dq nq) (hq : M q = none) (z1 : zup M q (zob 1 [.null, .null, .int 0]) d1 = none) (z2 : zup M q (zob 1 [.null, .null, .int 0]) n1 = none)
    (z3 : zChr g M1 q d1 n1 2 0 (upd (fun _ => 0) 0 0) (upd (fun _ => 0) 0 (f i))) (z4 : ∀ x e, zup M q (zob 1 [.null, .null, .int 0]) x = some e → x ≠ q → M1 x = some e) :
    M1 r = some (zac g N (fun j => if j < i then some (cq j) else none)) ∧ zCF g M0 (zup M1 r (zac g N (va_up (fun j => if j < i then some (cq j) else none) i (some q)))) r N (i + 1) f (va_up cq i q) (va_up dq i d1) (va_up nq i n1) := by
  obtain ⟨h1, h2, h3, h4, h5, h6⟩ := h
  have m1 : ∀ x e, M x = some e → M1 x = some e := fun x e hx => z4 x e (by rw [zup_ne (znone hx hq)]; exact hx) (znone hx hq)
  have hr := m1 _ _ h1
  have zd := znoneU z1
  have zn := znoneU z2
  have u : ∀ (c : Nat → Nat) (v j : Nat), j ≠ i → va_up c i v j = c j := fun c v j hj => by simp [va_up, hj]
  have us : ∀ (c : Nat → Nat) (v : Nat), va_up c i v i = v := fun c v => by simp [va_up]
  have m0 : ∀ x, M x = none → M0 x = none := fun x hx => by
    cases e : M0 x with
    | none => rfl
    | some y => rw [h6 x y e] at hx; cases hx
  refine ⟨hr, ?_, fun j hj => ?_, h3, fun j hj => ?_, fun j l hj hl hjl => ?_, fun x e hx => ?_⟩
  · rw [zup_same]
    congr 2
    funext j
    by_cases e : j = i
    · subst e
      simp [va_up]
    · by_cases e2 : j < i
      · simp [va_up, e, e2, show j < i + 1 by omega]
      · simp [va_up, e, e2, show ¬ j < i + 1 by omega]
  · by_cases e : j = i
    · subst e
      rw [us, us, us]
      exact z3.upC hr
    · rw [u _ _ _ e, u _ _ _ e, u _ _ _ e]
      exact ((h2 j (by omega)).keep fun x e hx _ => m1 x e hx).upC hr
  · by_cases e : j = i
    · subst e
      rw [us, us, us]
      exact ⟨m0 _ hq, m0 _ zd, m0 _ zn⟩
    · rw [u _ _ _ e, u _ _ _ e, u _ _ _ e]
      exact h4 j (by omega)
  · by_cases ej : j = i
    · subst ej
      have el : l ≠ j := fun e => hjl e.symm
      have hc := h2 l (by omega)
      rw [us, us, us, u _ _ _ el, u _ _ _ el, u _ _ _ el]
      exact ⟨(znone hc.1 hq).symm, (znone hc.2.1 zd).symm, (znone hc.2.2.1 zn).symm, (znone hc.2.2.1 zd).symm⟩
    · by_cases el : l = i
      · subst el
        have hc := h2 j (by omega)
        rw [us, us, us, u _ _ _ ej, u _ _ _ ej, u _ _ _ ej]
        exact ⟨znone hc.1 hq, znone hc.2.1 zd, znone hc.2.2.1 zn, znone hc.2.1 zn⟩
      · rw [u _ _ _ ej, u _ _ _ ej, u _ _ _ ej, u _ _ _ el, u _ _ _ el, u _ _ _ el]
        exact h5 j l (by omega) (by omega) hjl
  · have hx1 := m1 x e (h6 x e hx)
    rw [zup_ne (fun e2 => by rw [e2, h3] at hx; cases hx)]
    exact hx1
set_option maxRecDepth 100000 in
set_option maxHeartbeats 1000000 in
theorem c_fromL {g : zGh} {M : zM}   : zCt g yX7_chroniclesFrom cX7_chroniclesFrom 3 (some (.array (.object "Milletcourt$Chronicle"))) 2 42 mkR [.ref (g.2.2.2.1 0)] M 22 56 (fun v M1 => ∃ cq dq nq, zCF g M M1 v 7 7 zLF cq dq nq) noX := by
  refine zof [some (.ref (g.2.2.2.1 0)), none, none] (by decide +kernel) rfl rfl (Nat.le_of_ble_eq_true rfl) ?_
  intro X C hE hnm
  have C : zC g X RX7 cX7_chroniclesFrom 3 2 42 22 56 := C
  have loop : ∀ (s i r : Nat), i + s = 7 → ∀ M1 cq dq nq, zCF g M M1 r 7 i zLF cq dq nq → zG g X M1 (1 + 3 * i) (7 + 7 * i) 8 [some (.ref (g.2.2.2.1 0)), some (.ref r), some (.int (nI i))] [] := by
    intro s
    induction s with
    | zero =>
      intro i r hi M1 cq dq nq hF
      refine ziload_n C dX7_chroniclesFrom_8 rfl ?_
      refine zaload_n C dX7_chroniclesFrom_9 rfl ?_
      refine zsalen (v := nI 7) C C.2.2.2.2.2.1.2.2.1.2.1.1.2 rfl dX7_chroniclesFrom_10 ?_
      refine zicmp_ge (tgt := 34) C dX7_chroniclesFrom_11 (by decide) (fun h11 => ?_) (fun h11 => by first | exact absurd (nI_le (by omega) (by omega)) h11 | exact absurd h11 (nI_le (by omega) (by omega)))
      refine zaload_n C dX7_chroniclesFrom_34 rfl ?_
      exact zend_r C hE (Or.inr ⟨_, rfl⟩) dX7_chroniclesFrom_35 (by omega) (by omega) ⟨cq, dq, nq, by rw [show 7 = i by omega]; rw [show i = 7 by omega] at hF ⊢; exact hF⟩
    | succ s ih =>
      intro i r hi M1 cq dq nq hF
      refine ziload_n C dX7_chroniclesFrom_8 rfl ?_
      refine zaload_n C dX7_chroniclesFrom_9 rfl ?_
      refine zsalen (v := nI 7) C C.2.2.2.2.2.1.2.2.1.2.1.1.2 rfl dX7_chroniclesFrom_10 ?_
      refine zicmp_ge (tgt := 34) C dX7_chroniclesFrom_11 (by decide) (fun h11 => by first | exact absurd h11 (nI_ge (by omega) (by omega)) | exact absurd (nI_ge (by omega) (by omega)) h11) (fun h11 => ?_)
      refine zaload_n C dX7_chroniclesFrom_14 rfl ?_
      refine ziload_n C dX7_chroniclesFrom_15 rfl ?_
      refine znew C hw_X7_87 rfl (by omega) (by omega) dX7_chroniclesFrom_16 (fun q hq => ?_)
      refine zdup C dX7_chroniclesFrom_19 rfl ?_
      refine zconst (v := 0) C dX7_chroniclesFrom_20 (by decide) ?_
      refine zaload_n C dX7_chroniclesFrom_21 rfl ?_
      refine ziload_n C dX7_chroniclesFrom_22 rfl ?_
      refine zsald C C.2.2.2.2.2.1.2.2.1.2.1.1.2 (vp_in_nI (by omega) (by omega)) dX7_chroniclesFrom_23 ?_
      rw [nI_clamp (by omega)]
      refine zcallI C (c_init 0 (zLF i) zup_same) hy_X0_init hi_X0_init hl_X7_411 rfl rfl (by decide) (by decide) (by omega) (by omega) rfl (by exact Nat.le_of_ble_eq_true rfl) dX7_chroniclesFrom_24 (fun M2 hp => ?_)
      obtain ⟨d1, n1, z1, z2, z3, z4⟩ := hp
      obtain ⟨hr, hF1⟩ := zCF_step hF hq z1 z2 z3 z4
      refine zrcast (i0 := i) C hr z3.1 rfl (by omega) (by omega) dX7_chroniclesFrom_27 ?_
      refine ziinc (L1 := [_, _, _]) (v := nI (i + 1)) C dX7_chroniclesFrom_28 rfl (nI_1 i) rfl ?_
      refine zgoto (tgt := 8) C dX7_chroniclesFrom_31 (by decide) ?_
      exact zwid (by omega) (by omega) (ih (i + 1) r (by omega) _ _ _ _ hF1)
  refine zaload_n C dX7_chroniclesFrom_0 rfl ?_
  refine zsalen (v := nI 7) C C.2.2.2.2.2.1.2.2.1.2.1.1.2 rfl dX7_chroniclesFrom_1 ?_
  refine znewC (N := 7) C hc_X7_87 (by decide) rfl (by decide) (by omega) (by omega) dX7_chroniclesFrom_2 (fun r hr0 => ?_)
  refine zastore_n (L1 := [_, _, _]) C dX7_chroniclesFrom_5 rfl (Nat.le_of_ble_eq_true rfl) ?_
  refine zconst (v := 0) C dX7_chroniclesFrom_6 (by decide) ?_
  refine zistore_n (L1 := [_, _, _]) C dX7_chroniclesFrom_7 rfl (Nat.le_of_ble_eq_true rfl) ?_
  exact zcg (zwid (by omega) (by omega) (loop 7 0 r (by omega) _ (fun _ => 0) (fun _ => 0) (fun _ => 0) ⟨by rw [zup_same]; rfl, fun j hj => absurd hj (by omega), hr0, fun j hj => absurd hj (by omega), fun j l hj => absurd hj (by omega), fun x e hx => by rw [zup_ne (znone hx hr0)]; exact hx⟩)) (by simp [zk1, nI_0])
set_option maxRecDepth 100000 in
set_option maxHeartbeats 1000000 in
theorem c_fromR {g : zGh} {M : zM}   : zCt g yX7_chroniclesFrom cX7_chroniclesFrom 3 (some (.array (.object "Milletcourt$Chronicle"))) 2 42 mkR [.ref (g.2.2.2.1 3)] M 13 32 (fun v M1 => ∃ cq dq nq, zCF g M M1 v 4 4 zRF cq dq nq) noX := by
  refine zof [some (.ref (g.2.2.2.1 3)), none, none] (by decide +kernel) rfl rfl (Nat.le_of_ble_eq_true rfl) ?_
  intro X C hE hnm
  have C : zC g X RX7 cX7_chroniclesFrom 3 2 42 13 32 := C
  have loop : ∀ (s i r : Nat), i + s = 4 → ∀ M1 cq dq nq, zCF g M M1 r 4 i zRF cq dq nq → zG g X M1 (1 + 3 * i) (4 + 7 * i) 8 [some (.ref (g.2.2.2.1 3)), some (.ref r), some (.int (nI i))] [] := by
    intro s
    induction s with
    | zero =>
      intro i r hi M1 cq dq nq hF
      refine ziload_n C dX7_chroniclesFrom_8 rfl ?_
      refine zaload_n C dX7_chroniclesFrom_9 rfl ?_
      refine zsalen (v := nI 4) C C.2.2.2.2.2.1.2.2.1.2.1.2.2.2.2 rfl dX7_chroniclesFrom_10 ?_
      refine zicmp_ge (tgt := 34) C dX7_chroniclesFrom_11 (by decide) (fun h11 => ?_) (fun h11 => by first | exact absurd (nI_le (by omega) (by omega)) h11 | exact absurd h11 (nI_le (by omega) (by omega)))
      refine zaload_n C dX7_chroniclesFrom_34 rfl ?_
      exact zend_r C hE (Or.inr ⟨_, rfl⟩) dX7_chroniclesFrom_35 (by omega) (by omega) ⟨cq, dq, nq, by rw [show 4 = i by omega]; rw [show i = 4 by omega] at hF ⊢; exact hF⟩
    | succ s ih =>
      intro i r hi M1 cq dq nq hF
      refine ziload_n C dX7_chroniclesFrom_8 rfl ?_
      refine zaload_n C dX7_chroniclesFrom_9 rfl ?_
      refine zsalen (v := nI 4) C C.2.2.2.2.2.1.2.2.1.2.1.2.2.2.2 rfl dX7_chroniclesFrom_10 ?_
      refine zicmp_ge (tgt := 34) C dX7_chroniclesFrom_11 (by decide) (fun h11 => by first | exact absurd h11 (nI_ge (by omega) (by omega)) | exact absurd (nI_ge (by omega) (by omega)) h11) (fun h11 => ?_)
      refine zaload_n C dX7_chroniclesFrom_14 rfl ?_
      refine ziload_n C dX7_chroniclesFrom_15 rfl ?_
      refine znew C hw_X7_87 rfl (by omega) (by omega) dX7_chroniclesFrom_16 (fun q hq => ?_)
      refine zdup C dX7_chroniclesFrom_19 rfl ?_
      refine zconst (v := 0) C dX7_chroniclesFrom_20 (by decide) ?_
      refine zaload_n C dX7_chroniclesFrom_21 rfl ?_
      refine ziload_n C dX7_chroniclesFrom_22 rfl ?_
      refine zsald C C.2.2.2.2.2.1.2.2.1.2.1.2.2.2.2 (vp_in_nI (by omega) (by omega)) dX7_chroniclesFrom_23 ?_
      rw [nI_clamp (by omega)]
      refine zcallI C (c_init 0 (zRF i) zup_same) hy_X0_init hi_X0_init hl_X7_411 rfl rfl (by decide) (by decide) (by omega) (by omega) rfl (by exact Nat.le_of_ble_eq_true rfl) dX7_chroniclesFrom_24 (fun M2 hp => ?_)
      obtain ⟨d1, n1, z1, z2, z3, z4⟩ := hp
      obtain ⟨hr, hF1⟩ := zCF_step hF hq z1 z2 z3 z4
      refine zrcast (i0 := i) C hr z3.1 rfl (by omega) (by omega) dX7_chroniclesFrom_27 ?_
      refine ziinc (L1 := [_, _, _]) (v := nI (i + 1)) C dX7_chroniclesFrom_28 rfl (nI_1 i) rfl ?_
      refine zgoto (tgt := 8) C dX7_chroniclesFrom_31 (by decide) ?_
      exact zwid (by omega) (by omega) (ih (i + 1) r (by omega) _ _ _ _ hF1)
  refine zaload_n C dX7_chroniclesFrom_0 rfl ?_
  refine zsalen (v := nI 4) C C.2.2.2.2.2.1.2.2.1.2.1.2.2.2.2 rfl dX7_chroniclesFrom_1 ?_
  refine znewC (N := 4) C hc_X7_87 (by decide) rfl (by decide) (by omega) (by omega) dX7_chroniclesFrom_2 (fun r hr0 => ?_)
  refine zastore_n (L1 := [_, _, _]) C dX7_chroniclesFrom_5 rfl (Nat.le_of_ble_eq_true rfl) ?_
  refine zconst (v := 0) C dX7_chroniclesFrom_6 (by decide) ?_
  refine zistore_n (L1 := [_, _, _]) C dX7_chroniclesFrom_7 rfl (Nat.le_of_ble_eq_true rfl) ?_
  exact zcg (zwid (by omega) (by omega) (loop 4 0 r (by omega) _ (fun _ => 0) (fun _ => 0) (fun _ => 0) ⟨by rw [zup_same]; rfl, fun j hj => absurd hj (by omega), hr0, fun j hj => absurd hj (by omega), fun j l hj => absurd hj (by omega), fun x e hx => by rw [zup_ne (znone hx hr0)]; exact hx⟩)) (by simp [zk1, nI_0])
