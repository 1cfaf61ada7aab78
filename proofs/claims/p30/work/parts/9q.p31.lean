/-! dies, put together -/
section TIE31
variable {n : Nat} {K K1 A : zK} {S S1 T : zS}
/-- what keeps the marriages so -/
theorem iMS_k (h : iMS K) (h25 : K1.1 25 = K.1 25) (hp : ∀ m, m < K.1 25 → ((kpe K1 (kma K m).1).1 = (kpe K (kma K m).1).1 ∧ (kpe K1 (kma K m).2.1).1 = (kpe K (kma K m).2.1).1) ∧ (kma K1 m).1 = (kma K m).1 ∧ (kma K1 m).2.1 = (kma K m).2.1 ∧ ((kma K1 m).2.2.2.1 = 0 → (kma K m).2.2.2.1 = 0)) : iMS K1 := by
  obtain ⟨h1, h2⟩ := h
  refine ⟨fun m hm => ?_, fun m m' hm hm' s1 s2 e => ?_⟩
  · rw [h25] at hm
    obtain ⟨⟨p1, p2⟩, p3, p4, -⟩ := hp m hm
    obtain ⟨g1, g2⟩ := h1 m hm
    rw [p3, p4]
    exact ⟨p1.trans g1, p2.trans g2⟩
  · rw [h25] at hm hm'
    obtain ⟨-, -, p4, p5⟩ := hp m hm
    obtain ⟨-, -, q4, q5⟩ := hp m' hm'
    exact h2 m m' hm hm' (p5 s1) (q5 s2) (p4.symm.trans (e.trans q4))
theorem en_st (K : zK) (d : Nat) : ∀ m q, (kma (enK K d m).1 q).2.2.2.1 = 0 → (kma K q).2.2.2.1 = 0
  | 0, _, h => h
  | m + 1, q, h => by
    have ih := en_st K d m q
    rw [enK] at h
    have hx : ¬ (2 : Int32) = 0 := by decide
    by_cases c : lasK (enK K d m).1 m d = true
    · rw [if_pos c] at h
      by_cases c2 : (kma (enK K d m).1 m).1 = d
      · rw [if_pos c2] at h
        have h : (va_up (va_up (kma (enK K d m).1) m (maSt (kma (enK K d m).1 m) 2)) m (maOw (va_up (kma (enK K d m).1) m (maSt (kma (enK K d m).1 m) 2) m) 0) q).2.2.2.1 = 0 := h
        by_cases e : q = m
        · subst e; rw [up_eq, up_eq] at h; exact absurd h hx
        · rw [up_ne e, up_ne e] at h; exact ih h
      · rw [if_neg c2] at h
        have h : (va_up (kma (enK K d m).1) m (maOw (maSt (kma (enK K d m).1 m) 2) 0) q).2.2.2.1 = 0 := h
        by_cases e : q = m
        · subst e; rw [up_eq] at h; exact absurd h hx
        · rw [up_ne e] at h; exact ih h
    · rw [if_neg c] at h; exact ih h
theorem iMS_di (h : iMS K) {j : Nat} : iMS (di0 K j) := by
  have hp : ∀ q, (kpe (di0 K j) q).1 = (kpe K q).1 := fun q => by
    show (va_up (kpe K) j (peTurn (peDie (kpe K j)) (-1) (-1)) q).1 = _
    by_cases e : q = j
    · subst e; rw [up_eq]; rfl
    · rw [up_ne e]
  exact iMS_k h rfl (fun m hm => ⟨⟨hp _, hp _⟩, rfl, rfl, id⟩)
theorem dv_pg {q : zTl} {gds : Int64} {b : Bool} {np : Nat} {P : Nat → Bool} (h : lsP q.1 q.2.2.2 np P) {p : Nat} (hp : p < np) : ∃ g, kpe (dvK A q gds b) p = peGoo (kpe A p) g := by
  by_cases e : q.1 = 0
  · have : dvK A q gds b = A := by unfold dvK; rw [if_pos e]
    rw [this]
    exact ⟨(kpe A p).2.2.2.2.2.1, rfl⟩
  · rw [dv_pt h (by omega) hp]
    split
    · exact ⟨_, rfl⟩
    · exact ⟨(kpe A p).2.2.2.2.2.1, rfl⟩
theorem lv2_fr (K : zK) (d l : Nat) (q : zTl) : (lv2 K d l q).1 = K.1 ∧ (lv2 K d l q).2.1 = K.2.1 ∧ kch (lv2 K d l q) = kch K ∧ (lv2 K d l q).2.2.2.2 = K.2.2.2.2 ∧ ∀ p, (kpe (lv2 K d l q) p).1 = (kpe K p).1 := by
  obtain ⟨a1, a2, a3, a4, a5⟩ := dvK_fr (lv1 K d) q (lvP K d l) false
  refine ⟨a1, a2, a3, a4, fun p => (a5 p).trans ?_⟩
  show (va_up (kpe K) d (peGoo (kpe K d) 0) p).1 = _
  by_cases e : p = d
  · subst e; rw [up_eq]; rfl
  · rw [up_ne e]
theorem lvK_fr (K : zK) (d l : Nat) (q0 q1 : zTl) : (lvK K d l q0 q1).1 = K.1 ∧ kch (lvK K d l q0 q1) = kch K ∧ (lvK K d l q0 q1).2.2.2.2 = K.2.2.2.2 ∧ ∀ p, (kpe (lvK K d l q0 q1) p).1 = (kpe K p).1 := by
  obtain ⟨a1, a2, a3, a4, a5⟩ := lv2_fr K d l q0
  unfold lvK
  generalize lv2 K d l q0 = A at *
  split
  · exact ⟨a1, a3, a4, a5⟩
  · split
    · obtain ⟨b1, b2, b3, b4, b5⟩ := gooA_fr A (lowT q1.2.2.2 (q1.1 - 1)) (lvR K d l q0)
      exact ⟨b1.trans a1, b3.trans a3, b4.trans a4, fun p => (b5 p).trans (a5 p)⟩
    · obtain ⟨b1, b2, b3, b4, b5⟩ := dvK_fr A q1 (lvR K d l q0) (decide (lvS K l = 1))
      exact ⟨b1.trans a1, b3.trans a3, b4.trans a4, fun p => (b5 p).trans (a5 p)⟩
theorem dies_core (h : tie n K S) (hM : iMS K) (hL : iL3 K) {j : Nat} (hj : j < K.1 13) : tie n (k_dies K j) (if lowest (dieS5 S j) = -1 then (zsC (dieS5 S j) (S.2.1 + dieR S j), dieR S j) else (givesS (dieS6 S j) (dieR S j) (if dieSh S j = 1 then 2 else 1), 0)).1 ∧ a_dies K j = (if lowest (dieS5 S j) = -1 then (zsC (dieS5 S j) (S.2.1 + dieR S j), dieR S j) else (givesS (dieS6 S j) (dieR S j) (if dieSh S j = 1 then 2 else 1), 0)).2 := by
  have hb1 := h.bd.1
  have hb2 := h.bd.2.1
  have hb5 := h.bd.2.2.2.2.1
  have h13 := h.N.2.2.2.2.1
  have h25 := h.N.2.2.2.2.2.1
  have hN1 := h.N.1
  have hcr := h.N.2.2.2.2.2.2.2
  have hn := h.1.1.1
  have hc : dieC S j = crtK K 2 j j (nI (K.1 1)) := (t_now h (m := 2) (by decide) hj hj).symm
  obtain ⟨l, l1, l2⟩ := t_cl h (m := 2) hj hj
  have hdl : diL K j = l := by unfold diL; rw [l2, lixN_l (by omega)]
  have law : ∀ w, w < 7 → lawOf S (dieC S j) (nI w) (nI (S.1 1)) = lawK K l w (nI (K.1 1)) := fun w hw => by
    rw [hc, l2, ← hN1]
    exact (t_law h l1 hw hb1).symm
  have law0 : lawOf S (dieC S j) 0 (nI (S.1 1)) = lawK K l 0 (nI (K.1 1)) := law 0 (by decide)
  have law3 : lawOf S (dieC S j) 3 (nI (S.1 1)) = lawK K l 3 (nI (K.1 1)) := law 3 (by decide)
  have law5 : lawOf S (dieC S j) 5 (nI (S.1 1)) = lawK K l 5 (nI (K.1 1)) := law 5 (by decide)
  have hb : dieB S j = decide (lawK K (diL K j) 5 (nI (K.1 1)) = 1) := by unfold dieB; rw [law5, hdl]
  have hSh : dieSh S j = lawK K l 0 (nI (K.1 1)) := law0
  obtain ⟨x, x1, x2⟩ := iL3_of hL l1 (nI (K.1 1))
  have t0 := di_tie h hj
  have t1 : tie n (di0 K j) (widS (dieS0 S j) j (dieB S j)) := tie_47 t0 _
  have ht2 := en_tie t1 (d := j) hj (iMS_di hM) (K.1 25) (Nat.le_refl _)
  have e2 : dieL (widS (dieS0 S j) j (dieB S j)) j (K.1 25) = dieS2 S j := by unfold dieS2; rw [h25]
  rw [e2] at ht2
  obtain ⟨t2, ls2⟩ := ht2
  have t2 : tie n (diB K j) (dieS2 S j) := t2
  have ls2 : lsP (diS K j).1 (diS K j).2 (K.1 13) (widB (di0 K j) j (K.1 25)) := ls2
  have fr : mfr (di0 K j) (diB K j) := (enK_fr j t0.ik.2.2.1.1 (K.1 25) (Nat.le_refl _)).1
  have f1 : (diB K j).1 = K.1 := fr.1
  have f2 : (diB K j).2.1 = K.2.1 := fr.2.1
  have f3 : kch (diB K j) = kch K := fr.2.2.1
  have hw : (dieS2 S j).2.2.1 47 = widL (dieS0 S j) j (dieB S j) (clrL ((dieS0 S j).2.2.1 47) ((dieS0 S j).1 13)) (K.1 25) := by
    unfold dieS2
    rw [dieL_47, h25]
    exact zsA_s _ _ _
  have hwp := wid_pt t0 (d := j) hj (dieB S j) (r := clrL ((dieS0 S j).2.2.1 47) ((dieS0 S j).1 13)) (fun q hq => clr_at _ _ q (by
    have hq : q < K.1 13 := hq
    show q < S.1 13
    omega)) (K.1 25) (Nat.le_refl _)
  have ls0 : lsP (diQ K j (diS K j)).1 (diQ K j (diS K j)).2.2.2 (K.1 13) (fun k => decide ((dieS2 S j).2.2.1 47 k ≠ 0)) := by
    refine ls_cg (diQ_ls ls2 hb) (fun q hq => ?_)
    rw [hw]
    exact (hwp q hq).symm
  have hjB : j < (diB K j).1 13 := by rw [f1]; exact hj
  have hH : dieH S j = lvG (diB K j) j := (t2.P.1 j hjB).2.2.2.2.2.1
  obtain ⟨t3, s3⟩ := zero_tie t2 hjB
  have t3 : tie n (lv1 (diB K j) j) (dieS3 S j) := t3
  have hlB : lawK (diB K j) l 3 (nI ((diB K j).1 1)) = nI x := by unfold lawK; rw [f3, f1]; exact x2
  have hlB0 : lvS (diB K j) l = dieSh S j := by unfold lvS lawK; rw [f3, f1, hSh]; rfl
  have hP : dieP S j = lvP (diB K j) j l := by unfold dieP lvP; rw [hH, law3, x2, hlB]
  have hPx : lvP (diB K j) j l = lvG (diB K j) j * (nI x).toInt64 / 100 := by unfold lvP; rw [hlB]
  have g0 : 0 ≤ (lvG (diB K j) j).toInt := t2.1.2.1 j hjB
  have gt : (lvG (diB K j) j).toInt ≤ sumG (kpe (diB K j)) ((diB K j).1 13) := sumG_one t2.1.2.1 hjB
  have gs := t2.1.2.2
  have s3 : sumG (kpe (lv1 (diB K j) j)) ((diB K j).1 13) + (lvG (diB K j) j).toInt = sumG (kpe (diB K j)) ((diB K j).1 13) := s3
  obtain ⟨p0, p1⟩ := part_le (x := x) g0 (by omega) x1
  rw [← hPx] at p0 p1
  have ls0' : lsP (diQ K j (diS K j)).1 (diQ K j (diS K j)).2.2.2 ((lv1 (diB K j) j).1 13) (fun k => decide ((dieS3 S j).2.2.1 47 k ≠ 0)) := by
    have e : (lv1 (diB K j) j).1 13 = K.1 13 := congrFun f1 13
    rw [e]
    exact ls0
  obtain ⟨t4, s4, u4⟩ := give_opt t3 (gds := lvP (diB K j) j l) false ls0' p0 (by
    show sumG (kpe (lv1 (diB K j) j)) ((diB K j).1 13) + _ ≤ _
    omega)
  have u4 : 0 < units (dieS3 S j) 1 ↔ ¬ (diQ K j (diS K j)).1 = 0 := u4
  have t4 : tie n (lv2 (diB K j) j l (diQ K j (diS K j))) (dieS4 S j) := by
    unfold dieS4
    rw [hP]
    exact t4
  have s4 : sumG (kpe (lv2 (diB K j) j l (diQ K j (diS K j)))) ((diB K j).1 13) = sumG (kpe (lv1 (diB K j) j)) ((diB K j).1 13) + (if (diQ K j (diS K j)).1 = 0 then 0 else (lvP (diB K j) j l).toInt) := s4
  have hR : dieR S j = lvR (diB K j) j l (diQ K j (diS K j)) := by
    unfold dieR lvR
    rw [hH, hP]
    by_cases e : (diQ K j (diS K j)).1 = 0
    · rw [if_neg (fun hh => u4.mp hh e), if_pos e]
    · rw [if_pos (u4.mpr e), if_neg e]
  have hRt : (lvR (diB K j) j l (diQ K j (diS K j))).toInt = (lvG (diB K j) j).toInt - (if (diQ K j (diS K j)).1 = 0 then 0 else (lvP (diB K j) j l).toInt) := by
    unfold lvR
    by_cases e : (diQ K j (diS K j)).1 = 0
    · rw [if_pos e, if_pos e, Int.sub_zero]
    · rw [if_neg e, if_neg e, Int64.toInt_sub]
      apply Int.bmod_eq_of_le <;> omega
  obtain ⟨v1, v2, v3, v4, v5⟩ := lv2_fr (diB K j) j l (diQ K j (diS K j))
  have hpg : ∀ q, q < K.1 13 → ∃ g, kpe (lv2 (diB K j) j l (diQ K j (diS K j))) q = peGoo (kpe (diB K j) q) g := by
    intro q hq
    obtain ⟨g, hg⟩ := dv_pg (A := lv1 (diB K j) j) (gds := lvP (diB K j) j l) (b := false) ls0 hq
    have hg : kpe (lv2 (diB K j) j l (diQ K j (diS K j))) q = peGoo (va_up (kpe (diB K j)) j (peGoo (kpe (diB K j) j) 0) q) g := hg
    refine ⟨g, hg.trans ?_⟩
    by_cases e : q = j
    · subst e; rw [up_eq]; rfl
    · rw [up_ne e]
  have ls1 : lsP (diQ K j (diC K j)).1 (diQ K j (diC K j)).2.2.2 (K.1 13) (fun k => decide ((dieS5 S j).2.2.1 47 k ≠ 0)) := by
    refine ls_cg (diQ_ls (chS_ls (diB K j) j (K.1 13)) hb) (fun q hq => ?_)
    have e5 : (dieS5 S j).2.2.1 47 q = b2i (heirB (dieS4 S j) j (dieB S j) q) := by
      unfold dieS5
      rw [zsA_s]
      exact heir_at _ _ _ _ _ q (by omega)
    have hq4 : q < (lv2 (diB K j) j l (diQ K j (diS K j))).1 13 := by rw [v1, f1]; exact hq
    have hj4 : j < (lv2 (diB K j) j l (diQ K j (diS K j))).1 13 := by rw [v1, f1]; exact hj
    show _ = decide ((dieS5 S j).2.2.1 47 q ≠ 0)
    rw [e5, b2i_ne]
    unfold heirB
    rw [← Bool.and_assoc, t_chl t4 hq4 hj4, bar_t t4 hq4 hj4, chl_cg (hpg q hq)]
    unfold newK
    rw [v3, f3]
  have t5 : tie n (lv2 (diB K j) j l (diQ K j (diS K j))) (dieS5 S j) := tie_47 t4 _
  have ls1' : lsP (diQ K j (diC K j)).1 (diQ K j (diC K j)).2.2.2 ((lv2 (diB K j) j l (diQ K j (diS K j))).1 13) (fun k => decide ((dieS5 S j).2.2.1 47 k ≠ 0)) := by
    rw [v1, f1]; exact ls1
  obtain ⟨z1, z2, z3⟩ := dies_end t5 (R := lvR (diB K j) j l (diQ K j (diS K j))) (dieSh S j) ls1' (by rw [hRt]; split <;> omega) (by rw [v1, s4, hRt]; omega)
  unfold k_dies a_dies lvK lvA
  rw [hdl, hR, hlB0]
  by_cases e : (diQ K j (diC K j)).1 = 0
  · rw [if_pos e, if_pos e, if_pos (z1.mpr e)]
    refine ⟨?_, rfl⟩
    have hc0 : (lv2 (diB K j) j l (diQ K j (diS K j))).2.1 = S.2.1 := v2.trans (f2.trans hcr)
    rw [hc0] at z2 ⊢
    exact z2
  · rw [if_neg e, if_neg e, if_neg (fun hh => e (z1.mp hh))]
    refine ⟨?_, rfl⟩
    have d5 : dF S (dieS5 S j) := dF_A (dF_4 (dF_D (dF_A dF_0 rfl) _)) rfl
    have e13 : (dieS5 S j).1 13 = S.1 13 := by rw [d5.1]; rfl
    have z := z3 e
    rw [e13] at z
    unfold dieS6
    exact z
theorem p_dies0 (h : tie n K S) (hM : iMS K) (hL : iL3 K) (hn : n < 512) (a0 : Int32) : lcal tie n K (x_dies K a0) [1, 3] (k_dies K a0.toNatClampNeg) (o_dies S a0).1 (a_dies K a0.toNatClampNeg = (o_dies S a0).2) := by
  unfold x_dies o_dies
  have hb5 := h.bd.2.2.2.2.1
  have h13 := h.N.2.2.2.2.1
  rw [h13]
  by_cases e1 : zix a0 (S.1 13) = false
  · rw [if_pos e1, if_pos e1]
    exact lcal_thr h hn (okcd_2 (by decide)) 0 1 rfl
  rw [if_neg e1, if_neg e1]
  obtain ⟨j, hj, rfl⟩ := zix_of (bF e1) (by omega)
  have hj' : j < K.1 13 := by omega
  rw [nI_clamp (by omega)]
  have hl := t_liv h hj'
  by_cases e3 : (kpe K j).2.2.2.2.1 = false
  · rw [if_pos e3, if_pos (by rw [e3] at hl; exact of_decide_eq_false hl)]
    exact lcal_thr h hn (okcd_2 (by decide)) 1 3 rfl
  have e3 := bF e3
  rw [if_neg (by simp [e3]), if_neg (by rw [e3] at hl; simpa using of_decide_eq_true hl)]
  obtain ⟨c1, c2⟩ := dies_core h hM hL hj'
  have fr : mfr (di0 K j) (diB K j) := (enK_fr j (di_tie h hj').ik.2.2.1.1 (K.1 25) (Nat.le_refl _)).1
  obtain ⟨k1, k2, k3, k4⟩ := lvK_fr (diB K j) j (diL K j) (diQ K j (diS K j)) (diQ K j (diC K j))
  have d5 : dF S (dieS5 S j) := dF_A (dF_4 (dF_D (dF_A dF_0 rfl) _)) rfl
  refine lcal_ok (okcd_2 (by decide)) ?_ c2 (c1.up hn) ?_
  · split
    · show (dieS5 S j).1 0 = 0
      rw [d5.1]; rfl
    · show (dieS6 S j).1 0 = 0
      rw [(dF_6 d5).1]; rfl
  · unfold cF
    have e1 : kch (k_dies K j) = kch K := k2.trans fr.2.2.1
    have e2 : (k_dies K j).1 = K.1 := k1.trans fr.1
    rw [e1, e2]
    exact Nat.le_refl _
theorem iMS_dies (h : tie n K S) (hM : iMS K) {j : Nat} (hj : j < K.1 13) : iMS (k_dies K j) := by
  have fr : mfr (di0 K j) (diB K j) := (enK_fr j (di_tie h hj).ik.2.2.1.1 (K.1 25) (Nat.le_refl _)).1
  obtain ⟨k1, k2, k3, k4⟩ := lvK_fr (diB K j) j (diL K j) (diQ K j (diS K j)) (diQ K j (diC K j))
  have k3 : (k_dies K j).2.2.2.2 = (diB K j).2.2.2.2 := k3
  have km : kma (k_dies K j) = kma (diB K j) := congrArg Prod.fst k3
  refine iMS_k (iMS_di hM (j := j)) (by show (k_dies K j).1 25 = K.1 25; rw [show (k_dies K j).1 = K.1 from k1.trans fr.1]) (fun m hm => ?_)
  have kp : ∀ q, (kpe (k_dies K j) q).1 = (kpe (di0 K j) q).1 := fun q => (k4 q).trans (fr.2.2.2.1 q).1
  obtain ⟨m1, m2, -⟩ := fr.2.2.2.2.1 m
  rw [km]
  exact ⟨⟨kp _, kp _⟩, m1, m2, en_st (di0 K j) j (K.1 25) m⟩
theorem iL3_dies (h : tie n K S) (hL : iL3 K) {j : Nat} (hj : j < K.1 13) : iL3 (k_dies K j) := by
  have fr : mfr (di0 K j) (diB K j) := (enK_fr j (di_tie h hj).ik.2.2.1.1 (K.1 25) (Nat.le_refl _)).1
  obtain ⟨k1, k2, k3, k4⟩ := lvK_fr (diB K j) j (diL K j) (diQ K j (diS K j)) (diQ K j (diC K j))
  have e1 : kch (k_dies K j) = kch K := k2.trans fr.2.2.1
  have e2 : (k_dies K j).1 = K.1 := k1.trans fr.1
  unfold iL3
  rw [e1, e2]
  exact hL
end TIE31
