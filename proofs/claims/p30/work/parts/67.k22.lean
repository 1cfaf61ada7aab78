def w7 (q : Nat) (f : Nat → Nat) : Nat → Nat := fun w => if w = 7 then q else f w
theorem w7_e {q : Nat} {f : Nat → Nat} : w7 q f 7 = q := rfl
theorem w7_n {q w : Nat} {f : Nat → Nat} (h : ¬ w = 7) : w7 q f w = f w := if_neg h
theorem cB_of {g : zGh} {M0 M2 M4 : zM} {a ql r qc d1 n1 : Nat} {cq dq nq : Nat → Nat} {day : Int32} {e0 : va_E} (ha : M0 a = none) (z1 : zup M0 a e0 ql = none) (hF : zCF g (zup (zup M0 a e0) ql (zob 3 [.null])) M2 r 7 7 zLF cq dq nq) (z2 : zup (zup M2 ql (zob 3 [.ref r])) a (zob 2 [.ref ql, .null]) qc = none)
    (z3 : zup (zup (zup M2 ql (zob 3 [.ref r])) a (zob 2 [.ref ql, .null])) qc (zob 1 [.null, .null, .int 0]) d1 = none) (z4 : zup (zup (zup M2 ql (zob 3 [.ref r])) a (zob 2 [.ref ql, .null])) qc (zob 1 [.null, .null, .int 0]) n1 = none) (z5 : zChr g M4 qc d1 n1 2 0 (upd (fun _ => 0) 0 day) (upd (fun _ => 0) 0 1))
    (z6 : ∀ x e, zup (zup (zup M2 ql (zob 3 [.ref r])) a (zob 2 [.ref ql, .null])) qc (zob 1 [.null, .null, .int 0]) x = some e → x ≠ qc → M4 x = some e) :
    cB g M0 (zup M4 a (zob 2 [.ref ql, .ref qc])) a ql r (w7 qc cq) (w7 d1 dq) (w7 n1 nq) day := by
  obtain ⟨f1, f2, f3, f4, f5, f6⟩ := hF
  have haql : a ≠ ql := fun e => by rw [← e, zup_same] at z1; cases z1
  -- what lies behind the law
  have M2old : ∀ x e, M0 x = some e → M2 x = some e := fun x e hx => f6 x e (by
    have h1 := znone hx ha
    have h2 : x ≠ ql := fun e2 => by rw [← e2, zup_ne h1, hx] at z1; cases z1
    rw [zup_ne h2, zup_ne h1]; exact hx)
  have M2ql : M2 ql = some (zob 3 [.null]) := f6 _ _ zup_same
  have M2a : M2 a = some e0 := f6 _ _ (by rw [zup_ne haql]; exact zup_same)
  have rql : r ≠ ql := fun e => by rw [e, zup_same] at f3; cases f3
  have ra : r ≠ a := fun e => by rw [e, zup_ne haql, zup_same] at f3; cases f3
  have r0 : M0 r = none := by rw [zup_ne rql, zup_ne ra] at f3; exact f3
  have q0 : ∀ x, zup (zup M0 a e0) ql (zob 3 [.null]) x = none → x ≠ ql ∧ x ≠ a ∧ M0 x = none := fun x hx => by
    have h1 : x ≠ ql := fun e => by rw [e, zup_same] at hx; cases hx
    rw [zup_ne h1] at hx
    have h2 : x ≠ a := fun e => by rw [e, zup_same] at hx; cases hx
    rw [zup_ne h2] at hx
    exact ⟨h1, h2, hx⟩
  -- what is new over M2
  have n2 : ∀ x, zup (zup M2 ql (zob 3 [.ref r])) a (zob 2 [.ref ql, .null]) x = none → x ≠ a ∧ x ≠ ql ∧ M2 x = none := fun x hx => by
    have h1 : x ≠ a := fun e => by rw [e, zup_same] at hx; cases hx
    rw [zup_ne h1] at hx
    have h2 : x ≠ ql := fun e => by rw [e, zup_same] at hx; cases hx
    rw [zup_ne h2] at hx
    exact ⟨h1, h2, hx⟩
  have n3 : ∀ x, zup (zup (zup M2 ql (zob 3 [.ref r])) a (zob 2 [.ref ql, .null])) qc (zob 1 [.null, .null, .int 0]) x = none → x ≠ qc ∧ x ≠ a ∧ x ≠ ql ∧ M2 x = none := fun x hx => by
    have h1 : x ≠ qc := fun e => by rw [e, zup_same] at hx; cases hx
    rw [zup_ne h1] at hx
    exact ⟨h1, n2 x hx⟩
  obtain ⟨c1, c2, c3⟩ := n2 _ z2
  obtain ⟨d0, d2, d3, d4⟩ := n3 _ z3
  obtain ⟨m0, m2, m3, m4⟩ := n3 _ z4
  have old : ∀ x, M2 x = none → M0 x = none := fun x hx => by
    cases hz : M0 x with
    | none => rfl
    | some w => rw [M2old _ _ hz] at hx; cases hx
  have keep : ∀ x e, M2 x = some e → x ≠ ql → x ≠ a → zup M4 a (zob 2 [.ref ql, .ref qc]) x = some e := fun x e hx h1 h2 => by
    have h3 : x ≠ qc := fun e2 => by rw [e2, c3] at hx; cases hx
    rw [zup_ne h2]
    refine z6 x e ?_ h3
    rw [zup_ne h3, zup_ne h2, zup_ne h1]
    exact hx
  refine ⟨⟨zup_same, ?_, ?_⟩, fun w hw => ?_, ⟨ha, (by rw [zup_ne haql.symm] at z1; exact z1), r0, fun w hw => ?_⟩, fun j l hj hl hjl => ?_, fun x e hx => ?_⟩
  · rw [zup_ne haql.symm]
    refine z6 ql _ ?_ c2.symm
    rw [zup_ne c2.symm, zup_ne haql.symm]
    exact zup_same
  · refine keep r _ ?_ rql ra
    rw [f1]
    congr 2
    funext j
    by_cases h : j < 7
    · rw [if_pos h, if_pos h, w7_n (by omega)]
    · rw [if_neg h, if_neg h]
  · by_cases e : w = 7
    · subst e
      rw [w7_e, w7_e, w7_e, if_pos rfl, if_pos rfl]
      refine z5.keep (fun x e hx hxx => ?_)
      rw [zup_ne]
      · exact hx
      · rcases hxx with rfl | rfl | rfl
        · exact c1
        · exact d2
        · exact m2
    · rw [w7_n e, w7_n e, w7_n e, if_neg e, if_neg e]
      have hf4 := f4 w (by omega)
      refine (f2 w (by omega)).keep (fun x e hx hxx => ?_)
      rcases hxx with rfl | rfl | rfl
      · exact keep _ _ hx (q0 _ hf4.1).1 (q0 _ hf4.1).2.1
      · exact keep _ _ hx (q0 _ hf4.2.1).1 (q0 _ hf4.2.1).2.1
      · exact keep _ _ hx (q0 _ hf4.2.2).1 (q0 _ hf4.2.2).2.1
  · by_cases e : w = 7
    · subst e
      rw [w7_e, w7_e, w7_e]
      exact ⟨old _ c3, old _ d4, old _ m4⟩
    · rw [w7_n e, w7_n e, w7_n e]
      have hf4 := f4 w (by omega)
      exact ⟨(q0 _ hf4.1).2.2, (q0 _ hf4.2.1).2.2, (q0 _ hf4.2.2).2.2⟩
  · by_cases e : j = 7
    · subst e
      have hl7 : l ≠ 7 := fun e => hjl e.symm
      have g2 := f2 l (by omega)
      rw [w7_e, w7_e, w7_e, w7_n hl7, w7_n hl7, w7_n hl7]
      exact ⟨(znone g2.1 c3).symm, (znone g2.2.1 d4).symm, (znone g2.2.2.1 m4).symm, (znone g2.2.2.1 d4).symm⟩
    · have g2 := f2 j (by omega)
      rw [w7_n e, w7_n e, w7_n e]
      by_cases e2 : l = 7
      · rw [e2, w7_e, w7_e, w7_e]
        exact ⟨znone g2.1 c3, znone g2.2.1 d4, znone g2.2.2.1 m4, znone g2.2.1 m4⟩
      · rw [w7_n e2, w7_n e2, w7_n e2]
        exact f5 j l (by omega) (by omega) hjl
  · have h1 : x ≠ a := znone hx ha
    have h2 : x ≠ ql := fun e2 => by rw [← e2, zup_ne h1, hx] at z1; cases z1
    exact keep x e (M2old x e hx) h2 h1
def x_community (K : zK) : Nat := if decide (K.1 2 < 6) = false then 3 else 0
set_option maxRecDepth 100000 in
set_option maxHeartbeats 1000000 in
theorem K_community {g : zGh} {K : zK} {X : zg → Option va_E} {ad : zg → Nat} {M : zM}  (hp : zP g K X ad M) (hi : iK K) (htl : ∀ j, ktl K j = none) : zCt g yX7_community cX7_community 1 (some .int) 7 171 mkI [.ref (ad (0, 0))] M 40 200 (fun v M1 => x_community K = 0 ∧ v = nI (K.1 2) ∧ ∃ ad1, zP g (newC K (nI (K.1 1))) X ad1 M1 ∧ ∀ t : zg, (t.1 = 0 ∨ 14 ≤ t.1) → ad1 t = ad t) (fun E M1 => thr E (x_community K) ∧ M1 = M) := by
  refine zof [some (.ref (ad (0, 0)))] (by decide +kernel) rfl rfl (Nat.le_of_ble_eq_true rfl) ?_
  intro Z C hE hnm
  have C : zC g Z RX7 cX7_community 1 7 171 40 200 := C
  obtain ⟨⟨hb1, h2, h4, h9, h13, h25, h33⟩, ⟨hch, hf⟩, ⟨hma, hsu, hpa⟩, hwp, hwi, hsc⟩ := hi
  have hw64 : ∀ s, (kws K s).1 ≤ 64 := fun s => Nat.le_trans (hwi s) (by decide)
  have hWf := iWf_of hma hsu hpa hwp hwi htl
  refine zaload_n C dX7_community_0 rfl ?_
  refine zget C hf_X7_19 hp.main (by rfl) dX7_community_1 ?_
  refine zcallV C (q_size (hp.lq0 (by omega))) hy_Jx4a65c_size_8abf5 hv_Jx4a65c_size_8abf5 hl_X7_58 (hp.lo0) rfl rfl rfl rfl (by decide) (by decide) (by omega) (by omega) rfl (by exact Nat.le_of_ble_eq_true rfl) dX7_community_4 (fun v4 M hp4 => ?_)
  obtain ⟨rfl, rfl⟩ := hp4
  refine zbipush (v := 6) C dX7_community_7 (by decide) ?_
  refine zicmp_lt (tgt := 22) C dX7_community_9 (by decide) (fun h9_ => ?_) (fun h9_ => ?_)
  · have h9b : K.1 2 < 6 := (nI_ltI (a := K.1 2) (b := 6) (by omega) (by decide)).mp h9_
    refine zaload_n C dX7_community_22 rfl ?_
    refine zget C hf_X7_19 hp.main (by rfl) dX7_community_23 ?_
    refine znew C hw_X7_69 rfl (by omega) (by omega) dX7_community_26 (fun q hq => ?_)
    refine zdup C dX7_community_29 rfl ?_
    refine zaload_n C dX7_community_30 rfl ?_
    refine zget C hf_X7_51 (hp.fresh hq).main (by rfl) dX7_community_31 ?_
    refine zcallI C (o_init (nI (K.1 1)) zup_same) hy_X1_init hi_X1_init hl_X7_71 rfl rfl (by decide) (by decide) (by omega) (by omega) rfl (by exact Nat.le_of_ble_eq_true rfl) dX7_community_34 (fun M5 hp5 => ?_)
    obtain ⟨ql, r, cq, dq, nq, M2, qc, d1, n1, M4, z1, hF, z2, z3, z4, z5, z6, rfl⟩ := hp5
    have hB := cB_of hq z1 hF z2 z3 z4 z5 z6
    generalize zup M4 q (zob 2 [.ref ql, .ref qc]) = M5 at hB ⊢
    clear z1 hF z2 z3 z4 z5 z6
    have hp0 := hp
    have hp := hp0.keepM hB.2.2.2.2
    refine zaddl C (len := K.1 2) (ci := 2) (ea := ad (8, 0)) (f := fun i => if i < K.1 2 then some (ad (9, i)) else none) hp.lo0 (fun h0 => zPic.at hp (t := (8, 0)) (if_neg h0)) (by omega) (fun i hi => if_neg (by omega)) (fun i hi => ⟨_, _, if_pos hi, hp.com hi⟩) rfl hca_Community (by decide) hB.1.1 hl_X7_74 rfl (by decide) (by decide) (by omega) (by omega) (by exact Nat.le_of_ble_eq_true rfl) dX7_community_37 (fun M3 e1 g1 g2 g3 g4 => ?_)
    obtain ⟨ad1, hp1, hst⟩ := growC hp0 hWf h33 h9b hB g1 g2 g3 g4
    clear hp
    have hp := hp1
    rw [← hst (0, 0) (Or.inl rfl)]
    refine zpop C dX7_community_40 rfl ?_
    refine zaload_n C dX7_community_41 rfl ?_
    refine zget C hf_X7_19 hp.main (by rfl) dX7_community_42 ?_
    refine zcallV C (q_size (hp.lq0 (by show K.1 2 + 1 ≤ 49; omega))) hy_Jx4a65c_size_8abf5 hv_Jx4a65c_size_8abf5 hl_X7_58 (hp.lo0) rfl rfl rfl rfl (by decide) (by decide) (by omega) (by omega) rfl (by exact Nat.le_of_ble_eq_true rfl) dX7_community_45 (fun v45 M hp45 => ?_)
    obtain ⟨rfl, rfl⟩ := hp45
    refine zconst (v := 1) C dX7_community_48 (by decide) ?_
    refine zisub C dX7_community_49 ?_
    exact zend_i C hE dX7_community_50 (by omega) (by omega) ⟨by simp [x_community, h9b], (show nI (K.1 2 + 1) - 1 = nI (K.1 2) from nI_pred _), ad1, hp, hst⟩
  · have h9b : 6 ≤ K.1 2 := Nat.not_lt.mp (fun e => h9_ ((nI_ltI (a := K.1 2) (b := 6) (by omega) (by decide)).mpr e))
    exact zthrow C hE ht_X7_64_66 rfl (by decide) (by exact Nat.le_of_ble_eq_true rfl) (by omega) (by omega) dX7_community_12 dX7_community_15 dX7_community_16 dX7_community_18 dX7_community_21 ⟨thr3 (by simp [x_community, h9b]), rfl⟩
