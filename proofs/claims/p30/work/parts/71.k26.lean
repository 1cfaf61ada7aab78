theorem ktl_n {K : zK} {i j : Nat} {q : Option zTl} (h : i ≠ j) : ktl (stl K j q) i = ktl K i := up_ne h
def lv1 (K : zK) (d : Nat) : zK := spe K d (peGoo (kpe K d) 0)
def lvG (K : zK) (d : Nat) : Int64 := (kpe K d).2.2.2.2.2.1
def lvP (K : zK) (d l : Nat) : Int64 := lvG K d * (lawK K l 3 (nI (K.1 1))).toInt64 / 100
def lv2 (K : zK) (d l : Nat) (q0 : zTl) : zK := dvK (lv1 K d) q0 (lvP K d l) false
def lvR (K : zK) (d l : Nat) (q0 : zTl) : Int64 := if q0.1 = 0 then lvG K d else lvG K d - lvP K d l
def lvS (K : zK) (l : Nat) : Int32 := lawK K l 0 (nI (K.1 1))
def lvK (K : zK) (d l : Nat) (q0 q1 : zTl) : zK := if q1.1 = 0 then sC (lv2 K d l q0) ((lv2 K d l q0).2.1 + lvR K d l q0) else if lvS K l = 2 then gooA (lv2 K d l q0) (lowT q1.2.2.2 (q1.1 - 1)) (lvR K d l q0) else dvK (lv2 K d l q0) q1 (lvR K d l q0) (decide (lvS K l = 1))
def lvA (K : zK) (d l : Nat) (q0 q1 : zTl) : Int64 := if q1.1 = 0 then lvR K d l q0 else 0
theorem nI_z {n : Nat} (h : n < 2 ^ 31) : decide (nI n = 0) = decide (n = 0) := decide_eq_decide.mpr ⟨fun e => (nI_eq (a := n) (b := 0) h (by decide)).mp e, fun e => by rw [e]; rfl⟩
def di0 (K : zK) (p : Nat) : zK := spe K p (peTurn (peDie (kpe K p)) (-1) (-1))
def diL (K : zK) (p : Nat) : Nat := lixN (crtK K 2 p p (nI (K.1 1)))
def diB (K : zK) (p : Nat) : zK := (enK (di0 K p) p (K.1 25)).1
def diS (K : zK) (p : Nat) : Nat × (Nat → Nat) := (enK (di0 K p) p (K.1 25)).2
def diC (K : zK) (p : Nat) : Nat × (Nat → Nat) := chS (diB K p) p (K.1 13)
def diQ (K : zK) (p : Nat) (s : Nat × (Nat → Nat)) : zTl := if lawK K (diL K p) 5 (nI (K.1 1)) = 1 then rmS K (newK K p) s.1 (tlA s) else tlA s
def x_dies (K : zK) (p : Int32) : Nat := if zix p (K.1 13) = false then 1 else if (kpe K p.toNatClampNeg).2.2.2.2.1 = false then 3 else 0
def k_dies (K : zK) (p : Nat) : zK := lvK (diB K p) p (diL K p) (diQ K p (diS K p)) (diQ K p (diC K p))
def a_dies (K : zK) (p : Nat) : Int64 := lvA (diB K p) p (diL K p) (diQ K p (diS K p)) (diQ K p (diC K p))
/-- states that are alike but for the lists that are thrown away -/
theorem dvK_stl {K : zK} {j : Nat} {r : Option zTl} {q : zTl} {v : Int64} {b : Bool} : dvK (stl K j r) q v b = stl (dvK K q v b) j r := by
  have hs : ∀ n, shT (stl K j r) b q.2.2.2 n = shT K b q.2.2.2 n := fun n => by
    induction n with
    | zero => rfl
    | succ n ih => unfold shT; rw [ih]; rfl
  have hg : ∀ sv n, givT (stl K j r) b q.2.2.2 sv n = stl (givT K b q.2.2.2 sv n) j r := fun sv n => by
    induction n with
    | zero => rfl
    | succ n ih => unfold givT; rw [ih]; rfl
  unfold dvK svT
  rw [hs, hg]
  split <;> rfl
theorem lvK_stl {K : zK} {j : Nat} {r : Option zTl} {d l : Nat} {q0 q1 : zTl} : lvK (stl K j r) d l q0 q1 = stl (lvK K d l q0 q1) j r ∧ lvA (stl K j r) d l q0 q1 = lvA K d l q0 q1 := by
  have h2 : lv2 (stl K j r) d l q0 = stl (lv2 K d l q0) j r := by
    unfold lv2
    rw [show lv1 (stl K j r) d = stl (lv1 K d) j r from rfl, dvK_stl]
    rfl
  refine ⟨?_, rfl⟩
  unfold lvK
  rw [h2]
  rw [show lvR (stl K j r) d l q0 = lvR K d l q0 from rfl, show lvS (stl K j r) l = lvS K l from rfl]
  split
  · rfl
  · split
    · rfl
    · rw [dvK_stl]
theorem rmS_newK {K K1 : zK} {fa : Int32} (h : kch K1 = kch K) : ∀ c q, rmS K1 fa c q = rmS K fa c q
  | 0, _ => rfl
  | c + 1, q => by
    have e : ∀ p, newK K1 p = newK K p := fun p => by unfold newK; rw [h]
    rw [rmS, rmS, e, rmS_newK h c]
theorem rmS_W {K : zK} {fa : Int32} {n : Nat} : ∀ c (q : zTl), liW (tlE q) → (∀ i, i < q.1 → q.2.2.2 i < n) → c ≤ q.1 → liW (tlE (rmS K fa c q)) ∧ ∀ i, i < (rmS K fa c q).1 → (rmS K fa c q).2.2.2 i < n
  | 0, q, h1, h2, _ => ⟨h1, h2⟩
  | c + 1, q, h1, h2, hc => by
    rw [rmS]
    split
    · exact rmS_W c q h1 h2 (by omega)
    · exact rmS_W c (remT q c) (remT_W h1 (by omega)) (remT_sp h2) (by show c ≤ q.1 - 1; omega)
theorem stl_comm {K : zK} {i j : Nat} {q r : Option zTl} (h : i ≠ j) : stl (stl K i q) j r = stl (stl K j r) i q := by
  unfold stl
  dsimp only
  congr 7
  funext x
  unfold va_up
  by_cases e1 : x = i
  · by_cases e2 : x = j
    · omega
    · simp [e1, h]
  · by_cases e2 : x = j
    · simp [e2, Ne.symm h]
    · simp [e1, e2]
theorem lvK_tl {K : zK} {d l : Nat} {q0 q1 : zTl} : ktl (lvK K d l q0 q1) = ktl K := by
  have h2 : ktl (lv2 K d l q0) = ktl K := congrArg (fun x => x.2.2.2) (dvK_fr (lv1 K d) q0 (lvP K d l) false).2.2.2.1
  unfold lvK
  split
  · exact h2
  · split
    · exact h2
    · exact (congrArg (fun x => x.2.2.2) (dvK_fr (lv2 K d l q0) q1 (lvR K d l q0) (decide (lvS K l = 1))).2.2.2.1).trans h2
theorem di_end {g : zGh} {X : zg → Option va_E} {ad : zg → Nat} {M : zM} {B : zK} {d l : Nat} {q0 q1 : zTl} (h : ∀ j, ktl B j = none) (hp : zP g (stl (stl (lvK B d l q0 q1) 31 none) 30 none) X ad M) : zP g (lvK B d l q0 q1) X ad M := by
  have e : ∀ j, ktl (lvK B d l q0 q1) j = none := fun j => by rw [lvK_tl]; exact h j
  rw [stl_id (e 31), stl_id (e 30)] at hp
  exact hp
set_option maxRecDepth 100000 in
set_option maxHeartbeats 1000000 in
theorem k_leave {g : zGh} {K : zK} {X : zg → Option va_E} {ad : zg → Nat} {M : zM} {d l : Nat} {q0 q1 : zTl} (hd : d < K.1 13) (hl : l ≤ K.1 2) (hp : zP g K X ad M) (h13 : K.1 13 ≤ 40) (hch : iCh K) (hq0 : ktl K 30 = some q0) (hW0 : liW (tlE q0)) (hs0 : ∀ i, i < q0.1 → q0.2.2.2 i < K.1 13) (hq1 : ktl K 31 = some q1) (hW1 : liW (tlE q1)) (hs1 : ∀ i, i < q1.1 → q1.2.2.2 i < K.1 13) : zCt g yX7_leaveEstate cX7_leaveEstate 9 (some .long) 5 113 mkL [.ref (ad (0, 0)), .ref (ad (10, d)), .ref (ad (7, 30)), .ref (ad (7, 31)), .ref (ad (1, l))] M 0 0 (fun v M1 => v = lvA K d l q0 q1 ∧ zP g (lvK K d l q0 q1) X ad M1) noX := by
  refine zof [some (.ref (ad (0, 0))), some (.ref (ad (10, d))), some (.ref (ad (7, 30))), some (.ref (ad (7, 31))), some (.ref (ad (1, l))), none, none, none, none] (by decide +kernel) rfl rfl (Nat.le_of_ble_eq_true rfl) ?_
  intro Z C hE hnm
  have C : zC g Z RX7 cX7_leaveEstate 9 5 113 0 0 := C
  have h049 := liW_49 hW0
  have h149 := liW_49 hW1
  have hfr := dvK_fr (lv1 K d) q0 (lvP K d l) false
  have e13 : (lv2 K d l q0).1 13 = K.1 13 := congrFun hfr.1 13
  have hq12 : ktl (lv2 K d l q0) 31 = some q1 := by show (lv2 K d l q0).2.2.2.2.2.2.2 31 = _; unfold lv2; rw [hfr.2.2.2.1]; exact hq1
  have hs12 : ∀ i, i < q1.1 → q1.2.2.2 i < (lv2 K d l q0).1 13 := fun i h => by rw [e13]; exact hs1 i h
  have hl2 : l ≤ (lv2 K d l q0).1 2 := by show l ≤ (dvK _ _ _ _).1 2; rw [hfr.1]; exact hl
  have hch2 : iCh (lv2 K d l q0) := by show iCh (dvK _ _ _ _); unfold iCh; rw [hfr.2.2.1]; exact hch
  refine zaload_n C dX7_leaveEstate_0 rfl ?_
  refine zget C hf_X7_256 (hp.per (p := d) hd) (by rfl) dX7_leaveEstate_1 ?_
  refine zlstore (L1 := [_, _, _, _, _, _, _, _, _]) C dX7_leaveEstate_4 rfl (Nat.le_of_ble_eq_true rfl) ?_
  refine zaload_n C dX7_leaveEstate_6 rfl ?_
  refine zlconst (v := 0) C dX7_leaveEstate_7 rfl ?_
  refine zput (fs1 := [_, _, _, _, _, _, _, _, _, _, _]) C hf_X7_256 hp_X4 rfl (hp.per (p := d) hd) rfl rfl (by exact Nat.le_of_ble_eq_true rfl) (by rfl) dX7_leaveEstate_8 ?_
  refine kstep (hp.perV (p := d) hd peGoo 0) rfl (fun M hp => ?_)
  replace hp : zP g (lv1 K d) X ad M := hp
  refine zaload_n C dX7_leaveEstate_11 rfl ?_
  refine zcallV C (l_isEmpty (hp.loT (by decide) hq0)) hy_Jx4a65c_isEmpty_aae02 hv_Jx4a65c_isEmpty_aae02 hl_X7_452 (hp.loT (by decide) hq0) rfl rfl rfl rfl (by decide) (by decide) (by omega) (by omega) rfl (by exact Nat.le_of_ble_eq_true rfl) dX7_leaveEstate_12 (fun v12 M hp12 => ?_)
  obtain ⟨hv12, rfl⟩ := hp12
  replace hv12 : v12 = b2i (decide (q0.1 = 0)) := by rw [hv12]; exact congrArg b2i (nI_z (n := q0.1) (by omega))
  subst hv12
  refine zif_ne (tgt := 52) C dX7_leaveEstate_15 (by decide) (fun h15 => ?_) (fun h15 => ?_)
  · replace h15 := b2i_n0.mp h15
    replace h15 := of_decide_eq_true h15
    have eP : lv2 K d l q0 = lv1 K d := if_pos h15
    have eR : lvR K d l q0 = lvG K d := if_pos h15
    rw [← eP] at hp
    refine zaload_n C dX7_leaveEstate_52 rfl ?_
    refine zcallV C (l_isEmpty (hp.loT (by decide) hq12)) hy_Jx4a65c_isEmpty_aae02 hv_Jx4a65c_isEmpty_aae02 hl_X7_452 (hp.loT (by decide) hq12) rfl rfl rfl rfl (by decide) (by decide) (by omega) (by omega) rfl (by exact Nat.le_of_ble_eq_true rfl) dX7_leaveEstate_53 (fun v53 M hp53 => ?_)
    obtain ⟨hv53, rfl⟩ := hp53
    replace hv53 : v53 = b2i (decide (q1.1 = 0)) := by rw [hv53]; exact congrArg b2i (nI_z (n := q1.1) (by omega))
    subst hv53
    refine zif_eq (tgt := 73) C dX7_leaveEstate_56 (by decide) (fun h56 => ?_) (fun h56 => ?_)
    · replace h56 := b2i_0.mp h56
      replace h56 := of_decide_eq_false h56
      have hpos : 0 < q1.1 := Nat.pos_of_ne_zero h56
      refine zaload C dX7_leaveEstate_73 rfl ?_
      refine zconst (v := 0) C dX7_leaveEstate_75 (by decide) ?_
      refine zaload_n C dX7_leaveEstate_76 rfl ?_
      refine zget C hf_X7_51 hp.main (by rfl) dX7_leaveEstate_77 ?_
      refine zcallV C (k_lawN 0 _ _ rfl (by decide) hp hl2 hch2) hy_X2_numberOn hv_X2_numberOn hl_X7_114 (hp.lawo (l := l) hl2) rfl rfl rfl rfl (by decide) (by decide) (by omega) (by omega) rfl (by exact Nat.le_of_ble_eq_true rfl) dX7_leaveEstate_80 (fun v80 M hp80 => ?_)
      obtain ⟨hv80, rfl⟩ := hp80
      replace hv80 : v80 = lvS K l := by rw [hv80, lvS, lawK, lawK, show kch (lv2 K d l q0) = kch K from hfr.2.2.1, show (lv2 K d l q0).1 = K.1 from hfr.1]
      subst hv80
      refine zistore (L1 := [_, _, _, _, _, _, _, _, _]) C dX7_leaveEstate_83 rfl (Nat.le_of_ble_eq_true rfl) ?_
      refine ziload C dX7_leaveEstate_85 rfl ?_
      refine zconst (v := 2) C dX7_leaveEstate_87 (by decide) ?_
      refine zicmp_ne (tgt := 108) C dX7_leaveEstate_88 (by decide) (fun h88 => ?_) (fun h88 => ?_)
      · replace h88 : ¬ lvS K l = 2 := h88
        refine zlload C dX7_leaveEstate_108 rfl ?_
        refine zaload_n C dX7_leaveEstate_110 rfl ?_
        refine ziload C dX7_leaveEstate_111 rfl ?_
        refine zconst (v := 1) C dX7_leaveEstate_113 (by decide) ?_
        refine zicmp_ne (tgt := 121) C dX7_leaveEstate_114 (by decide) (fun h114 => ?_) (fun h114 => ?_)
        · replace h114 : ¬ lvS K l = 1 := h114
          refine zconst (v := 0) C dX7_leaveEstate_121 (by decide) ?_
          refine zcallS C (k_divide _ false hp (by decide) hq12 hW1 hs12 (by omega)) hy_X7_divide hst_X7_divide hl_X7_457 rfl rfl (by decide) (by decide) (by omega) (by omega) rfl (by exact Nat.le_of_ble_eq_true rfl) dX7_leaveEstate_122 (fun v122 M hp => ?_)
          refine zlconst (v := 0) C dX7_leaveEstate_125 rfl ?_
          exact zend_l C hE dX7_leaveEstate_126 (by omega) (by omega) ⟨by rw [lvA, if_neg h56], by rw [lvK, if_neg h56, if_neg h88, decide_eq_false h114, eR]; exact hp⟩
        · replace h114 : lvS K l = 1 := h114
          refine zconst (v := 1) C dX7_leaveEstate_117 (by decide) ?_
          refine zgoto (tgt := 122) C dX7_leaveEstate_118 (by decide) ?_
          refine zcallS C (k_divide _ true hp (by decide) hq12 hW1 hs12 (by omega)) hy_X7_divide hst_X7_divide hl_X7_457 rfl rfl (by decide) (by decide) (by omega) (by omega) rfl (by exact Nat.le_of_ble_eq_true rfl) dX7_leaveEstate_122 (fun v122 M hp => ?_)
          refine zlconst (v := 0) C dX7_leaveEstate_125 rfl ?_
          exact zend_l C hE dX7_leaveEstate_126 (by omega) (by omega) ⟨by rw [lvA, if_neg h56], by rw [lvK, if_neg h56, if_neg h88, decide_eq_true h114, eR]; exact hp⟩
      · replace h88 : lvS K l = 2 := h88
        refine zaload_n C dX7_leaveEstate_91 rfl ?_
        refine zcallS C (k_lowestOf hp (by decide) hq12 hW1 hs12 (by omega) hpos) hy_X7_lowestOf hst_X7_lowestOf hl_X7_461 rfl rfl (by decide) (by decide) (by omega) (by omega) rfl (by exact Nat.le_of_ble_eq_true rfl) dX7_leaveEstate_92 (fun v92 M hp92 => ?_)
        obtain ⟨rfl, rfl⟩ := hp92
        have hlw : lowT q1.2.2.2 (q1.1 - 1) < (lv2 K d l q0).1 13 := lowT_in (n := q1.1 - 1) (P := fun x => x < (lv2 K d l q0).1 13) (fun x hx => hs12 x (by omega)) _ (Nat.le_refl _)
        refine zdup C dX7_leaveEstate_95 rfl ?_
        refine zget C hf_X7_256 (hp.per (p := (lowT q1.2.2.2 (q1.1 - 1))) hlw) (by rfl) dX7_leaveEstate_96 ?_
        refine zlload C dX7_leaveEstate_99 rfl ?_
        refine zladd C dX7_leaveEstate_101 ?_
        refine zput (fs1 := [_, _, _, _, _, _, _, _, _, _, _]) C hf_X7_256 hp_X4 rfl (hp.per (p := (lowT q1.2.2.2 (q1.1 - 1))) hlw) rfl rfl (by exact Nat.le_of_ble_eq_true rfl) (by rfl) dX7_leaveEstate_102 ?_
        refine kstep (hp.perV (p := (lowT q1.2.2.2 (q1.1 - 1))) hlw peGoo ((kpe (lv2 K d l q0) (lowT q1.2.2.2 (q1.1 - 1))).2.2.2.2.2.1 + lvR K d l q0)) (by rw [eR]; rfl) (fun M hp => ?_)
        refine zgoto (tgt := 125) C dX7_leaveEstate_105 (by decide) ?_
        refine zlconst (v := 0) C dX7_leaveEstate_125 rfl ?_
        exact zend_l C hE dX7_leaveEstate_126 (by omega) (by omega) ⟨by rw [lvA, if_neg h56], by rw [lvK, if_neg h56, if_pos h88]; exact hp⟩
    · replace h56 := b2i_n0.mp h56
      replace h56 := of_decide_eq_true h56
      refine zaload_n C dX7_leaveEstate_59 rfl ?_
      refine zdup C dX7_leaveEstate_60 rfl ?_
      refine zget C hf_X7_54 hp.main (by rfl) dX7_leaveEstate_61 ?_
      refine zlload C dX7_leaveEstate_64 rfl ?_
      refine zladd C dX7_leaveEstate_66 ?_
      refine zput (fs1 := [_, _, _, _, _, _, _, _, _, _]) C hf_X7_54 hp_X7 rfl hp.main rfl rfl (by exact Nat.le_of_ble_eq_true rfl) (by rfl) dX7_leaveEstate_67 ?_
      refine kstep (hp.mainC ((lv2 K d l q0).2.1 + lvR K d l q0)) (by rw [eR]; rfl) (fun M hp => ?_)
      refine zlload C dX7_leaveEstate_70 rfl ?_
      exact zend_l C hE dX7_leaveEstate_72 (by omega) (by omega) ⟨by rw [lvA, if_pos h56, eR]; rfl, by rw [lvK, if_pos h56]; exact hp⟩
  · replace h15 := b2i_0.mp h15
    replace h15 := of_decide_eq_false h15
    have eR : lvR K d l q0 = lvG K d - lvP K d l := if_neg h15
    refine zlload C dX7_leaveEstate_18 rfl ?_
    refine zaload C dX7_leaveEstate_20 rfl ?_
    refine zconst (v := 3) C dX7_leaveEstate_22 (by decide) ?_
    refine zaload_n C dX7_leaveEstate_23 rfl ?_
    refine zget C hf_X7_51 hp.main (by rfl) dX7_leaveEstate_24 ?_
    refine zcallV C (k_lawN 3 _ _ rfl (by decide) hp hl hch) hy_X2_numberOn hv_X2_numberOn hl_X7_114 (hp.lawo (l := l) hl) rfl rfl rfl rfl (by decide) (by decide) (by omega) (by omega) rfl (by exact Nat.le_of_ble_eq_true rfl) dX7_leaveEstate_27 (fun v27 M hp27 => ?_)
    obtain ⟨hv27, rfl⟩ := hp27
    replace hv27 : v27 = lawK K l 3 (nI (K.1 1)) := hv27
    subst hv27
    refine zi2l C dX7_leaveEstate_30 ?_
    refine zlmul C dX7_leaveEstate_31 ?_
    refine zldc2 C hk_X7_455 dX7_leaveEstate_32 ?_
    refine zldiv C dX7_leaveEstate_35 (by decide) ?_
    refine zlstore (L1 := [_, _, _, _, _, _, _, _, _]) C dX7_leaveEstate_36 rfl (Nat.le_of_ble_eq_true rfl) ?_
    refine zlload C dX7_leaveEstate_38 rfl ?_
    refine zaload_n C dX7_leaveEstate_40 rfl ?_
    refine zconst (v := 0) C dX7_leaveEstate_41 (by decide) ?_
    refine zcallS C (k_divide (lvP K d l) false hp (by decide) hq0 hW0 hs0 h13) hy_X7_divide hst_X7_divide hl_X7_457 rfl rfl (by decide) (by decide) (by omega) (by omega) rfl (by exact Nat.le_of_ble_eq_true rfl) dX7_leaveEstate_42 (fun v42 M hp => ?_)
    replace hp : zP g (lv2 K d l q0) X ad M := hp
    refine zlload C dX7_leaveEstate_45 rfl ?_
    refine zlload C dX7_leaveEstate_47 rfl ?_
    refine zlsub C dX7_leaveEstate_49 ?_
    refine zlstore (L1 := [_, _, _, _, _, _, _, _, _]) C dX7_leaveEstate_50 rfl (Nat.le_of_ble_eq_true rfl) ?_
    refine zaload_n C dX7_leaveEstate_52 rfl ?_
    refine zcallV C (l_isEmpty (hp.loT (by decide) hq12)) hy_Jx4a65c_isEmpty_aae02 hv_Jx4a65c_isEmpty_aae02 hl_X7_452 (hp.loT (by decide) hq12) rfl rfl rfl rfl (by decide) (by decide) (by omega) (by omega) rfl (by exact Nat.le_of_ble_eq_true rfl) dX7_leaveEstate_53 (fun v53 M hp53 => ?_)
    obtain ⟨hv53, rfl⟩ := hp53
    replace hv53 : v53 = b2i (decide (q1.1 = 0)) := by rw [hv53]; exact congrArg b2i (nI_z (n := q1.1) (by omega))
    subst hv53
    refine zif_eq (tgt := 73) C dX7_leaveEstate_56 (by decide) (fun h56 => ?_) (fun h56 => ?_)
    · replace h56 := b2i_0.mp h56
      replace h56 := of_decide_eq_false h56
      have hpos : 0 < q1.1 := Nat.pos_of_ne_zero h56
      refine zaload C dX7_leaveEstate_73 rfl ?_
      refine zconst (v := 0) C dX7_leaveEstate_75 (by decide) ?_
      refine zaload_n C dX7_leaveEstate_76 rfl ?_
      refine zget C hf_X7_51 hp.main (by rfl) dX7_leaveEstate_77 ?_
      refine zcallV C (k_lawN 0 _ _ rfl (by decide) hp hl2 hch2) hy_X2_numberOn hv_X2_numberOn hl_X7_114 (hp.lawo (l := l) hl2) rfl rfl rfl rfl (by decide) (by decide) (by omega) (by omega) rfl (by exact Nat.le_of_ble_eq_true rfl) dX7_leaveEstate_80 (fun v80 M hp80 => ?_)
      obtain ⟨hv80, rfl⟩ := hp80
      replace hv80 : v80 = lvS K l := by rw [hv80, lvS, lawK, lawK, show kch (lv2 K d l q0) = kch K from hfr.2.2.1, show (lv2 K d l q0).1 = K.1 from hfr.1]
      subst hv80
      refine zistore (L1 := [_, _, _, _, _, _, _, _, _]) C dX7_leaveEstate_83 rfl (Nat.le_of_ble_eq_true rfl) ?_
      refine ziload C dX7_leaveEstate_85 rfl ?_
      refine zconst (v := 2) C dX7_leaveEstate_87 (by decide) ?_
      refine zicmp_ne (tgt := 108) C dX7_leaveEstate_88 (by decide) (fun h88 => ?_) (fun h88 => ?_)
      · replace h88 : ¬ lvS K l = 2 := h88
        refine zlload C dX7_leaveEstate_108 rfl ?_
        refine zaload_n C dX7_leaveEstate_110 rfl ?_
        refine ziload C dX7_leaveEstate_111 rfl ?_
        refine zconst (v := 1) C dX7_leaveEstate_113 (by decide) ?_
        refine zicmp_ne (tgt := 121) C dX7_leaveEstate_114 (by decide) (fun h114 => ?_) (fun h114 => ?_)
        · replace h114 : ¬ lvS K l = 1 := h114
          refine zconst (v := 0) C dX7_leaveEstate_121 (by decide) ?_
          refine zcallS C (k_divide _ false hp (by decide) hq12 hW1 hs12 (by omega)) hy_X7_divide hst_X7_divide hl_X7_457 rfl rfl (by decide) (by decide) (by omega) (by omega) rfl (by exact Nat.le_of_ble_eq_true rfl) dX7_leaveEstate_122 (fun v122 M hp => ?_)
          refine zlconst (v := 0) C dX7_leaveEstate_125 rfl ?_
          exact zend_l C hE dX7_leaveEstate_126 (by omega) (by omega) ⟨by rw [lvA, if_neg h56], by rw [lvK, if_neg h56, if_neg h88, decide_eq_false h114, eR]; exact hp⟩
        · replace h114 : lvS K l = 1 := h114
          refine zconst (v := 1) C dX7_leaveEstate_117 (by decide) ?_
          refine zgoto (tgt := 122) C dX7_leaveEstate_118 (by decide) ?_
          refine zcallS C (k_divide _ true hp (by decide) hq12 hW1 hs12 (by omega)) hy_X7_divide hst_X7_divide hl_X7_457 rfl rfl (by decide) (by decide) (by omega) (by omega) rfl (by exact Nat.le_of_ble_eq_true rfl) dX7_leaveEstate_122 (fun v122 M hp => ?_)
          refine zlconst (v := 0) C dX7_leaveEstate_125 rfl ?_
          exact zend_l C hE dX7_leaveEstate_126 (by omega) (by omega) ⟨by rw [lvA, if_neg h56], by rw [lvK, if_neg h56, if_neg h88, decide_eq_true h114, eR]; exact hp⟩
      · replace h88 : lvS K l = 2 := h88
        refine zaload_n C dX7_leaveEstate_91 rfl ?_
        refine zcallS C (k_lowestOf hp (by decide) hq12 hW1 hs12 (by omega) hpos) hy_X7_lowestOf hst_X7_lowestOf hl_X7_461 rfl rfl (by decide) (by decide) (by omega) (by omega) rfl (by exact Nat.le_of_ble_eq_true rfl) dX7_leaveEstate_92 (fun v92 M hp92 => ?_)
        obtain ⟨rfl, rfl⟩ := hp92
        have hlw : lowT q1.2.2.2 (q1.1 - 1) < (lv2 K d l q0).1 13 := lowT_in (n := q1.1 - 1) (P := fun x => x < (lv2 K d l q0).1 13) (fun x hx => hs12 x (by omega)) _ (Nat.le_refl _)
        refine zdup C dX7_leaveEstate_95 rfl ?_
        refine zget C hf_X7_256 (hp.per (p := (lowT q1.2.2.2 (q1.1 - 1))) hlw) (by rfl) dX7_leaveEstate_96 ?_
        refine zlload C dX7_leaveEstate_99 rfl ?_
        refine zladd C dX7_leaveEstate_101 ?_
        refine zput (fs1 := [_, _, _, _, _, _, _, _, _, _, _]) C hf_X7_256 hp_X4 rfl (hp.per (p := (lowT q1.2.2.2 (q1.1 - 1))) hlw) rfl rfl (by exact Nat.le_of_ble_eq_true rfl) (by rfl) dX7_leaveEstate_102 ?_
        refine kstep (hp.perV (p := (lowT q1.2.2.2 (q1.1 - 1))) hlw peGoo ((kpe (lv2 K d l q0) (lowT q1.2.2.2 (q1.1 - 1))).2.2.2.2.2.1 + lvR K d l q0)) (by rw [eR]; rfl) (fun M hp => ?_)
        refine zgoto (tgt := 125) C dX7_leaveEstate_105 (by decide) ?_
        refine zlconst (v := 0) C dX7_leaveEstate_125 rfl ?_
        exact zend_l C hE dX7_leaveEstate_126 (by omega) (by omega) ⟨by rw [lvA, if_neg h56], by rw [lvK, if_neg h56, if_pos h88]; exact hp⟩
    · replace h56 := b2i_n0.mp h56
      replace h56 := of_decide_eq_true h56
      refine zaload_n C dX7_leaveEstate_59 rfl ?_
      refine zdup C dX7_leaveEstate_60 rfl ?_
      refine zget C hf_X7_54 hp.main (by rfl) dX7_leaveEstate_61 ?_
      refine zlload C dX7_leaveEstate_64 rfl ?_
      refine zladd C dX7_leaveEstate_66 ?_
      refine zput (fs1 := [_, _, _, _, _, _, _, _, _, _]) C hf_X7_54 hp_X7 rfl hp.main rfl rfl (by exact Nat.le_of_ble_eq_true rfl) (by rfl) dX7_leaveEstate_67 ?_
      refine kstep (hp.mainC ((lv2 K d l q0).2.1 + lvR K d l q0)) (by rw [eR]; rfl) (fun M hp => ?_)
      refine zlload C dX7_leaveEstate_70 rfl ?_
      exact zend_l C hE dX7_leaveEstate_72 (by omega) (by omega) ⟨by rw [lvA, if_pos h56, eR]; rfl, by rw [lvK, if_pos h56]; exact hp⟩
set_option maxRecDepth 100000 in
set_option maxHeartbeats 1000000 in
theorem K_dies {g : zGh} {K : zK} {X : zg → Option va_E} {ad : zg → Nat} {M : zM} (p : Int32) (hp : zP g K X ad M) (hi : iK K) (htl : ∀ j, ktl K j = none) : zCt g yX7_dies cX7_dies 6 (some .long) 8 195 mkL [.ref (ad (0, 0)), .int p] M 100 6000 (fun v M1 => x_dies K p = 0 ∧ v = a_dies K p.toNatClampNeg ∧ ∃ ad1, zP g (k_dies K p.toNatClampNeg) X ad1 M1 ∧ ∀ t : zg, (t.1 = 0 ∨ 14 ≤ t.1) → ad1 t = ad t) (fun E M1 => thr E (x_dies K p) ∧ M1 = M) := by
  refine zof [some (.ref (ad (0, 0))), some (.int p), none, none, none, none] (by decide +kernel) rfl rfl (Nat.le_of_ble_eq_true rfl) ?_
  intro Z C hE hnm
  have C : zC g Z RX7 cX7_dies 6 8 195 100 6000 := C
  obtain ⟨⟨hb1, h2, h4, h9, h13, h25, h33⟩, ⟨hch, hf⟩, ⟨hma, hsu, hpa⟩, hwp, hwi, hsc⟩ := hi
  have hw64 : ∀ s, (kws K s).1 ≤ 64 := fun s => Nat.le_trans (hwi s) (by decide)
  have hWf := iWf_of hma hsu hpa hwp hwi htl
  refine zaload_n C dX7_dies_0 rfl ?_
  refine ziload_n C dX7_dies_1 rfl ?_
  refine zcallVX C (k_personAt _ hp h13) hy_X7_personAt hv_X7_personAt hl_X7_123 hp.main rfl rfl rfl rfl (by decide) (by decide) (by omega) (by omega) rfl (by exact Nat.le_of_ble_eq_true rfl) dX7_dies_2 (fun E M1 hx => zout C hE (by omega) (by omega) (by obtain ⟨e, hz, hm⟩ := hx; subst e; subst hm; exact ⟨thr1 (by simp [x_dies, okK, hz]), rfl⟩)) (fun v2 M hp2 => ?_)
  obtain ⟨⟨pn, hpn, rfl, rfl⟩, rfl⟩ := hp2
  have zpn : zix (nI pn) (K.1 13) = true := zix_t hpn (by omega)
  have epn : (nI pn).toNatClampNeg = pn := nI_clamp (by omega)
  refine zastore_n (L1 := [_, _, _, _, _, _]) C dX7_dies_5 rfl (Nat.le_of_ble_eq_true rfl) ?_
  refine zaload_n C dX7_dies_6 rfl ?_
  refine zget C hf_X7_251 (hp.per (p := pn) hpn) (by rfl) dX7_dies_7 ?_
  refine zif_ne (tgt := 23) C dX7_dies_10 (by decide) (fun h10 => ?_) (fun h10 => ?_)
  · replace h10 := b2i_n0.mp h10
    refine zaload_n C dX7_dies_23 rfl ?_
    refine zaload_n C dX7_dies_24 rfl ?_
    refine zconst (v := 2) C dX7_dies_25 (by decide) ?_
    refine zaload_n C dX7_dies_26 rfl ?_
    refine zaload_n C dX7_dies_27 rfl ?_
    refine zaload_n C dX7_dies_28 rfl ?_
    refine zget C hf_X7_51 hp.main (by rfl) dX7_dies_29 ?_
    refine zcallVX C (k_courtOf 2 2 _ rfl (by decide) hpn hpn hp h2 hch hf) hy_X7_courtOf hv_X7_courtOf hl_X7_137 hp.main rfl rfl rfl rfl (by decide) (by decide) (by omega) (by omega) rfl (by exact Nat.le_of_ble_eq_true rfl) dX7_dies_32 (fun E M1 hx => hx.elim) (fun v32 M hp32 => ?_)
    obtain ⟨hv32, rfl⟩ := hp32
    have hlc := crtK_c hf hpn hpn 2 (nI (K.1 1))
    rw [← hv32] at hlc
    refine zcallVX C (k_lawAt _ hp h2) hy_X7_lawAt hv_X7_lawAt hl_X7_95 hp.main rfl rfl rfl rfl (by decide) (by decide) (by omega) (by omega) rfl (by exact Nat.le_of_ble_eq_true rfl) dX7_dies_35 (fun E M1 hx => absurd hx.2.1 (okK_x hlc h2)) (fun v35 M hp35 => ?_)
    obtain ⟨⟨l, hl, e35, rfl⟩, rfl⟩ := hp35
    have exl : diL K pn = l := by rw [diL, ← hv32, e35]; exact lixN_l (show l ≤ 6 from Nat.le_trans hl h2)
    refine zastore_n (L1 := [_, _, _, _, _, _]) C dX7_dies_38 rfl (Nat.le_of_ble_eq_true rfl) ?_
    refine zaload_n C dX7_dies_39 rfl ?_
    refine zconst (v := 0) C dX7_dies_40 (by decide) ?_
    refine zput (fs1 := [_, _, _, _, _, _, _, _, _, _, _]) C hf_X7_251 hp_X4 rfl (hp.per (p := pn) hpn) (nar_b false) (fit_b false) (by exact Nat.le_of_ble_eq_true rfl) (by rfl) dX7_dies_41 ?_
    refine kstep (hp.perF (p := pn) hpn (fun x => peDie x)) rfl (fun M hp => ?_)
    refine zaload_n C dX7_dies_44 rfl ?_
    refine zcallV C (k_endTurning hp (show pn < _ from hpn)) hy_X4_endTurning hv_X4_endTurning hl_X7_195 (hp.per (p := pn) hpn) rfl rfl rfl rfl (by decide) (by decide) (by omega) (by omega) rfl (by exact Nat.le_of_ble_eq_true rfl) dX7_dies_45 (fun v45 M hp => ?_)
    rw [kpe_s, spe_spe] at hp
    replace hp : zP g (di0 K pn) X ad M := hp
    have hW0 : iWf (di0 K pn) := (show iWf (di0 K pn) from ⟨⟨hma, hsu, fun x hx => by
      have h := hpa x hx
      show (∀ q, (va_up (kpe K) pn _ x).2.1 = some q → q < x) ∧ ∀ q, (va_up (kpe K) pn _ x).2.2.1 = some q → q < x
      by_cases e : x = pn
      · subst e; rw [up_eq]; exact h
      · rw [up_ne e]; exact h⟩, hwp, hwi, hWf.2.2.2⟩)
    refine zaload_n C dX7_dies_48 rfl ?_
    refine zaload_n C dX7_dies_49 rfl ?_
    refine zcallV C (k_endMar (K := di0 K pn) hpn hp h13 h25 h33 hW0 (htl 30)) hy_X7_endMarriagesOf hv_X7_endMarriagesOf hl_X7_259 hp.main rfl rfl rfl rfl (by decide) (by decide) (by omega) (by omega) rfl (by exact Nat.le_of_ble_eq_true rfl) dX7_dies_50 (fun v50 M hpT => ?_)
    obtain ⟨ad1, rfl, hp, hst1⟩ := hpT
    replace hp : zP g (stl (diB K pn) 30 (some (tlA (diS K pn)))) X ad1 M := hp
    obtain ⟨hmf, hsn, hsi⟩ := enK_fr (K := di0 K pn) pn hW0.1.1 (K.1 25) (Nat.le_refl _)
    replace hmf : mfr (di0 K pn) (diB K pn) := hmf
    replace hsn : (diS K pn).1 ≤ K.1 25 := hsn
    replace hsi : ∀ x, x < (diS K pn).1 → (diS K pn).2 x < K.1 13 := hsi
    have hWB : iWf (diB K pn) := hmf.wf hW0
    have eB : (diB K pn).1 = K.1 := hmf.1
    have eC : kch (diB K pn) = kch K := hmf.2.2.1
    have htB : ∀ j, ktl (diB K pn) j = none := fun j => by rw [show ktl (diB K pn) = ktl K from congrArg (fun x => x.2.2) hmf.2.2.2.2.2]; exact htl j
    rw [← hst1 (0, 0) (by simp) (by simp), ← hst1 (10, pn) (by simp) (by simp), ← hst1 (1, l) (by simp) (by simp)]
    have hpnB : pn < (diB K pn).1 13 := by rw [eB]; exact hpn
    have hsiB : ∀ x, x < (diS K pn).1 → (diS K pn).2 x < (diB K pn).1 13 := fun x hx => by rw [eB]; exact hsi x hx
    refine zastore (L1 := [_, _, _, _, _, _]) C dX7_dies_53 rfl (Nat.le_of_ble_eq_true rfl) ?_
    refine zaload_n C dX7_dies_55 rfl ?_
    refine zaload_n C dX7_dies_56 rfl ?_
    refine zcallV C (k_livingCh (K := stl (diB K pn) 30 (some (tlA (diS K pn)))) hpnB hp (by show (diB K pn).1 13 ≤ 40; rw [eB]; exact h13) (by show (diB K pn).1 33 ≤ 20; rw [eB]; exact h33) (iWf_stl hWB hsiB) (by rw [ktl_n (by decide)]; exact htB 31)) hy_X7_livingChildrenOf hv_X7_livingChildrenOf hl_X7_263 hp.main rfl rfl rfl rfl (by decide) (by decide) (by omega) (by omega) rfl (by exact Nat.le_of_ble_eq_true rfl) dX7_dies_57 (fun v57 M hpT => ?_)
    obtain ⟨ad2, rfl, hp, hst2⟩ := hpT
    have hchE : ∀ n, chS (stl (diB K pn) 30 (some (tlA (diS K pn)))) pn n = chS (diB K pn) pn n := fun n => by
      induction n with
      | zero => rfl
      | succ n ih => rw [chS, chS, ih]; rfl
    rw [show (stl (diB K pn) 30 (some (tlA (diS K pn)))).1 13 = K.1 13 from congrFun eB 13, hchE] at hp
    replace hp : zP g (stl (stl (diB K pn) 30 (some (tlA (diS K pn)))) 31 (some (tlA (diC K pn)))) X ad2 M := hp
    rw [← hst2 (0, 0) (by simp) (by simp), ← hst2 (10, pn) (by simp) (by simp), ← hst2 (1, l) (by simp) (by simp), ← hst2 (7, 30) (by simp) (by simp)]
    obtain ⟨hcn, hci⟩ := chS_in (diB K pn) pn (K.1 13)
    have hciB : ∀ x, x < (diC K pn).1 → (diC K pn).2 x < (diB K pn).1 13 := fun x hx => by rw [eB]; exact hci x hx
    replace hcn : (diC K pn).1 ≤ K.1 13 := hcn
    have hWA : iWf (stl (stl (diB K pn) 30 (some (tlA (diS K pn)))) 31 (some (tlA (diC K pn)))) := iWf_stl (iWf_stl hWB hsiB) hciB
    have hchA : iCh (stl (stl (diB K pn) 30 (some (tlA (diS K pn)))) 31 (some (tlA (diC K pn)))) := by show iCh (diB K pn); unfold iCh; rw [eC]; exact hch
    have hlA : l ≤ (stl (stl (diB K pn) 30 (some (tlA (diS K pn)))) 31 (some (tlA (diC K pn)))).1 2 := by show l ≤ (diB K pn).1 2; rw [eB]; exact hl
    have h30 : ktl (stl (stl (diB K pn) 30 (some (tlA (diS K pn)))) 31 (some (tlA (diC K pn)))) 30 = some (tlA (diS K pn)) := by rw [ktl_n (by decide), ktl_s]
    have h31 : ktl (stl (stl (diB K pn) 30 (some (tlA (diS K pn)))) 31 (some (tlA (diC K pn)))) 31 = some (tlA (diC K pn)) := ktl_s
    have h13A : (stl (stl (diB K pn) 30 (some (tlA (diS K pn)))) 31 (some (tlA (diC K pn)))).1 13 ≤ 40 := by show (diB K pn).1 13 ≤ 40; rw [eB]; exact h13
    have h33A : (stl (stl (diB K pn) 30 (some (tlA (diS K pn)))) 31 (some (tlA (diC K pn)))).1 33 ≤ 20 := by show (diB K pn).1 33 ≤ 20; rw [eB]; exact h33
    have w30 : liW (tlE (tlA (diS K pn))) := tlA_W (Nat.le_trans hsn (Nat.le_trans h25 (by decide)))
    have w31 : liW (tlE (tlA (diC K pn))) := tlA_W (Nat.le_trans hcn (Nat.le_trans h13 (by decide)))
    have hpnA : pn < (stl (stl (diB K pn) 30 (some (tlA (diS K pn)))) 31 (some (tlA (diC K pn)))).1 13 := hpnB
    have eT : (stl (stl (diB K pn) 30 (some (tlA (diS K pn)))) 31 (some (tlA (diC K pn)))).1 1 = K.1 1 := congrFun eB 1
    have eNf : newK (stl (stl (diB K pn) 30 (some (tlA (diS K pn)))) 31 (some (tlA (diC K pn)))) pn = newK K pn := by show newK (diB K pn) pn = _; unfold newK; rw [eC]
    refine zastore (L1 := [_, _, _, _, _, _]) C dX7_dies_60 rfl (Nat.le_of_ble_eq_true rfl) ?_
    refine zaload_n C dX7_dies_62 rfl ?_
    refine zconst (v := 5) C dX7_dies_63 (by decide) ?_
    refine zaload_n C dX7_dies_64 rfl ?_
    refine zget C hf_X7_51 hp.main (by rfl) dX7_dies_65 ?_
    refine zcallV C (k_lawN 5 _ _ rfl (by decide) hp hlA hchA) hy_X2_numberOn hv_X2_numberOn hl_X7_114 (hp.lawo (l := l) hlA) rfl rfl rfl rfl (by decide) (by decide) (by omega) (by omega) rfl (by exact Nat.le_of_ble_eq_true rfl) dX7_dies_68 (fun v68 M hp68 => ?_)
    obtain ⟨hv68, rfl⟩ := hp68
    replace hv68 : v68 = lawK K (diL K pn) 5 (nI (K.1 1)) := by rw [hv68, eT, exl]; show lawK (diB K pn) l 5 _ = _; unfold lawK; rw [eC]
    subst hv68
    refine zconst (v := 1) C dX7_dies_71 (by decide) ?_
    refine zicmp_ne (tgt := 93) C dX7_dies_72 (by decide) (fun h72 => ?_) (fun h72 => ?_)
    · replace h72 : ¬ lawK K (diL K pn) 5 (nI (K.1 1)) = 1 := h72
      have eq : ∀ s, diQ K pn s = tlA s := fun s => if_neg h72
      replace hp : zP g (stl (stl (diB K pn) 30 (some (diQ K pn (diS K pn)))) 31 (some (diQ K pn (diC K pn)))) X ad2 M := by rw [eq, eq]; exact hp
      have hF : ∃ ad3, zP g (stl (stl (diB K pn) 30 (some (diQ K pn (diS K pn)))) 31 (some (diQ K pn (diC K pn)))) X ad3 M ∧ ∀ t : zg, t ≠ (8, 30) → t ≠ (8, 31) → ad3 t = ad2 t := ⟨ad2, hp, fun _ _ _ => rfl⟩
      obtain ⟨ad3, hp, hst3⟩ := hF
      rw [← hst3 (0, 0) (by simp) (by simp), ← hst3 (10, pn) (by simp) (by simp), ← hst3 (1, l) (by simp) (by simp), ← hst3 (7, 30) (by simp) (by simp), ← hst3 (7, 31) (by simp) (by simp)]
      have hqW : ∀ s : Nat × (Nat → Nat), s.1 ≤ 40 → (∀ x, x < s.1 → s.2 x < K.1 13) → liW (tlE (diQ K pn s)) ∧ ∀ i, i < (diQ K pn s).1 → (diQ K pn s).2.2.2 i < K.1 13 := fun s h40 hs => by
        by_cases hbr : lawK K (diL K pn) 5 (nI (K.1 1)) = 1
        · rw [show diQ K pn s = rmS K (newK K pn) s.1 (tlA s) from if_pos hbr]
          exact rmS_W s.1 (tlA s) (tlA_W (Nat.le_trans h40 (by decide))) hs (Nat.le_refl _)
        · rw [show diQ K pn s = tlA s from if_neg hbr]
          exact ⟨tlA_W (Nat.le_trans h40 (by decide)), hs⟩
      have z0 := hqW (diS K pn) (Nat.le_trans hsn (Nat.le_trans h25 (by decide))) hsi
      have z1 := hqW (diC K pn) (Nat.le_trans hcn h13) hci
      have f30 : ktl (stl (stl (diB K pn) 30 (some (diQ K pn (diS K pn)))) 31 (some (diQ K pn (diC K pn)))) 30 = some (diQ K pn (diS K pn)) := by rw [ktl_n (by decide), ktl_s]
      refine zaload_n C dX7_dies_93 rfl ?_
      refine zaload_n C dX7_dies_94 rfl ?_
      refine zaload C dX7_dies_95 rfl ?_
      refine zaload C dX7_dies_97 rfl ?_
      refine zaload_n C dX7_dies_99 rfl ?_
      refine zcallV C (k_leave (K := stl (stl (diB K pn) 30 (some (diQ K pn (diS K pn)))) 31 (some (diQ K pn (diC K pn)))) (d := pn) (l := l) hpnA hlA hp h13A hchA f30 z0.1 (fun i h => (show _ < (diB K pn).1 13 from by rw [eB]; exact z0.2 i h)) ktl_s z1.1 (fun i h => (show _ < (diB K pn).1 13 from by rw [eB]; exact z1.2 i h))) hy_X7_leaveEstate hv_X7_leaveEstate hl_X7_270 hp.main rfl rfl rfl rfl (by decide) (by decide) (by omega) (by omega) rfl (by exact Nat.le_of_ble_eq_true rfl) dX7_dies_100 (fun v100 M hpT => ?_)
      obtain ⟨rfl, hp⟩ := hpT
      rw [lvK_stl.1, lvK_stl.1] at hp
      have hp := (hp.drop (j := 31) (by decide))
      rw [stl_stl, stl_comm (by decide)] at hp
      have hp := (hp.drop (j := 30) (by decide))
      rw [stl_stl] at hp
      exact zend_l C hE dX7_dies_103 (by omega) (by omega) ⟨by rw [x_dies, zpn, epn]; simp [h10], by rw [epn, a_dies, exl, lvK_stl.2, lvK_stl.2], ad3, by rw [epn, k_dies, exl]; exact di_end htB hp, fun t ht => (hst3 t (fun e => by rw [e] at ht; rcases ht with h | h <;> simp at h) (fun e => by rw [e] at ht; rcases ht with h | h <;> simp at h)).trans ((hst2 t (fun e => by rw [e] at ht; rcases ht with h | h <;> simp at h) (fun e => by rw [e] at ht; rcases ht with h | h <;> simp at h)).trans (hst1 t (fun e => by rw [e] at ht; rcases ht with h | h <;> simp at h) (fun e => by rw [e] at ht; rcases ht with h | h <;> simp at h)))⟩
    · replace h72 : lawK K (diL K pn) 5 (nI (K.1 1)) = 1 := h72
      have eq : ∀ s, diQ K pn s = rmS K (newK K pn) s.1 (tlA s) := fun s => if_pos h72
      refine zaload C dX7_dies_75 rfl ?_
      refine zaload_n C dX7_dies_77 rfl ?_
      refine zcallV C (k_faithNow hp hpnA hchA) hy_X4_faithNow hv_X4_faithNow hl_X7_172 (hp.per (p := pn) hpnA) rfl rfl rfl rfl (by decide) (by decide) (by omega) (by omega) rfl (by exact Nat.le_of_ble_eq_true rfl) dX7_dies_78 (fun v78 M hp78 => ?_)
      obtain ⟨hv78, rfl⟩ := hp78
      rw [eNf] at hv78
      subst hv78
      refine zcallS C (k_removeOF (newK K pn) hp (by decide) h30 w30 hsiB h13A hchA h33A hWA) hy_X7_removeOtherFaiths hst_X7_removeOtherFaiths hl_X7_266 rfl rfl (by decide) (by decide) (by omega) (by omega) rfl (by exact Nat.le_of_ble_eq_true rfl) dX7_dies_81 (fun v81 M hpT => ?_)
      obtain ⟨ad4, hp, hst4⟩ := hpT
      rw [rmS_newK (K := K) (K1 := (stl (stl (diB K pn) 30 (some (tlA (diS K pn)))) 31 (some (tlA (diC K pn))))) eC, show (rmS K (newK K pn) (tlA (diS K pn)).1 (tlA (diS K pn))) = (diQ K pn (diS K pn)) from (eq _).symm, stl_comm (by decide), stl_stl] at hp
      obtain ⟨wq0, sq0⟩ := rmS_W (K := K) (fa := newK K pn) (n := (diB K pn).1 13) (tlA (diS K pn)).1 (tlA (diS K pn)) w30 hsiB (Nat.le_refl _)
      rw [show (rmS K (newK K pn) (tlA (diS K pn)).1 (tlA (diS K pn))) = (diQ K pn (diS K pn)) from (eq _).symm] at wq0 sq0
      rw [← hst4 (0, 0) (by simp), ← hst4 (10, pn) (by simp), ← hst4 (1, l) (by simp), ← hst4 (7, 30) (by simp), ← hst4 (7, 31) (by simp)]
      have hWA2 : iWf (stl (stl (diB K pn) 30 (some (diQ K pn (diS K pn)))) 31 (some (tlA (diC K pn)))) := iWf_stl (iWf_stl hWB sq0) hciB
      refine zaload C dX7_dies_84 rfl ?_
      refine zaload_n C dX7_dies_86 rfl ?_
      refine zcallV C (k_faithNow (K := stl (stl (diB K pn) 30 (some (diQ K pn (diS K pn)))) 31 (some (tlA (diC K pn)))) hp hpnA hchA) hy_X4_faithNow hv_X4_faithNow hl_X7_172 (hp.per (p := pn) hpnA) rfl rfl rfl rfl (by decide) (by decide) (by omega) (by omega) rfl (by exact Nat.le_of_ble_eq_true rfl) dX7_dies_87 (fun v87 M hp87 => ?_)
      obtain ⟨hv87, rfl⟩ := hp87
      replace hv87 : v87 = newK K pn := hv87.trans eNf
      subst hv87
      refine zcallS C (k_removeOF (K := stl (stl (diB K pn) 30 (some (diQ K pn (diS K pn)))) 31 (some (tlA (diC K pn)))) (newK K pn) hp (by decide) ktl_s w31 hciB h13A hchA h33A hWA2) hy_X7_removeOtherFaiths hst_X7_removeOtherFaiths hl_X7_266 rfl rfl (by decide) (by decide) (by omega) (by omega) rfl (by exact Nat.le_of_ble_eq_true rfl) dX7_dies_90 (fun v90 M hpT => ?_)
      obtain ⟨ad3, hp, hst5⟩ := hpT
      rw [rmS_newK (K := K) (K1 := stl (stl (diB K pn) 30 (some (diQ K pn (diS K pn)))) 31 (some (tlA (diC K pn)))) eC, show (rmS K (newK K pn) (tlA (diC K pn)).1 (tlA (diC K pn))) = (diQ K pn (diC K pn)) from (eq _).symm, stl_stl] at hp
      have hst3 : ∀ t : zg, t ≠ (8, 30) → t ≠ (8, 31) → ad3 t = ad2 t := fun t a b => (hst5 t b).trans (hst4 t a)
      rw [← hst5 (0, 0) (by simp), ← hst5 (10, pn) (by simp), ← hst5 (1, l) (by simp), ← hst5 (7, 30) (by simp), ← hst5 (7, 31) (by simp)]
      have hqW : ∀ s : Nat × (Nat → Nat), s.1 ≤ 40 → (∀ x, x < s.1 → s.2 x < K.1 13) → liW (tlE (diQ K pn s)) ∧ ∀ i, i < (diQ K pn s).1 → (diQ K pn s).2.2.2 i < K.1 13 := fun s h40 hs => by
        by_cases hbr : lawK K (diL K pn) 5 (nI (K.1 1)) = 1
        · rw [show diQ K pn s = rmS K (newK K pn) s.1 (tlA s) from if_pos hbr]
          exact rmS_W s.1 (tlA s) (tlA_W (Nat.le_trans h40 (by decide))) hs (Nat.le_refl _)
        · rw [show diQ K pn s = tlA s from if_neg hbr]
          exact ⟨tlA_W (Nat.le_trans h40 (by decide)), hs⟩
      have z0 := hqW (diS K pn) (Nat.le_trans hsn (Nat.le_trans h25 (by decide))) hsi
      have z1 := hqW (diC K pn) (Nat.le_trans hcn h13) hci
      have f30 : ktl (stl (stl (diB K pn) 30 (some (diQ K pn (diS K pn)))) 31 (some (diQ K pn (diC K pn)))) 30 = some (diQ K pn (diS K pn)) := by rw [ktl_n (by decide), ktl_s]
      refine zaload_n C dX7_dies_93 rfl ?_
      refine zaload_n C dX7_dies_94 rfl ?_
      refine zaload C dX7_dies_95 rfl ?_
      refine zaload C dX7_dies_97 rfl ?_
      refine zaload_n C dX7_dies_99 rfl ?_
      refine zcallV C (k_leave (K := stl (stl (diB K pn) 30 (some (diQ K pn (diS K pn)))) 31 (some (diQ K pn (diC K pn)))) (d := pn) (l := l) hpnA hlA hp h13A hchA f30 z0.1 (fun i h => (show _ < (diB K pn).1 13 from by rw [eB]; exact z0.2 i h)) ktl_s z1.1 (fun i h => (show _ < (diB K pn).1 13 from by rw [eB]; exact z1.2 i h))) hy_X7_leaveEstate hv_X7_leaveEstate hl_X7_270 hp.main rfl rfl rfl rfl (by decide) (by decide) (by omega) (by omega) rfl (by exact Nat.le_of_ble_eq_true rfl) dX7_dies_100 (fun v100 M hpT => ?_)
      obtain ⟨rfl, hp⟩ := hpT
      rw [lvK_stl.1, lvK_stl.1] at hp
      have hp := (hp.drop (j := 31) (by decide))
      rw [stl_stl, stl_comm (by decide)] at hp
      have hp := (hp.drop (j := 30) (by decide))
      rw [stl_stl] at hp
      exact zend_l C hE dX7_dies_103 (by omega) (by omega) ⟨by rw [x_dies, zpn, epn]; simp [h10], by rw [epn, a_dies, exl, lvK_stl.2, lvK_stl.2], ad3, by rw [epn, k_dies, exl]; exact di_end htB hp, fun t ht => (hst3 t (fun e => by rw [e] at ht; rcases ht with h | h <;> simp at h) (fun e => by rw [e] at ht; rcases ht with h | h <;> simp at h)).trans ((hst2 t (fun e => by rw [e] at ht; rcases ht with h | h <;> simp at h) (fun e => by rw [e] at ht; rcases ht with h | h <;> simp at h)).trans (hst1 t (fun e => by rw [e] at ht; rcases ht with h | h <;> simp at h) (fun e => by rw [e] at ht; rcases ht with h | h <;> simp at h)))⟩
  · replace h10 := b2i_0.mp h10
    exact zthrow C hE ht_X7_254_66 rfl (by decide) (by exact Nat.le_of_ble_eq_true rfl) (by omega) (by omega) dX7_dies_13 dX7_dies_16 dX7_dies_17 dX7_dies_19 dX7_dies_22 ⟨thr3 (by rw [x_dies, zpn, epn]; simp [h10]), rfl⟩
