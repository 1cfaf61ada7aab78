/-! one call on both sides: helpers; what the two states answer alike -/
def okcd (cds : List Nat) : Prop := ∀ i j c : Nat, cds[i]? = some c → cds[j]? = some c → i = j ∧ ¬ c = 0
theorem okcd_3 {a b c : Nat} (h : ¬ a = b ∧ ¬ a = c ∧ ¬ b = c ∧ ¬ a = 0 ∧ ¬ b = 0 ∧ ¬ c = 0) : okcd [a, b, c] := by
  intro i j x hi hj
  rcases i with _ | _ | _ | i <;> rcases j with _ | _ | _ | j <;> simp at hi hj <;> (constructor <;> omega)
theorem okcd_2 {a b : Nat} (h : ¬ a = b ∧ ¬ a = 0 ∧ ¬ b = 0) : okcd [a, b] := by
  intro i j x hi hj
  rcases i with _ | _ | i <;> rcases j with _ | _ | j <;> simp at hi hj <;> (constructor <;> omega)
theorem okcd_1 {a : Nat} (h : ¬ a = 0) : okcd [a] := by
  intro i j x hi hj
  rcases i with _ | i <;> rcases j with _ | j <;> simp at hi hj
  constructor <;> omega
section TIE
variable {n : Nat} {K K1 : zK} {S S1 : zS}
theorem tie.le (h : tie n K S) : n ≤ 512 := h.1.1.1
theorem tie.ik (h : tie n K S) : iK K := h.2.1.1
theorem tie.bd (h : tie n K S) : iBd K := h.2.1.1.1
theorem tie.N (h : tie n K S) : tN K S := h.2.2.1
theorem tie.P (h : tie n K S) : tieP K S := h.2.2.2.1
theorem tie.M (h : tie n K S) : tieM K S := h.2.2.2.2.1
theorem tie.Su (h : tie n K S) : tieS K S := h.2.2.2.2.2.1
theorem tie.C (h : tie n K S) : tieC K S := h.2.2.2.2.2.2
theorem cNb.up (h : cNb n K) (hn : n < 512) : cNb (n + 1) K := ⟨hn, fun i => Nat.le_succ_of_le (h.2.1 i), Nat.le_succ_of_le h.2.2.1, fun q hq => Nat.le_succ_of_le (h.2.2.2 q hq)⟩
theorem cG.up (h : cG n K) : cG (n + 1) K := ⟨h.1, by have := h.2; omega⟩
theorem tie.up (h : tie n K S) (hn : n < 512) : tie (n + 1) K S := ⟨⟨h.1.1.up hn, h.1.2.up⟩, h.2⟩
theorem tie.th (h : tie n K S) (x : Nat) : tie n K (th S x) := h
theorem lcal_thr {cds : List Nat} {eqv : Prop} (h : tie n K S) (hn : n < 512) (hc : okcd cds) (j x : Nat) (hj : cds[j]? = some x) : lcal tie n K x cds K1 (th S (j + 1)) eqv := by
  refine ⟨fun hx => absurd hx (hc j j x hj hj).2, fun i c hi hxc => ?_⟩
  subst hxc
  obtain ⟨rfl, -⟩ := hc i j x hi hj
  exact ⟨rfl, (h.up hn).th _⟩
theorem lcal_ok {cds : List Nat} {eqv : Prop} (hc : okcd cds) (h0 : S1.1 0 = 0) (he : eqv) (ht : tie (n + 1) K1 S1) (hcf : cF K ≤ cF K1) : lcal tie n K 0 cds K1 S1 eqv :=
  ⟨fun _ => ⟨h0, he, ht, hcf⟩, fun j c hj h => absurd h.symm (hc j j c hj hj).2⟩
theorem lcal_same {cds : List Nat} {eqv : Prop} (h : tie n K S) (hn : n < 512) (hc : okcd cds) (he : eqv) : lcal tie n K 0 cds K (th S 0) eqv := lcal_ok hc rfl he ((h.up hn).th 0) (Nat.le_refl _)
theorem rng_w (x a b : Int32) : wthn x a b = rng x a b := rfl
theorem rng_N {x : Int32} {a b : Nat} (hb : b < 2 ^ 30) (ha : a < 2 ^ 30) (h : rng x (nI a) (nI b) = true) : ∃ d, a ≤ d ∧ d ≤ b ∧ x = nI d := by
  unfold rng at h
  rw [Bool.and_eq_true, decide_eq_true_eq, decide_eq_true_eq, Int32.le_iff_toInt_le, Int32.le_iff_toInt_le, nI_toInt (by omega), nI_toInt (by omega)] at h
  obtain ⟨j, hj, e⟩ := vp_in_of (x := x) (n := b + 1) (vp_in_iff.mpr ⟨by omega, by omega⟩) (by omega)
  subst e
  rw [nI_toInt (by omega)] at h
  exact ⟨j, by omega, by omega, rfl⟩
theorem okc_K (h : tie n K S) (c : Int32) : okc S c = okK K c := by
  unfold okc okK
  rw [h.N.2.1]
theorem okK_of {c : Int32} (h : okK K c = true) (h6 : K.1 2 ≤ 6) : ∃ l, l ≤ K.1 2 ∧ c = lcode l ∧ lixN c = l := by
  unfold okK at h
  rw [Bool.or_eq_true, decide_eq_true_eq] at h
  rcases h with rfl | h
  · exact ⟨0, Nat.zero_le _, rfl, rfl⟩
  · obtain ⟨j, hj, rfl⟩ := zix_of h (by omega)
    have e : nI j = lcode (j + 1) := rfl
    exact ⟨j + 1, hj, e, by rw [e]; exact lixN_l (by omega)⟩
theorem t_law (h : tie n K S) {l w d : Nat} (hl : l ≤ K.1 2) (hw : w < 7) (hd : d ≤ 30000) : lawK K l w (nI d) = lawOf S (lcode l) (nI w) (nI d) := by
  have := (h.C.1.1 l w hl hw).1 d hd
  rw [h.N.2.2.1] at this
  exact this
theorem t_rule (h : tie n K S) {m d : Nat} (hm : m < 4) (hd : d ≤ 30000) : ruleK K m (nI d) = ruleOn S (nI m) (nI d) := by
  have := (h.C.2.1 m hm).1 d hd
  rw [h.N.2.2.2.1] at this
  exact this
theorem t_faith (h : tie n K S) {p : Nat} (hp : p < K.1 13) (d : Int32) : faithK K p d = faithAt S p d := by
  obtain ⟨h1, h2, h3, -⟩ := h.C.2.2.2 p hp
  have hc : chW (kch K (100 + p)) := h.ik.2.1.1 _
  have hk : (kch K (100 + p)).2.1 < 4096 := by have := hc.1; have := hc.2.2; omega
  unfold faithK chV faithAt faithOn fT
  rw [h1]
  have e : (nI ((kch K (100 + p)).2.1 + 1) - 1).toNatClampNeg = (kch K (100 + p)).2.1 := by
    rw [nI_pred, nI_clamp (by omega)]
  rw [e]
  have key : ∀ k, k ≤ (kch K (100 + p)).2.1 → chOn (kch K (100 + p)).2.2.1 (kch K (100 + p)).2.2.2 d k = S.2.2.1 21 (1024 * p + fIx (S.2.2.1 21) p d k) - S.2.2.1 21 (1024 * p + fIx (S.2.2.1 21) p d k) / 8 * 8 := by
    intro k
    induction k with
    | zero =>
      intro _
      obtain ⟨e, v, f0, a1, a2, a3, a4, a5, -⟩ := h3 0 (Nat.zero_le _)
      have := h.bd.1
      have := h.bd.2.1
      show (kch K (100 + p)).2.2.2 0 = S.2.2.1 21 (1024 * p + 0) - S.2.2.1 21 (1024 * p + 0) / 8 * 8
      rw [a5, a3, show (8 : Int32) = nI 8 from rfl, pk_rem (by omega) (by decide) (by decide)]
      congr 1
      omega
    | succ k ih =>
      intro hk1
      obtain ⟨e, v, f0, a1, a2, a3, a4, a5, -⟩ := h3 (k + 1) hk1
      have hb1 := h.bd.1
      have hb2 := h.bd.2.1
      have q8 : nI (8 * e + v) / 8 = nI e := by
        rw [show (8 : Int32) = nI 8 from rfl, pk_div (by omega) (by decide) (by decide)]
        congr 1
        omega
      show (if _ ≤ d then _ else _) = _
      unfold fIx
      rw [a5, q8, a1]
      by_cases hd : nI e ≤ d
      · rw [if_pos hd, if_neg (by rw [Int32.lt_iff_toInt_lt]; rw [Int32.le_iff_toInt_le] at hd; omega), a5, a3, show (8 : Int32) = nI 8 from rfl, pk_rem (by omega) (by decide) (by decide)]
        congr 1
        omega
      · rw [if_neg hd, if_pos (by rw [Int32.lt_iff_toInt_lt]; rw [Int32.le_iff_toInt_le] at hd; omega)]
        exact ih (by omega)
  exact key _ (Nat.le_refl _)
theorem t_newN (h : tie n K S) {p : Nat} (hp : p < K.1 13) : newK K p = faithK K p (nI (K.1 1)) := by
  obtain ⟨h1, h2, h3, -⟩ := h.C.2.2.2 p hp
  obtain ⟨e, v, f0, a1, a2, -⟩ := h3 _ (Nat.le_refl _)
  have hb1 := h.bd.1
  exact (chV_new (by rw [a1]; exact nI_le a2 (by omega))).symm
theorem t_new (h : tie n K S) {p : Nat} (hp : p < K.1 13) : newK K p = faithAt S p (nI (S.1 1)) := by
  rw [t_newN h hp, t_faith h hp, h.N.1]
/-- a person's faith on a day since birth is that of a community founded by then -/
theorem t_fc (h : tie n K S) {p b d : Nat} (hp : p < K.1 13) (hb : (kpe K p).2.2.2.1 = nI b) (hbd : b ≤ d) (hbt : b ≤ 30000) (hd : d ≤ 30000) : ∃ v f0, v < K.1 2 ∧ faithK K p (nI d) = nI v ∧ (kch K (rch v)).2.2.1 0 = nI f0 ∧ f0 ≤ d := by
  obtain ⟨h1, h2, h3, -⟩ := h.C.2.2.2 p hp
  obtain ⟨i, i1, i2, i3⟩ := chOn_ix (kch K (100 + p)).2.2.1 (kch K (100 + p)).2.2.2 (nI d) (kch K (100 + p)).2.1
  obtain ⟨e, v, f0, a1, a2, a3, a4, a5, a6, a7⟩ := h3 i i1
  have hb1 := h.bd.1
  refine ⟨v, f0, a4, i2.trans a3, a6, ?_⟩
  have : e ≤ d := by
    rcases i3 with rfl | i3
    · rw [h2, hb] at a1
      have := (nI_eq (by omega) (by omega)).mp a1
      omega
    · rw [a1] at i3
      exact Nat.le_of_not_lt fun hlt => nI_ge hlt (by omega) i3
  omega
theorem t_rec (h : tie n K S) {v f0 d : Nat} (hv : v < K.1 2) (hf : (kch K (rch v)).2.2.1 0 = nI f0) (hf3 : f0 ≤ 30000) (hfd : f0 ≤ d) (hd : d ≤ 30000) : recK K v (nI d) = b2i (recBit S v d) := by
  obtain ⟨g0, t, g1, g2, g3, g4, g5⟩ := h.C.2.2.1 v hv
  have hb1 := h.bd.1
  have : f0 = g0 := (nI_eq (by omega) (by omega)).mp (hf.symm.trans g3)
  exact g5 d (by omega) hd
theorem t_crt (h : tie n K S) {m p q b1 b2 d : Nat} (hm : m < 4) (hp : p < K.1 13) (hq : q < K.1 13) (hb1 : (kpe K p).2.2.2.1 = nI b1) (hb2 : (kpe K q).2.2.2.1 = nI b2) (h1 : b1 ≤ d) (h2 : b2 ≤ d) (hd : d ≤ 30000) : crtK K m p q (nI d) = courtOn S (nI m) p q d := by
  obtain ⟨v, f0, a1, a2, a3, a4⟩ := t_fc h hp hb1 h1 (by omega) hd
  obtain ⟨u, g0, c1, c2, c3, c4⟩ := t_fc h hq hb2 h2 (by omega) hd
  have h6 := h.bd.2.1
  unfold crtK courtOn
  rw [t_rule h hm hd, ← t_faith h hp, ← t_faith h hq, a2, c2]
  have kv : crtF K (nI v) (nI d) = courtC S (nI v) d := by
    unfold crtF courtC
    rw [if_neg (nI_m1 (by omega)), if_neg (nI_m1 (by omega)), nI_clamp (by omega), t_rec h a1 a3 (by omega) a4 hd]
    cases recBit S v d <;> rfl
  have ku : crtF K (nI u) (nI d) = courtC S (nI u) d := by
    unfold crtF courtC
    rw [if_neg (nI_m1 (by omega)), if_neg (nI_m1 (by omega)), nI_clamp (by omega), t_rec h c1 c3 (by omega) c4 hd]
    cases recBit S u d <;> rfl
  unfold fthR courtF
  obtain ⟨j, hj, hr⟩ : ∃ j, j < 4 ∧ ruleOn S (nI m) (nI d) = nI j := by
    rw [← t_rule h hm hd]
    obtain ⟨i, i1, i2, -⟩ := chOn_ix (kch K m).2.2.1 (kch K m).2.2.2 (nI d) (kch K m).2.1
    obtain ⟨j, j1, j2⟩ := (h.C.2.1 m hm).2.2.2 i i1
    exact ⟨j, j1, i2.trans j2⟩
  rw [hr]
  rcases (by omega : j = 0 ∨ j = 1 ∨ j = 2 ∨ j = 3) with rfl | rfl | rfl | rfl
  · exact kv
  · exact ku
  · show crtF K (if nI v = nI u then nI v else -1) (nI d) = courtC S (if nI v = nI u then nI v else -1) d
    split
    · exact kv
    · rfl
  · rfl
theorem t_min (h : tie n K S) {p : Nat} (hp : p < K.1 13) : minK K p (nI (K.1 1)) = isMinor S p := by
  unfold minK isMinor
  rw [h.N.1, (h.P.1 p hp).2.2.2.1]
theorem t_liv (h : tie n K S) {p : Nat} (hp : p < K.1 13) : decide (S.2.2.1 18 p = 0) = (kpe K p).2.2.2.2.1 := by
  rw [(h.P.1 p hp).2.2.2.2.1]
  cases (kpe K p).2.2.2.2.1 <;> rfl
theorem t_gro (h : tie n K S) {p : Nat} (hp : p < K.1 13) : groK K p (nI (K.1 1)) = isGrown S p := by
  unfold groK isGrown
  rw [t_min h hp, t_liv h hp]
theorem t_now (h : tie n K S) {m p q : Nat} (hm : m < 4) (hp : p < K.1 13) (hq : q < K.1 13) : crtK K m p q (nI (K.1 1)) = courtOn S (nI m) p q (S.1 1) := by
  obtain ⟨b1, a1, a2, -⟩ := h.P.2.1 p hp
  obtain ⟨b2, c1, c2, -⟩ := h.P.2.1 q hq
  rw [t_crt h hm hp hq a2 c2 a1 c1 h.bd.1, h.N.1]
end TIE
