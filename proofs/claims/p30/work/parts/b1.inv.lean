/-! what holds of one object's state: goods are what was brought, the dead have none, marriages, suits, laws' numbers -/
def iG (B : Int) (K : zK) : Prop := K.2.1.toInt + sumG (kpe K) (K.1 13) = B ∧ 0 ≤ K.2.1.toInt
def iDd (K : zK) : Prop := (∀ p, p < K.1 13 → (kpe K p).2.2.2.2.1 = false → (kpe K p).2.2.2.2.2.1 = 0) ∧ ∀ m, m < K.1 25 → (kma K m).2.2.2.1 = 0 → (kpe K (kma K m).1).2.2.2.2.1 = true ∧ (kpe K (kma K m).2.1).2.2.2.2.1 = true
def iMt (K : zK) : Prop := ∀ m, m < K.1 25 → ((kma K m).2.2.2.1 = 0 ∨ (kma K m).2.2.2.1 = 1 ∨ (kma K m).2.2.2.1 = 2) ∧ (¬ (kma K m).2.2.2.1 = 0 → (kma K m).2.2.2.2.1 = 0)
def iSt (K : zK) : Prop := ∀ s, s < K.1 33 → (((ksu K s).2.2.2.2.1 = 0 ∨ (ksu K s).2.2.2.2.1 = 1) → (ksu K s).2.2.2.2.2.2.2.1 = -1) ∧ hrd (kws K s).2.1 (ksu K s).1 (kws K s).1 = false ∧ hrd (kws K s).2.1 (ksu K s).2.1 (kws K s).1 = false
def iL0 (K : zK) : Prop := ∀ l w, l ≤ K.1 2 → w < 7 → ∀ i, i ≤ (kch K (lch l w)).2.1 → ∃ j, j ≤ 100 ∧ (kch K (lch l w)).2.2.2 i = nI j
def iJ (B : Int) (K : zK) : Prop := iG B K ∧ iDd K ∧ iMt K ∧ iSt K ∧ iL0 K
section INV
variable {n : Nat} {B : Int} {K K1 : zK} {S : zS}
theorem iG_s (h : iG B K) (hc : K1.2.1 = K.2.1) (h13 : K1.1 13 = K.1 13) (hp : ∀ p, p < K.1 13 → (kpe K1 p).2.2.2.2.2.1 = (kpe K p).2.2.2.2.2.1) : iG B K1 := by
  unfold iG
  rw [hc, h13, sumG_cg _ hp]
  exact h
theorem iDd_s (h : iDd K) (hma : iMa K) (h13 : K1.1 13 = K.1 13) (h25 : K1.1 25 = K.1 25) (hp : ∀ p, p < K.1 13 → (kpe K1 p).2.2.2.2.1 = (kpe K p).2.2.2.2.1 ∧ ((kpe K p).2.2.2.2.1 = false → (kpe K1 p).2.2.2.2.2.1 = (kpe K p).2.2.2.2.2.1)) (hm : ∀ m, m < K.1 25 → (kma K1 m).1 = (kma K m).1 ∧ (kma K1 m).2.1 = (kma K m).2.1 ∧ ((kma K1 m).2.2.2.1 = 0 → (kma K m).2.2.2.1 = 0)) : iDd K1 := by
  refine ⟨fun p hp1 hl => ?_, fun m hm1 hs => ?_⟩
  · rw [h13] at hp1
    obtain ⟨a1, a2⟩ := hp p hp1
    rw [a1] at hl
    rw [a2 hl]
    exact h.1 p hp1 hl
  · rw [h25] at hm1
    obtain ⟨b1, b2, b3⟩ := hm m hm1
    obtain ⟨c1, c2, -⟩ := hma m hm1
    obtain ⟨d1, d2⟩ := h.2 m hm1 (b3 hs)
    rw [b1, b2, (hp _ c1).1, (hp _ c2).1]
    exact ⟨d1, d2⟩
theorem iMt_s (h : iMt K) (h25 : K1.1 25 = K.1 25) (hm : ∀ m, m < K.1 25 → (kma K1 m).2.2.2.1 = (kma K m).2.2.2.1 ∧ (kma K1 m).2.2.2.2.1 = (kma K m).2.2.2.2.1) : iMt K1 := by
  intro m hm1
  rw [h25] at hm1
  obtain ⟨b1, b2⟩ := hm m hm1
  rw [b1, b2]
  exact h m hm1
theorem iSt_s (h : iSt K) (h33 : K1.1 33 = K.1 33) (hs : ∀ s, s < K.1 33 → (ksu K1 s).1 = (ksu K s).1 ∧ (ksu K1 s).2.1 = (ksu K s).2.1 ∧ (((ksu K1 s).2.2.2.2.1 = 0 ∨ (ksu K1 s).2.2.2.2.1 = 1) → ((ksu K s).2.2.2.2.1 = 0 ∨ (ksu K s).2.2.2.2.1 = 1) ∧ (ksu K1 s).2.2.2.2.2.2.2.1 = (ksu K s).2.2.2.2.2.2.2.1)) (hw : ∀ s, s < K.1 33 → kws K1 s = kws K s) : iSt K1 := by
  intro s hs1
  rw [h33] at hs1
  obtain ⟨b1, b2, b3⟩ := hs s hs1
  obtain ⟨c1, c2, c3⟩ := h s hs1
  rw [b1, b2, hw s hs1]
  refine ⟨fun hh => ?_, c2, c3⟩
  obtain ⟨d1, d2⟩ := b3 hh
  rw [d2]
  exact c1 d1
theorem iL0_s (h : iL0 K) (h2 : K1.1 2 = K.1 2) (hl : ∀ l w, l ≤ K.1 2 → w < 7 → kch K1 (lch l w) = kch K (lch l w)) : iL0 K1 := by
  intro l w hl1 hw
  rw [h2] at hl1
  rw [hl l w hl1 hw]
  exact h l w hl1 hw
/-- only chronicles change -/
theorem iJ_ch (h : iJ B K) {c : Nat → zCh} (hl : ∀ l w, l ≤ K.1 2 → w < 7 → c (lch l w) = kch K (lch l w)) {N : Nat → Nat} (h2 : N 2 = K.1 2) (h13 : N 13 = K.1 13) (h25 : N 25 = K.1 25) (h33 : N 33 = K.1 33) : iJ B (N, K.2.1, c, K.2.2.2) := by
  obtain ⟨a, b, d, e, f⟩ := h
  refine ⟨iG_s a rfl h13 (fun _ _ => rfl), ?_, iMt_s d h25 (fun _ _ => ⟨rfl, rfl⟩), iSt_s e h33 (fun _ _ => ⟨rfl, rfl, fun h => ⟨h, rfl⟩⟩) (fun _ _ => rfl), iL0_s f h2 hl⟩
  unfold iDd
  refine ⟨fun p hp => b.1 p (by rw [← h13]; exact hp), fun m hm => b.2 m (by rw [← h25]; exact hm)⟩
/-- one person's things but lives and goods -/
theorem iJ_pe (h : iJ B K) (hma : iMa K) {p : Nat} {x : zPe} (h1 : x.2.2.2.2.1 = (kpe K p).2.2.2.2.1) (h2 : x.2.2.2.2.2.1 = (kpe K p).2.2.2.2.2.1) : iJ B (spe K p x) := by
  obtain ⟨a, b, d, e, f⟩ := h
  have hq : ∀ q, (kpe (spe K p x) q).2.2.2.2.1 = (kpe K q).2.2.2.2.1 ∧ (kpe (spe K p x) q).2.2.2.2.2.1 = (kpe K q).2.2.2.2.2.1 := fun q => by
    show (va_up (kpe K) p x q).2.2.2.2.1 = _ ∧ (va_up (kpe K) p x q).2.2.2.2.2.1 = _
    by_cases eq : q = p
    · subst eq; rw [up_eq]; exact ⟨h1, h2⟩
    · rw [up_ne eq]; exact ⟨rfl, rfl⟩
  exact ⟨iG_s a rfl rfl (fun q _ => (hq q).2), iDd_s b hma rfl rfl (fun q _ => ⟨(hq q).1, fun _ => (hq q).2⟩) (fun _ _ => ⟨rfl, rfl, id⟩), iMt_s d rfl (fun _ _ => ⟨rfl, rfl⟩), iSt_s e rfl (fun _ _ => ⟨rfl, rfl, fun h => ⟨h, rfl⟩⟩) (fun _ _ => rfl), iL0_s f rfl (fun _ _ _ _ => rfl)⟩
/-- one suit's things -/
theorem iJ_su (h : iJ B K) (hma : iMa K) {s : Nat} {x : zSu} (h1 : x.1 = (ksu K s).1 ∧ x.2.1 = (ksu K s).2.1) (h2 : (x.2.2.2.2.1 = 0 ∨ x.2.2.2.2.1 = 1) → ((ksu K s).2.2.2.2.1 = 0 ∨ (ksu K s).2.2.2.2.1 = 1) ∧ x.2.2.2.2.2.2.2.1 = (ksu K s).2.2.2.2.2.2.2.1) : iJ B (ssu K s x) := by
  obtain ⟨a, b, d, e, f⟩ := h
  refine ⟨a, b, d, iSt_s e rfl (fun q _ => ?_) (fun _ _ => rfl), f⟩
  show (va_up (ksu K) s x q).1 = _ ∧ (va_up (ksu K) s x q).2.1 = _ ∧ _
  show (va_up (ksu K) s x q).1 = _ ∧ (va_up (ksu K) s x q).2.1 = _ ∧ (((va_up (ksu K) s x q).2.2.2.2.1 = 0 ∨ (va_up (ksu K) s x q).2.2.2.2.1 = 1) → _ ∧ (va_up (ksu K) s x q).2.2.2.2.2.2.2.1 = _)
  by_cases eq : q = s
  · subst eq; rw [up_eq]; exact ⟨h1.1, h1.2, h2⟩
  · rw [up_ne eq]; exact ⟨rfl, rfl, fun h => ⟨h, rfl⟩⟩
theorem j_community (h : iJ B K) (h2 : K.1 2 < 6) : iJ B (newC K (nI (K.1 1))) := by
  obtain ⟨a, b, d, e, f⟩ := h
  refine ⟨a, b, d, e, fun l w hl hw => ?_⟩
  have hl : l ≤ K.1 2 + 1 := hl
  show ∀ i, i ≤ (comF (kch K) (K.1 2) (nI (K.1 1)) (lch l w)).2.1 → ∃ j, j ≤ 100 ∧ (comF (kch K) (K.1 2) (nI (K.1 1)) (lch l w)).2.2.2 i = nI j
  unfold comF
  by_cases ee : l = K.1 2 + 1
  · rw [if_pos (by unfold lch; omega), if_neg (by unfold lch; omega)]
    intro i hi
    have hi : i ≤ 0 := hi
    obtain rfl : i = 0 := by omega
    show ∃ j, j ≤ 100 ∧ upd (fun _ => 0) 0 (zLF (lch l w - (12 + 8 * K.1 2))) 0 = nI j
    rw [pk_us, show lch l w - (12 + 8 * K.1 2) = w by unfold lch; omega]
    match w, hw with
    | 0, _ => exact ⟨0, by decide, rfl⟩
    | 1, _ => exact ⟨2, by decide, rfl⟩
    | 2, _ => exact ⟨1, by decide, rfl⟩
    | 3, _ => exact ⟨25, by decide, rfl⟩
    | 4, _ => exact ⟨1, by decide, rfl⟩
    | 5, _ => exact ⟨0, by decide, rfl⟩
    | 6, _ => exact ⟨63, by decide, rfl⟩
  · rw [if_neg (by unfold lch; omega)]
    exact f l w (by omega) hw
theorem j_recognise (h : iJ B K) (c : Int32) (on : Bool) : iJ B (k_recognise K c on) := iJ_ch h (N := K.1) (fun l w _ hw => up_ne (by unfold lch rch; omega)) rfl rfl rfl rfl
theorem j_decree (h : iJ B K) (c w x : Int32) (hx : x_decree K c w x = 0) : iJ B (k_decree K c w x) := by
  obtain ⟨a, b, d, e, hL⟩ := h
  refine ⟨a, b, d, e, ?_⟩
  unfold x_decree at hx
  by_cases e1 : okK K c = false
  · rw [if_pos e1] at hx; cases hx
  rw [if_neg e1] at hx
  by_cases e2 : (wthn w 0 6 && wthn x (zLL w.toNatClampNeg) (zLH w.toNatClampNeg)) = false
  · rw [if_pos e2] at hx; cases hx
  have e2 := bF e2
  rw [Bool.and_eq_true] at e2
  obtain ⟨e2, e3⟩ := e2
  obtain ⟨dd, d1, d2, rfl⟩ := rng_N (a := 0) (b := 6) (by decide) (by decide) e2
  rw [nI_clamp (by omega)] at e3
  have hx100 : ∃ j, j ≤ 100 ∧ x = nI j := by
    have hh : ∃ lo hi : Nat, hi ≤ 100 ∧ lo ≤ hi ∧ zLL dd = nI lo ∧ zLH dd = nI hi := by
      match dd, d2 with
      | 0, _ => exact ⟨0, 2, by decide, by decide, rfl, rfl⟩
      | 1, _ => exact ⟨0, 3, by decide, by decide, rfl, rfl⟩
      | 2, _ => exact ⟨1, 4, by decide, by decide, rfl, rfl⟩
      | 3, _ => exact ⟨0, 100, by decide, by decide, rfl, rfl⟩
      | 4, _ => exact ⟨0, 1, by decide, by decide, rfl, rfl⟩
      | 5, _ => exact ⟨0, 1, by decide, by decide, rfl, rfl⟩
      | 6, _ => exact ⟨0, 63, by decide, by decide, rfl, rfl⟩
      | k + 7, h => omega
    obtain ⟨lo, hi, q1, q2, q3, q4⟩ := hh
    rw [q3, q4] at e3
    obtain ⟨v, v1, v2, v3⟩ := rng_N (x := x) (a := lo) (b := hi) (by omega) (by omega) e3
    exact ⟨v, by omega, v3⟩
  intro l u hl hu
  have hl : l ≤ K.1 2 := hl
  show ∀ i, i ≤ (va_up (kch K) (lch (lixN c) (nI dd).toNatClampNeg) (tellS (kch K (lch (lixN c) (nI dd).toNatClampNeg)) (nI (K.1 1)) x) (lch l u)).2.1 → ∃ j, j ≤ 100 ∧ (va_up (kch K) (lch (lixN c) (nI dd).toNatClampNeg) (tellS (kch K (lch (lixN c) (nI dd).toNatClampNeg)) (nI (K.1 1)) x) (lch l u)).2.2.2 i = nI j
  rw [nI_clamp (by omega)]
  by_cases ee : lch l u = lch (lixN c) dd
  · rw [← ee, up_eq]
    exact tell_v (P := fun y => ∃ j, j ≤ 100 ∧ y = nI j) hx100 (hL l u hl hu)
  · rw [up_ne ee]
    exact hL l u hl hu
theorem j_rule (h : iJ B K) (m r : Int32) (hx : x_rule K m r = 0) : iJ B (k_rule K m r) := by
  unfold x_rule at hx
  by_cases e1 : (wthn m 0 3 && wthn r 0 3) = false
  · rw [if_pos e1] at hx; cases hx
  have e1 := bF e1
  rw [Bool.and_eq_true] at e1
  obtain ⟨d, d1, d2, rfl⟩ := rng_N (a := 0) (b := 3) (by decide) (by decide) e1.1
  refine iJ_ch h (fun l w _ hw => ?_) rfl rfl rfl rfl
  rw [nI_clamp (by omega)]
  exact up_ne (by unfold lch; omega)
theorem j_person (h : iJ B K) (man : Bool) (mo fa f : Int32) (hb2 : K.1 2 ≤ 6) : iJ B (k_person K man mo fa f) := by
  obtain ⟨a, b, d, e, g⟩ := h
  have hlt : ∀ q, q < K.1 13 → kpe (k_person K man mo fa f) q = kpe K q := fun q hq => up_ne (by omega)
  have hnew : (kpe (k_person K man mo fa f) (K.1 13)).2.2.2.2.1 = true ∧ (kpe (k_person K man mo fa f) (K.1 13)).2.2.2.2.2.1 = 0 := by
    have : kpe (k_person K man mo fa f) (K.1 13) = (man, omo mo, omo fa, nI (K.1 1), true, 0, -1, -1, 0) := up_eq
    rw [this]
    exact ⟨rfl, rfl⟩
  refine ⟨⟨?_, a.2⟩, ⟨fun p hp hl => ?_, fun m hm hs => ?_⟩, d, e, iL0_s g rfl (fun l w hl hw => up_ne (by unfold lch; omega))⟩
  · show K.2.1.toInt + (sumG (kpe (k_person K man mo fa f)) (K.1 13) + (kpe (k_person K man mo fa f) (K.1 13)).2.2.2.2.2.1.toInt) = B
    rw [hnew.2, sumG_cg _ (fun q hq => congrArg (fun x : zPe => x.2.2.2.2.2.1) (hlt q hq))]
    exact (congrArg (K.2.1.toInt + ·) (Int.add_zero _)).trans a.1
  · have hp : p < K.1 13 + 1 := hp
    by_cases ee : p = K.1 13
    · rw [ee, hnew.1] at hl; cases hl
    · rw [hlt p (by omega)] at hl ⊢
      exact b.1 p (by omega) hl
  · have hm : m < K.1 25 := hm
    obtain ⟨q1, q2⟩ := b.2 m hm hs
    have n1 : ∀ q, (kpe K q).2.2.2.2.1 = true → (kpe (k_person K man mo fa f) q).2.2.2.2.1 = true := fun q hq => by
      by_cases ee : q = K.1 13
      · rw [ee]; exact hnew.1
      · have : kpe (k_person K man mo fa f) q = kpe K q := up_ne ee
        rw [this]; exact hq
    exact ⟨n1 _ q1, n1 _ q2⟩
theorem j_marry (h : iJ B K) (a w d : Int32) (hx : x_marry K a w d = 0) : iJ B (k_marry K a w d) := by
  obtain ⟨g1, g2, g3, g4, g5⟩ := h
  unfold x_marry at hx
  by_cases e1 : (zix a (K.1 13) && zix w (K.1 13)) = false
  · rw [if_pos e1] at hx; cases hx
  rw [if_neg e1] at hx
  by_cases e2 : (((kpe K a.toNatClampNeg).1 && !(kpe K w.toNatClampNeg).1) && wthn d 0 1000000) = false
  · rw [if_pos e2] at hx; cases hx
  rw [if_neg e2] at hx
  by_cases e3 : ((groK K a.toNatClampNeg (nI (K.1 1)) && groK K w.toNatClampNeg (nI (K.1 1))) && (mayK K a.toNatClampNeg w.toNatClampNeg (lixN (crtK K 0 a.toNatClampNeg w.toNatClampNeg (nI (K.1 1)))) && decide (K.1 25 < 30))) = false
  · rw [if_pos e3] at hx; cases hx
  have e3 := bF e3
  rw [Bool.and_eq_true, Bool.and_eq_true] at e3
  obtain ⟨⟨l1, l2⟩, -⟩ := e3
  have l1 : (kpe K a.toNatClampNeg).2.2.2.2.1 = true := by unfold groK at l1; rw [Bool.and_eq_true] at l1; exact l1.1
  have l2 : (kpe K w.toNatClampNeg).2.2.2.2.1 = true := by unfold groK at l2; rw [Bool.and_eq_true] at l2; exact l2.1
  unfold k_marry
  generalize a.toNatClampNeg = i at *
  generalize w.toNatClampNeg = j at *
  have hnew : ∀ q, kma (newM K (marX K i j d)) q = if q = K.1 25 then marX K i j d else kma K q := fun q => rfl
  refine ⟨g1, ⟨g2.1, fun m hm hs => ?_⟩, fun m hm => ?_, g4, g5⟩
  · have hm : m < K.1 25 + 1 := hm
    show (kpe K (kma (newM K (marX K i j d)) m).1).2.2.2.2.1 = true ∧ (kpe K (kma (newM K (marX K i j d)) m).2.1).2.2.2.2.1 = true
    rw [hnew] at hs ⊢
    by_cases e : m = K.1 25
    · rw [if_pos e]; exact ⟨l1, l2⟩
    · rw [if_neg e] at hs ⊢; exact g2.2 m (by omega) hs
  · have hm : m < K.1 25 + 1 := hm
    rw [hnew]
    by_cases e : m = K.1 25
    · rw [if_pos e]; exact ⟨Or.inl rfl, fun hh => absurd rfl hh⟩
    · rw [if_neg e]; exact g3 m (by omega)
theorem j_goods (h : iJ B K) (ht : tie n K S) (hn : n ≤ 512) (p x : Int32) (hx : x_goods K p x = 0) : iJ (B + x.toInt) (k_goods K p x) ∧ 0 ≤ x.toInt ∧ x.toInt ≤ 1000000 ∧ 0 ≤ ((kpe K p.toNatClampNeg).2.2.2.2.2.1 + x.toInt64).toInt := by
  obtain ⟨g1, g2, g3, g4, g5⟩ := h
  have hb5 := ht.bd.2.2.2.2.1
  unfold x_goods at hx
  by_cases e1 : zix p (K.1 13) = false
  · rw [if_pos e1] at hx; cases hx
  rw [if_neg e1] at hx
  by_cases e2 : wthn x 1 1000000 = false
  · rw [if_pos e2] at hx; cases hx
  rw [if_neg e2] at hx
  by_cases e3 : (kpe K p.toNatClampNeg).2.2.2.2.1 = false
  · rw [if_pos e3] at hx; cases hx
  obtain ⟨j, hj, rfl⟩ := zix_of (bF e1) (by omega)
  obtain ⟨c, c1, c2, rfl⟩ := rng_N (x := x) (a := 1) (b := 1000000) (by decide) (by decide) (bF e2)
  unfold k_goods
  rw [nI_clamp (by omega)] at e3 ⊢
  have ga := ht.1.2.1 j hj
  have gs := sumG_one ht.1.2.1 hj
  have gt := ht.1.2.2
  have hc64 : (nI c).toInt64.toInt = (c : Int) := nI64i (by omega)
  have add : ((kpe K j).2.2.2.2.2.1 + (nI c).toInt64).toInt = (kpe K j).2.2.2.2.2.1.toInt + c := by
    rw [Int64.toInt_add, hc64]
    apply Int.bmod_eq_of_le <;> omega
  have hs := sumG_up (f := kpe K) (j := j) (x := peGoo (kpe K j) ((kpe K j).2.2.2.2.2.1 + (nI c).toInt64)) (K.1 13) hj
  have e5 : (peGoo (kpe K j) ((kpe K j).2.2.2.2.2.1 + (nI c).toInt64)).2.2.2.2.2.1.toInt = (kpe K j).2.2.2.2.2.1.toInt + c := add
  rw [e5] at hs
  have hci : (nI c).toInt = (c : Int) := nI_toInt (by omega)
  rw [hci, add]
  refine ⟨⟨⟨?_, g1.2⟩, ?_, g3, g4, g5⟩, by omega, by omega, by omega⟩
  · have := g1.1
    show K.2.1.toInt + sumG (va_up (kpe K) j (peGoo (kpe K j) ((kpe K j).2.2.2.2.2.1 + (nI c).toInt64))) (K.1 13) = _
    omega
  · refine iDd_s g2 ht.ik.2.2.1.1 rfl rfl (fun q hq => ?_) (fun _ _ => ⟨rfl, rfl, id⟩)
    show (va_up (kpe K) j (peGoo (kpe K j) _) q).2.2.2.2.1 = _ ∧ (_ → (va_up (kpe K) j (peGoo (kpe K j) _) q).2.2.2.2.2.1 = _)
    by_cases e : q = j
    · subst e
      rw [up_eq]
      exact ⟨rfl, fun hh => absurd hh (by rw [bF e3]; decide)⟩
    · rw [up_ne e]; exact ⟨rfl, fun _ => rfl⟩
theorem j_pass (h : iJ B K) (hma : iMa K) (hb2 : K.1 2 ≤ 6) (d : Nat) : iJ B (psK K d) := by
  obtain ⟨g1, g2, g3, g4, g5⟩ := h
  obtain ⟨a1, a2, a3, a4⟩ := psK_fr K d
  have e13 := psKj K (j := 13) (by decide) d
  have e25 := psKj K (j := 25) (by decide) d
  have e33 := psKj K (j := 33) (by decide) d
  have e2 := psKj K (j := 2) (by decide) d
  have em : kma (psK K d) = kma K := congrArg Prod.fst a2
  have es : ksu (psK K d) = ksu K := congrArg (fun x => x.2.1) a2
  have ew : kws (psK K d) = kws K := congrArg (fun x => x.2.2.1) a2
  refine ⟨iG_s g1 a1 e13 (fun q _ => (a3 q).2.2.2.2.2), iDd_s g2 hma e13 e25 (fun q _ => ⟨(a3 q).2.2.2.2.1, fun _ => (a3 q).2.2.2.2.2⟩) (fun m _ => by rw [em]; exact ⟨rfl, rfl, id⟩), iMt_s g3 e25 (fun m _ => by rw [em]; exact ⟨rfl, rfl⟩), iSt_s g4 e33 (fun s _ => by rw [es]; exact ⟨rfl, rfl, fun h => ⟨h, rfl⟩⟩) (fun s _ => by rw [ew]), iL0_s g5 e2 (fun l w hl hw => a4 _ (by unfold lch; omega))⟩
end INV
