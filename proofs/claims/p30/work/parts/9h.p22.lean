/-! pass: those who follow, one after the other -/
section TIE22
variable {n : Nat} {K K1 : zK} {S S1 : zS}
def tkd (K : zK) (q : Nat) : Prop := (kch K (100 + q)).2.2.1 (kch K (100 + q)).2.1 = nI (K.1 1)
/-- by whom one took a faith today -/
def rtP (mn : Nat → Bool) (ld : Nat → Option Nat) (root : Nat → Nat) (tk : Nat → Prop) (q : Nat) : Prop := mn (root q) = false ∧ (q = root q ∨ (mn q = true ∧ ∃ l, ld q = some l ∧ (l = root q ∨ (tk l ∧ root l = root q))))
def stt (mn : Nat → Bool) (ld : Nat → Option Nat) (K : zK) : Prop := ∀ q, q < K.1 13 → minK K q (nI (K.1 1)) = mn q ∧ ldrOf (kpe K q) = ld q
theorem zsA_self (S : zS) (j : Nat) : zsA S j (S.2.2.1 j) = S := by
  have : va_up S.2.2.1 j (S.2.2.1 j) = S.2.2.1 := by
    funext q
    by_cases e : q = j
    · subst e; exact up_eq
    · exact up_ne e
  show (S.1, S.2.1, va_up S.2.2.1 j (S.2.2.1 j), S.2.2.2) = S
  rw [this]
theorem zsA_2 (S : zS) (j : Nat) (a b : Nat → Int32) : zsA (zsA S j a) j b = zsA S j b := by
  show (S.1, S.2.1, va_up (va_up S.2.2.1 j a) j b, S.2.2.2) = (S.1, S.2.1, va_up S.2.2.1 j b, S.2.2.2)
  rw [up2]
theorem fol_no (h : dRk K S) {k : Nat} (hk : k < K.1 13) (hpa : iPa K) {r : Nat → Int32} (hr : ∀ q, q < k → r q = 0) (f : Int32) : follows (zsA S 24 r) k f = false := by
  obtain ⟨q1, q2⟩ := dR_par h hk hpa
  have l13 := h.2.2.1
  unfold follows
  show (decide (parentOf S k ≠ -1) && (decide (r (parentOf S k).toNatClampNeg ≠ 0) && _)) = false
  rw [q1]
  cases hl : ldrOf (kpe K k) with
  | none => rw [show ocode none = -1 from rfl, decide_eq_false (fun hh => hh rfl)]; rfl
  | some q =>
    have := q2 q hl
    rw [show ocode (some q) = nI q from rfl, nI_clamp (by omega), hr q this, decide_eq_false (show ¬ (0 : Int32) ≠ 0 from fun hh => hh rfl)]
    simp
/-- before the one who turns nobody follows -/
theorem turn_lo (h : dRk K S) (hpa : iPa K) {p : Nat} (hp : p < K.1 13) (f : Int32) : ∀ k, k ≤ p + 1 → ∃ r, turnL p f S k = zsA S 24 r ∧ ∀ q, q < k → r q = b2i (decide (q = p))
  | 0, _ => ⟨S.2.2.1 24, (zsA_self S 24).symm, fun q hq => absurd hq (Nat.not_lt_zero _)⟩
  | k + 1, hk => by
    obtain ⟨r, r1, r2⟩ := turn_lo h hpa hp f k (by omega)
    refine ⟨upd r k (b2i (decide (k = p))), ?_, fun q hq => ?_⟩
    · show turnK p f (turnL p f S k) k = _
      rw [r1]
      unfold turnK
      have e1 : zsA (zsA S 24 r) 24 (upd ((zsA S 24 r).2.2.1 24) k (b2i (decide (k = p)))) = zsA S 24 (upd r k (b2i (decide (k = p)))) := zsA_2 S 24 r _
      rw [e1, if_neg]
      rintro ⟨h1, h2⟩
      rw [fol_no h (by omega) hpa (fun q hq => by rw [pk_un (by omega), r2 q hq, decide_eq_false (by omega)]; rfl)] at h2
      cases h2
    · by_cases e : q = k
      · subst e; exact pk_us
      · rw [pk_un e]; exact r2 q (by omega)
/-- from the one who turns on: led by him, one after the other -/
theorem turn_hi {mn : Nat → Bool} {ld : Nat → Option Nat} {p v f0 : Nat} {K2 : zK} {T : zS} (hv : v < K2.1 2) (hf : (kch K2 (rch v)).2.2.1 0 = nI f0) (hf0 : f0 ≤ K2.1 1) (hp : p < K2.1 13) (hgp : mn p = false) {root0 : Nat → Nat}
    (h0 : dRk K2 (turnL p (nI v) T (p + 1)) ∧ stt mn ld K2 ∧ iPa K2 ∧ (∀ q, q < K2.1 13 → decide ((turnL p (nI v) T (p + 1)).2.2.1 24 q ≠ 0) = decide (¬ (kpe K2 q).2.2.2.2.2.2.2.2 = 0) ∨ p < q) ∧ (∀ q, q < K2.1 13 → ¬ (kpe K2 q).2.2.2.2.2.2.2.2 = 0 → q = p) ∧ (∀ q, q < K2.1 13 → tkd K2 q → root0 q ≤ p ∧ rtP mn ld root0 (tkd K2) q) ∧ (∀ q, q < K2.1 13 → tkd K2 q → root0 q = p → q = p) ∧ ∀ q, q < K2.1 13 → (kch K2 (100 + q)).2.1 ≤ 999 ∨ (q = p ∧ (kch K2 (100 + q)).2.1 ≤ 1000)) :
    ∀ j, p + 1 + j ≤ K2.1 13 → ∃ root, (dRk (ledK K2 (nI v) (p + 1) j) (turnL p (nI v) T (p + 1 + j)) ∧ stt mn ld (ledK K2 (nI v) (p + 1) j) ∧ sfr K2 (ledK K2 (nI v) (p + 1) j) ∧ iPa (ledK K2 (nI v) (p + 1) j)) ∧
      (∀ q, q < p + 1 + j → decide ((turnL p (nI v) T (p + 1 + j)).2.2.1 24 q ≠ 0) = decide (¬ (kpe (ledK K2 (nI v) (p + 1) j) q).2.2.2.2.2.2.2.2 = 0)) ∧
      (∀ q, q < K2.1 13 → ¬ (kpe (ledK K2 (nI v) (p + 1) j) q).2.2.2.2.2.2.2.2 = 0 → q < p + 1 + j ∧ (q = p ∨ (tkd (ledK K2 (nI v) (p + 1) j) q ∧ root q = p ∧ mn q = true))) ∧
      (∀ q, q < K2.1 13 → tkd (ledK K2 (nI v) (p + 1) j) q → root q ≤ p ∧ rtP mn ld root (tkd (ledK K2 (nI v) (p + 1) j)) q) ∧
      (∀ q, q < K2.1 13 → tkd (ledK K2 (nI v) (p + 1) j) q → root q = p → q < p + 1 + j) ∧
      (∀ q, q < K2.1 13 → (kch (ledK K2 (nI v) (p + 1) j) (100 + q)).2.1 ≤ 999 ∨ (q < p + 1 + j ∧ (kch (ledK K2 (nI v) (p + 1) j) (100 + q)).2.1 ≤ 1000)) := by
  intro j
  induction j with
  | zero =>
    intro _
    obtain ⟨a1, a2, a3, a4, a5, a6, a7, a8⟩ := h0
    exact ⟨root0, ⟨a1, a2, sfr.rf, a3⟩, fun q hq => (a4 q (by omega)).resolve_right (by omega), fun q hq hl => ⟨by rw [a5 q hq hl]; omega, Or.inl (a5 q hq hl)⟩, a6, fun q hq h1 h2 => by rw [a7 q hq h1 h2]; omega, fun q hq => (a8 q hq).imp id (fun hh => ⟨by rw [hh.1]; omega, hh.2⟩)⟩
  | succ j ih =>
    intro hj
    obtain ⟨root, ⟨b1, b2, b3, b4⟩, b5, b6, b7, b8, b9⟩ := ih (by omega)
    have hA : ledK K2 (nI v) (p + 1) (j + 1) = if folK (ledK K2 (nI v) (p + 1) j) (p + 1 + j) (nI v) = true then folS (ledK K2 (nI v) (p + 1) j) (p + 1 + j) (nI v) else ledK K2 (nI v) (p + 1) j := rfl
    have hB : turnL p (nI v) T (p + 1 + (j + 1)) = turnK p (nI v) (turnL p (nI v) T (p + 1 + j)) (p + 1 + j) := rfl
    rw [hA, hB]
    generalize ledK K2 (nI v) (p + 1) j = Kj at *
    generalize turnL p (nI v) T (p + 1 + j) = Sj at *
    generalize hk : p + 1 + j = k at *
    have hkj : p + 1 + (j + 1) = k + 1 := by omega
    rw [hkj]
    have hk13 : k < K2.1 13 := by omega
    have e13 : Kj.1 13 = K2.1 13 := by rw [b3.1]
    have e1 : Kj.1 1 = K2.1 1 := by rw [b3.1]
    have e2 : Kj.1 2 = K2.1 2 := by rw [b3.1]
    have hkp : k ≠ p := by omega
    have b9' : ∀ q, q < Kj.1 13 → (kch Kj (100 + q)).2.1 ≤ 1000 := fun q hq => by rcases b9 q (by omega) with h | h <;> omega
    have hd0 : b2i (decide (k = p)) = 0 := by rw [decide_eq_false hkp]; rfl
    have hfol : follows (zsA Sj 24 (upd (Sj.2.2.1 24) k (b2i (decide (k = p))))) k (nI v) = folK Kj k (nI v) := dR_fol b1 (by omega) b4 (b9' k (by omega)) (fun q hq => by rw [pk_un (by omega)]; exact b5 q hq) (nI v)
    unfold turnK
    rw [hfol]
    by_cases hF : folK Kj k (nI v) = true
    · rw [if_pos hF, if_pos ⟨hkp, hF⟩, zsA_2]
      have hF' := hF
      unfold folK at hF'
      simp only [Bool.and_eq_true, decide_eq_true_eq] at hF'
      obtain ⟨f1, f2, f3, f4⟩ := hF'
      obtain ⟨s1, s2⟩ := b2 k (by omega)
      have hmk : mn k = true := by rw [← s1]; exact f3
      -- the leader is marked
      obtain ⟨l, hl, hlm⟩ : ∃ l, ldrOf (kpe Kj k) = some l ∧ ¬ (kpe Kj l).2.2.2.2.2.2.2.2 = 0 := by
        cases hh : ldrOf (kpe Kj k) with
        | none => rw [hh] at f1; cases f1
        | some l => rw [hh] at f1; exact ⟨l, rfl, of_decide_eq_true f1⟩
      have hlk : l < k := (dR_par b1 (by omega) b4).2 l hl
      obtain ⟨-, hlm2⟩ := b6 l (by omega) hlm
      have hld : ld k = some l := by rw [← s2]; exact hl
      -- so this one has not taken today
      have hno : ¬ tkd Kj k := by
        intro htk
        obtain ⟨c1, c2, c3⟩ := b7 k hk13 htk
        have hrk : root k ≠ p := fun hh => by have := b8 k hk13 htk hh; omega
        rcases c3 with c3 | ⟨-, l', hl', c4⟩
        · rw [← c3, hmk] at c2; cases c2
        · rw [hld] at hl'
          cases hl'
          rcases hlm2 with rfl | ⟨g1, g2, g3⟩
          · rcases c4 with c4 | ⟨g1, g2⟩
            · exact hrk c4.symm
            · obtain ⟨-, g3, g4⟩ := b7 l (by omega) g1
              rcases g4 with g4 | ⟨g4, -⟩
              · exact hrk (g2.symm.trans g4.symm)
              · rw [hgp] at g4; cases g4
          · rcases c4 with c4 | ⟨-, g4⟩
            · rw [← c4, g3] at c2; cases c2
            · exact hrk (g4.symm.trans g2)
      have hkk9 : (kch Kj (100 + k)).2.1 ≤ 999 := by rcases b9 k hk13 with h | h; exact h; omega
      obtain ⟨t1, t2, t3, t4⟩ := tell_lt (c := kch Kj (100 + k)) (td := Kj.1 1) (x := nI v) hno
      have hrv : kch Kj (rch v) = kch K2 (rch v) := b3.2.2.2.2 _ (by have := b1.2.2.2.2.1; unfold rch; omega)
      generalize hc : tellS (kch Kj (100 + k)) (nI (Kj.1 1)) (nI v) = cn at t1 t2 t3 t4
      have hKn : folS Kj k (nI v) = sch (spe Kj k (peLea (kpe Kj k) 1)) (100 + k) cn := by unfold folS; rw [hc]; rfl
      rw [hKn]
      have hpe : ∀ q, kpe (sch (spe Kj k (peLea (kpe Kj k) 1)) (100 + k) cn) q = if q = k then peLea (kpe Kj k) 1 else kpe Kj q := fun q => rfl
      have hch : ∀ q, kch (sch (spe Kj k (peLea (kpe Kj k) 1)) (100 + k) cn) (100 + q) = if q = k then cn else kch Kj (100 + q) := fun q => by
        show (if 100 + q = 100 + k then cn else kch Kj (100 + q)) = _
        by_cases e : q = k
        · rw [if_pos e, if_pos (by omega)]
        · rw [if_neg e, if_neg (by omega)]
      have htk : ∀ q, tkd (sch (spe Kj k (peLea (kpe Kj k) 1)) (100 + k) cn) q ↔ (q = k ∨ tkd Kj q) := by
        intro q
        unfold tkd
        rw [hch]
        by_cases e : q = k
        · rw [if_pos e]
          exact ⟨fun _ => Or.inl e, fun _ => by rw [t1]; exact t3⟩
        · rw [if_neg e]
          exact ⟨Or.inr, fun hh => hh.resolve_left e⟩
      have hdm := dR_mark b1 (f := va_up (kpe Kj) k (peLea (kpe Kj k) 1)) (r := upd (upd (Sj.2.2.1 24) k (b2i (decide (k = p)))) k 1) (fun q => by
        by_cases e : q = k
        · subst e; exact ⟨1, up_eq⟩
        · exact ⟨(kpe Kj q).2.2.2.2.2.2.2.2, up_ne e⟩)
      have hdt := dR_tell (K := spe Kj k (peLea (kpe Kj k) 1)) hdm (q := k) (v := v) (f0 := f0) (by show k < Kj.1 13; omega) b9' hno (by show v < Kj.1 2; omega) (by show (kch Kj (rch v)).2.2.1 0 = _; rw [hrv]; exact hf) (by show f0 ≤ Kj.1 1; omega)
      have hcc : tellS (kch (spe Kj k (peLea (kpe Kj k) 1)) (100 + k)) (nI ((spe Kj k (peLea (kpe Kj k) 1)).1 1)) (nI v) = cn := hc
      rw [hcc] at hdt
      refine ⟨va_up root k p, ⟨hdt, fun q hq => ?_, ?_, fun q hq => ?_⟩, fun q hq => ?_, fun q hq hl0 => ?_, fun q hq ht => ?_, fun q hq ht hr => ?_, fun q hq => ?_⟩
      · obtain ⟨s3, s4⟩ := b2 q hq
        unfold minK
        rw [hpe]
        by_cases e : q = k
        · subst e; rw [if_pos rfl]; exact ⟨s3, s4⟩
        · rw [if_neg e]; exact ⟨s3, s4⟩
      · exact b3.trans (sfr.trans (sfr.pe (K := Kj) (p := k) (x := peLea (kpe Kj k) 1) ⟨rfl, rfl, rfl, rfl, rfl, rfl⟩) (sfr.ch (K := spe Kj k (peLea (kpe Kj k) 1)) (p := k) (c := cn)))
      · rw [hpe]
        by_cases e : q = k
        · subst e; rw [if_pos rfl]; exact b4 q hq
        · rw [if_neg e]; exact b4 q hq
      · rw [hpe]
        show decide (upd (upd (Sj.2.2.1 24) k (b2i (decide (k = p)))) k 1 q ≠ 0) = _
        by_cases e : q = k
        · subst e; rw [if_pos rfl, pk_us]; rfl
        · rw [if_neg e, pk_un e, pk_un e]; exact b5 q (by omega)
      · rw [hpe] at hl0
        by_cases e : q = k
        · exact ⟨by omega, Or.inr ⟨(htk q).mpr (Or.inl e), by rw [e, up_eq], by rw [e]; exact hmk⟩⟩
        · rw [if_neg e] at hl0
          obtain ⟨g1, g2⟩ := b6 q hq hl0
          refine ⟨by omega, g2.imp id ?_⟩
          rintro ⟨g3, g4, g5⟩
          exact ⟨(htk q).mpr (Or.inr g3), by rw [up_ne e]; exact g4, g5⟩
      · by_cases e : q = k
        · subst e
          refine ⟨by rw [up_eq]; exact Nat.le_refl _, by rw [up_eq]; exact hgp, Or.inr ⟨hmk, l, hld, ?_⟩⟩
          rw [up_eq]
          rcases hlm2 with g | ⟨g1, g2, g3⟩
          · exact Or.inl g
          · exact Or.inr ⟨(htk l).mpr (Or.inr g1), by rw [up_ne (by omega)]; exact g2⟩
        · have ht' := ((htk q).mp ht).resolve_left e
          obtain ⟨c1, c2, c3⟩ := b7 q hq ht'
          refine ⟨by rw [up_ne e]; exact c1, by rw [up_ne e]; exact c2, ?_⟩
          rw [up_ne e]
          rcases c3 with c3 | ⟨c3, l', c4, c5⟩
          · exact Or.inl c3
          · refine Or.inr ⟨c3, l', c4, ?_⟩
            rcases c5 with c5 | ⟨c5, c6⟩
            · exact Or.inl c5
            · refine Or.inr ⟨(htk l').mpr (Or.inr c5), ?_⟩
              have hlk' : l' ≠ k := fun hh => hno (hh ▸ c5)
              rw [up_ne hlk']; exact c6
      · by_cases e : q = k
        · omega
        · rw [up_ne e] at hr
          have := b8 q hq (((htk q).mp ht).resolve_left e) hr
          omega
      · rw [hch]
        by_cases e : q = k
        · rw [if_pos e, t1]; exact Or.inr ⟨by omega, by omega⟩
        · rw [if_neg e]
          exact (b9 q hq).imp id (fun hh => ⟨by omega, hh.2⟩)
    · rw [if_neg hF, if_neg (fun hh => hF hh.2)]
      have hlk0 : (kpe Kj k).2.2.2.2.2.2.2.2 = 0 := Classical.byContradiction fun hh => by have := (b6 k hk13 hh).1; omega
      have hself := dR_mark b1 (f := kpe Kj) (r := upd (Sj.2.2.1 24) k (b2i (decide (k = p)))) (fun q => ⟨(kpe Kj q).2.2.2.2.2.2.2.2, rfl⟩)
      refine ⟨root, ⟨hself, b2, b3, b4⟩, fun q hq => ?_, fun q hq hl0 => ?_, b7, fun q hq h1 h2 => by have := b8 q hq h1 h2; omega, fun q hq => (b9 q hq).imp id (fun hh => ⟨by omega, hh.2⟩)⟩
      · show decide (upd (Sj.2.2.1 24) k (b2i (decide (k = p))) q ≠ 0) = _
        by_cases e : q = k
        · subst e; rw [pk_us, hd0, hlk0]
        · rw [pk_un e]; exact b5 q (by omega)
      · obtain ⟨g1, g2⟩ := b6 q hq hl0
        exact ⟨by omega, g2⟩
end TIE22
