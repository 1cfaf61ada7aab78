/-! decree, recognise -/
section TIE9
variable {n : Nat} {K K1 : zK} {S S1 : zS}
theorem isNum_w {w : Nat} (hw : w < 7) (x : Int32) : isNum (nI w) x = rng x (zLL w) (zLH w) := by
  rcases (by omega : w = 0 ∨ w = 1 ∨ w = 2 ∨ w = 3 ∨ w = 4 ∨ w = 5 ∨ w = 6) with rfl | rfl | rfl | rfl | rfl | rfl | rfl <;> rfl
theorem lcode_inj {l l' : Nat} (h : l ≤ 6) (h' : l' ≤ 6) (e : lcode l = lcode l') : l = l' := by
  have := congrArg lixN e
  rwa [lixN_l h, lixN_l h'] at this
theorem p_decree (h : tie n K S) (hn : n < 512) (c w x : Int32) : lcal tie n K (x_decree K c w x) [1, 2, 3] (k_decree K c w x) (o_decree S c w x).1 (lawK K (lixN c) w.toNatClampNeg (nI (K.1 1)) = (o_decree S c w x).2) := by
  unfold x_decree o_decree
  rw [okc_K h, rng_w]
  by_cases e1 : okK K c = false
  · rw [if_pos e1, if_pos e1]
    exact lcal_thr h hn (okcd_3 (by decide)) 0 1 rfl
  rw [if_neg e1, if_neg e1]
  obtain ⟨l, l1, rfl, l3⟩ := okK_of (bF e1) h.bd.2.1
  have h6 := h.bd.2.1
  by_cases ew : rng w 0 6 = false
  · rw [if_pos (by rw [ew]; rfl), if_pos (by rw [ew]; rfl)]
    exact lcal_thr h hn (okcd_3 (by decide)) 1 2 rfl
  obtain ⟨w0, -, w1, rfl⟩ := rng_N (a := 0) (b := 6) (by decide) (by decide) (bF ew)
  rw [isNum_w (by omega), nI_clamp (by omega), rng_w]
  by_cases e2 : (rng (nI w0) 0 6 && rng x (zLL w0) (zLH w0)) = false
  · rw [if_pos e2, if_pos e2]
    exact lcal_thr h hn (okcd_3 (by decide)) 1 2 rfl
  rw [if_neg e2, if_neg e2]
  have hb4 := h.bd.2.2.1
  have h4 := h.N.2.2.1
  by_cases e3 : S.1 4 = 100
  · rw [if_pos (decide_eq_false (by omega)), if_pos e3]
    exact lcal_thr h hn (okcd_3 (by decide)) 2 3 rfl
  rw [if_neg (by simp; omega), if_neg e3]
  have hb1 := h.bd.1
  have hN1 := h.N.1
  unfold k_decree
  rw [l3, nI_clamp (by omega)]
  obtain ⟨c1, c2, ⟨t, c3, c4⟩⟩ := h.C.1.1 l w0 l1 (by omega)
  obtain ⟨g1, g2, g3, g4⟩ := tell_g h hn (i0 := lch l w0) (x := x) (by unfold lch; omega)
  refine lcal_ok (okcd_3 (by decide)) rfl ?_ (tie_ch h hn (N1 := va_up K.1 4 (K.1 4 + 1)) (g := va_up (kch K) (lch l w0) (tellS (kch K (lch l w0)) (nI (K.1 1)) x)) rfl (fun i i2 _ => up_ne i2) (by show K.1 4 + 1 ≤ 100; omega) h.bd.2.2.2.1 (by show K.1 4 + 1 = S.1 4 + 1; omega) h.N.2.2.2.1 (fun i i0 i2 _ => by show va_up (va_up _ _ _) _ _ i = _; rw [up_ne i2, up_ne i0]) rfl (fun i hi => ?_) rfl g1 g2 g3 g4 ?_ ?_ ?_) (Nat.le_of_eq (capF_lo g3 _).symm)
  · show lawK K l w0 (nI (K.1 1)) = lawOf S (lcode l) (nI w0) (nI (S.1 1))
    rw [← hN1, t_law h l1 (by omega) hb1]
  · show va_up (va_up (va_up (va_up _ _ _) _ _) _ _) _ _ i = _
    rw [up_ne (by omega), up_ne (by omega), up_ne (by omega), up_ne (by omega)]
    rfl
  · refine ⟨fun l' w' hl hw => ?_, fun k hk => ?_⟩
    · have hrl : ∀ d, lawL ((decS (th S 0) (lcode l) (nI w0) x).2.2.1 5) ((decS (th S 0) (lcode l) (nI w0) x).2.2.1 6) ((decS (th S 0) (lcode l) (nI w0) x).2.2.1 7) ((decS (th S 0) (lcode l) (nI w0) x).2.2.1 8) (lcode l') (nI w') d (K.1 4) = lawL (S.2.2.1 5) (S.2.2.1 6) (S.2.2.1 7) (S.2.2.1 8) (lcode l') (nI w') d (K.1 4) := by
        intro d
        have key : ∀ k, k ≤ K.1 4 → lawL ((decS (th S 0) (lcode l) (nI w0) x).2.2.1 5) ((decS (th S 0) (lcode l) (nI w0) x).2.2.1 6) ((decS (th S 0) (lcode l) (nI w0) x).2.2.1 7) ((decS (th S 0) (lcode l) (nI w0) x).2.2.1 8) (lcode l') (nI w') d k = lawL (S.2.2.1 5) (S.2.2.1 6) (S.2.2.1 7) (S.2.2.1 8) (lcode l') (nI w') d k := by
          intro k
          induction k with
          | zero => intro _; rfl
          | succ k ih =>
            intro hk
            rw [lawL_s, lawL_s, ih (by omega)]
            show (if upd (S.2.2.1 5) (S.1 4) (lcode l) k = _ ∧ upd (S.2.2.1 6) (S.1 4) (nI w0) k = _ ∧ upd (S.2.2.1 8) (S.1 4) (nI (S.1 1)) k ≤ d then upd (S.2.2.1 7) (S.1 4) x k else _) = _
            rw [pk_un (by omega), pk_un (by omega), pk_un (by omega), pk_un (by omega)]
        exact key _ (Nat.le_refl _)
      have hst : ∀ d, lawL ((decS (th S 0) (lcode l) (nI w0) x).2.2.1 5) ((decS (th S 0) (lcode l) (nI w0) x).2.2.1 6) ((decS (th S 0) (lcode l) (nI w0) x).2.2.1 7) ((decS (th S 0) (lcode l) (nI w0) x).2.2.1 8) (lcode l') (nI w') (nI d) (K.1 4 + 1) = if lcode l = lcode l' ∧ nI w0 = nI w' ∧ nI (S.1 1) ≤ nI d then x else lawL (S.2.2.1 5) (S.2.2.1 6) (S.2.2.1 7) (S.2.2.1 8) (lcode l') (nI w') (nI d) (K.1 4) := by
        intro d
        rw [lawL_s, hrl]
        show (if upd (S.2.2.1 5) (S.1 4) (lcode l) (K.1 4) = _ ∧ upd (S.2.2.1 6) (S.1 4) (nI w0) (K.1 4) = _ ∧ upd (S.2.2.1 8) (S.1 4) (nI (S.1 1)) (K.1 4) ≤ _ then upd (S.2.2.1 7) (S.1 4) x (K.1 4) else _) = _
        rw [h4, pk_us, pk_us, pk_us, pk_us]
      by_cases e : l' = l ∧ w' = w0
      · obtain ⟨rfl, rfl⟩ := e
        rw [up_eq]
        refine ⟨fun d hd => ?_, tell_0.trans c2, ⟨K.1 1, Nat.le_refl _, tell_new⟩⟩
        show _ = lawL _ _ _ _ _ _ _ (K.1 4 + 1)
        rw [hst, chV_tell c2 c4 c3 hb1 (Nat.zero_le _) hd, c1 d hd, ← hN1]
        by_cases hle : K.1 1 ≤ d
        · rw [if_pos hle, if_pos ⟨rfl, rfl, nI_le hle (by omega)⟩]
        · rw [if_neg hle, if_neg (fun hh => nI_ge (by omega) (by omega) hh.2.2)]
      · rw [up_ne (by unfold lch; omega)]
        obtain ⟨f1, f2⟩ := h.C.1.1 l' w' hl hw
        refine ⟨fun d hd => ?_, f2⟩
        show _ = lawL _ _ _ _ _ _ _ (K.1 4 + 1)
        rw [hst, if_neg (fun hh => e ⟨(lcode_inj (by omega) (by omega) hh.1).symm, ((nI_eq (by omega) (by omega)).mp hh.2.1).symm⟩), f1 d hd]
    · have hk : k < K.1 4 + 1 := hk
      show upd (S.2.2.1 5) (S.1 4) (lcode l) k = -1 ∨ ∃ c, c < K.1 2 ∧ upd (S.2.2.1 5) (S.1 4) (lcode l) k = nI c
      by_cases e : k = S.1 4
      · rw [e, pk_us]
        unfold lcode
        by_cases el : l = 0
        · rw [if_pos el]; exact Or.inl rfl
        · rw [if_neg el]; exact Or.inr ⟨l - 1, by omega, rfl⟩
      · rw [pk_un e]
        exact h.C.1.2 k (by omega)
  · intro m hm
    rw [up_ne (by unfold lch; omega)]
    exact h.C.2.1 m hm
  · intro c hc
    rw [up_ne (by unfold rch lch; omega)]
    exact h.C.2.2.1 c hc
end TIE9
