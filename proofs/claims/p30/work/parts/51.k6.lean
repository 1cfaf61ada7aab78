def peTo (x : zPe) (v : Int32) : zPe := (x.1, x.2.1, x.2.2.1, x.2.2.2.1, x.2.2.2.2.1, x.2.2.2.2.2.1, v, x.2.2.2.2.2.2.2)
def peOn (x : zPe) (v : Int32) : zPe := (x.1, x.2.1, x.2.2.1, x.2.2.2.1, x.2.2.2.2.1, x.2.2.2.2.2.1, x.2.2.2.2.2.2.1, v, x.2.2.2.2.2.2.2.2)
def maSt (x : zMa) (v : Int32) : zMa := (x.1, x.2.1, x.2.2.1, v, x.2.2.2.2)
def maOw (x : zMa) (v : Int32) : zMa := (x.1, x.2.1, x.2.2.1, x.2.2.2.1, v, x.2.2.2.2.2)
def maHe (x : zMa) (v : Bool) : zMa := (x.1, x.2.1, x.2.2.1, x.2.2.2.1, x.2.2.2.2.1, v, x.2.2.2.2.2.2)
def maSh (x : zMa) (v : Bool) : zMa := (x.1, x.2.1, x.2.2.1, x.2.2.2.1, x.2.2.2.2.1, x.2.2.2.2.2.1, v)
def suSt (x : zSu) (v : Int32) : zSu := (x.1, x.2.1, x.2.2.1, x.2.2.2.1, v, x.2.2.2.2.2)
def suCa (x : zSu) (v : Bool) : zSu := (x.1, x.2.1, x.2.2.1, x.2.2.2.1, x.2.2.2.2.1, v, x.2.2.2.2.2.2)
def suOw (x : zSu) (v : Int32) : zSu := (x.1, x.2.1, x.2.2.1, x.2.2.2.1, x.2.2.2.2.1, x.2.2.2.2.2.1, v, x.2.2.2.2.2.2.2)
def suJu (x : zSu) (v : Int32) : zSu := (x.1, x.2.1, x.2.2.1, x.2.2.2.1, x.2.2.2.2.1, x.2.2.2.2.2.1, x.2.2.2.2.2.2.1, v, x.2.2.2.2.2.2.2.2)
def suAp (x : zSu) (v : Bool) : zSu := (x.1, x.2.1, x.2.2.1, x.2.2.2.1, x.2.2.2.2.1, x.2.2.2.2.2.1, x.2.2.2.2.2.2.1, x.2.2.2.2.2.2.2.1, v)
theorem kpe_s {K : zK} {p : Nat} {x : zPe} : kpe (spe K p x) p = x := up_eq
theorem kpe_n {K : zK} {p q : Nat} {x : zPe} (h : q ≠ p) : kpe (spe K p x) q = kpe K q := up_ne h
theorem spe_spe {K : zK} {p : Nat} {x y : zPe} : spe (spe K p x) p y = spe K p y := by unfold spe; dsimp only; rw [zup_up]
theorem kma_s {K : zK} {p : Nat} {x : zMa} : kma (sma K p x) p = x := up_eq
theorem sma_sma {K : zK} {p : Nat} {x y : zMa} : sma (sma K p x) p y = sma K p y := by unfold sma; dsimp only; rw [zup_up]
theorem ksu_s {K : zK} {p : Nat} {x : zSu} : ksu (ssu K p x) p = x := up_eq
theorem ssu_ssu {K : zK} {p : Nat} {x y : zSu} : ssu (ssu K p x) p y = ssu K p y := by unfold ssu; dsimp only; rw [zup_up]
section K6
variable {g : zGh} {K K1 : zK} {X : zg → Option va_E} {ad : zg → Nat} {M : zM}
theorem kstep {Z : zX} {M1 M2 : zM} {k n pc : Nat} {L : List (Option Value)} {st : List Value} (h : zP g K1 X ad M1) (e : M2 = M1) (kk : ∀ M, zP g K1 X ad M → zG g Z M k n pc L st) : zG g Z M2 k n pc L st := e ▸ kk _ h
theorem zP.perF (h : zP g K X ad M) {p : Nat} (hp : p < K.1 13) (f : zPe → zPe) : zP g (spe K p (f (kpe K p))) X ad (zup M (ad (10, p)) (perE ad p (f (kpe K p)))) := h.put_per hp _
theorem zP.marF (h : zP g K X ad M) {p : Nat} (hp : p < K.1 25) (f : zMa → zMa) : zP g (sma K p (f (kma K p))) X ad (zup M (ad (11, p)) (marE ad (f (kma K p)))) := h.put_mar hp _
theorem zP.suiF (h : zP g K X ad M) {p : Nat} (hp : p < K.1 33) (f : zSu → zSu) : zP g (ssu K p (f (ksu K p))) X ad (zup M (ad (12, p)) (suiE ad p (f (ksu K p)))) := h.put_sui hp _
theorem zP.perV {β : Type} (h : zP g K X ad M) {p : Nat} (hp : p < K.1 13) (f : zPe → β → zPe) (v : β) : zP g (spe K p (f (kpe K p) v)) X ad (zup M (ad (10, p)) (perE ad p (f (kpe K p) v))) := h.put_per hp _
theorem zP.marV {β : Type} (h : zP g K X ad M) {p : Nat} (hp : p < K.1 25) (f : zMa → β → zMa) (v : β) : zP g (sma K p (f (kma K p) v)) X ad (zup M (ad (11, p)) (marE ad (f (kma K p) v))) := h.put_mar hp _
theorem zP.suiV {β : Type} (h : zP g K X ad M) {p : Nat} (hp : p < K.1 33) (f : zSu → β → zSu) (v : β) : zP g (ssu K p (f (ksu K p) v)) X ad (zup M (ad (12, p)) (suiE ad p (f (ksu K p) v))) := h.put_sui hp _
theorem zP.mainN (h : zP g K X ad M) (j v : Nat) (hj : j ≠ 2 ∧ j ≠ 13 ∧ j ≠ 25 ∧ j ≠ 33) : zP g (sN K j v) X ad (zup M (ad (0, 0)) (mainE ad (sN K j v))) := h.put_main (up_ne hj.1.symm) (up_ne hj.2.1.symm) (up_ne hj.2.2.1.symm) (up_ne hj.2.2.2.symm) rfl
theorem zP.mainC (h : zP g K X ad M) (v : Int64) : zP g (sC K v) X ad (zup M (ad (0, 0)) (mainE ad (sC K v))) := h.put_main rfl rfl rfl rfl rfl
theorem k_endTurning (hp : zP g K X ad M) {p : Nat} (h : p < K.1 13) : zCt g yX4_endTurning cX4_endTurning 1 none 0 0 mkV [.ref (ad (10, p))] M 0 0 (fun v M1 => zP g (spe K p (peTurn (kpe K p) (-1) (-1))) X ad M1) noX :=
  (p_endTurning (hp.per h)).post fun v M1 e => e ▸ hp.perF h (fun x => peTurn x (-1) (-1))
def payK (K : zK) (a b : Nat) (v : Int64) : zK := spe (spe K a (peGoo (kpe K a) ((kpe K a).2.2.2.2.2.1 - v))) b (peGoo (kpe K b) ((kpe K b).2.2.2.2.2.1 + v))
theorem zP.pay (hp : zP g K X ad M) {a b : Nat} (ha : a < K.1 13) (hb : b < K.1 13) (v : Int64) : zP g (payK K a b v) X ad (zup (zup M (ad (10, a)) (perE ad a (peGoo (kpe K a) ((kpe K a).2.2.2.2.2.1 - v)))) (ad (10, b)) (perE ad b (peGoo (kpe K b) ((kpe K b).2.2.2.2.2.1 + v)))) :=
  zP.put_per (hp.put_per ha _) (K := spe K a _) hb _
theorem k_payUpTo (hp : zP g K X ad M) {a b : Nat} (ha : a < K.1 13) (hb : b < K.1 13) (hab : a ≠ b) (x : Int32) : zCt g yX4_payUpTo cX4_payUpTo 4 (some .int) 1 23 mkI [.ref (ad (10, a)), .int x, .ref (ad (10, b))] M 0 0 (fun v M1 => v = paidI (kpe K a).2.2.2.2.2.1 x ∧ zP g (payK K a b (paidI (kpe K a).2.2.2.2.2.1 x).toInt64) X ad M1) noX :=
  (p_payUpTo x (hp.per ha) (hp.per hb) (hp.per_ne ha hb hab)).post fun v M1 ⟨e1, e2⟩ => ⟨e1, e2 ▸ hp.pay ha hb _⟩
def dowK (K : zK) (m : Nat) : zK := sma (payK K (kma K m).1 (kma K m).2.1 (paidI (kpe K (kma K m).1).2.2.2.2.2.1 (kma K m).2.2.2.2.1).toInt64) m (maOw (kma K m) 0)
theorem k_payDower (hp : zP g K X ad M) {m : Nat} (h : m < K.1 25) (hma : iMa K) : zCt g yX3_payDower cX3_payDower 1 none 2 46 mkV [.ref (ad (11, m))] M 0 0 (fun v M1 => zP g (dowK K m) X ad M1) noX :=
  (r_payDower (hp.mar h) (hp.per (hma m h).1) (hp.per (hma m h).2.1) (hp.per_ne (hma m h).1 (hma m h).2.1 (hma m h).2.2)).post fun v M1 e => e ▸ zP.put_mar (hp.pay (hma m h).1 (hma m h).2.1 _) (K := payK K _ _ _) h _
theorem k_settle (hp : zP g K X ad M) {s : Nat} (h : s < K.1 33) (b : Bool) (d : Int32) : zCt g yX5_settle cX5_settle 3 none 0 0 mkV [.ref (ad (12, s)), .int (b2i b), .int d] M 0 0 (fun v M1 => zP g (ssu K s (suJu (suSt (ksu K s) (if b = true then 2 else 3)) d)) X ad M1) noX :=
  (s_settle b d (hp.sui h)).post fun v M1 e => e ▸ hp.suiF h (fun x => suJu (suSt x (if b = true then 2 else 3)) d)
def livK (K : zK) (s : Nat) : Bool := (kpe K (ksu K s).1).2.2.2.2.1 && (kpe K (ksu K s).2.1).2.2.2.2.1
theorem k_doBothLive (hp : zP g K X ad M) {s : Nat} (h : s < K.1 33) (hsu : iSui K) : zCt g yX5_doBothLive cX5_doBothLive 1 (some .boolean) 0 0 mkI [.ref (ad (12, s))] M 0 0 (fun v M1 => v = b2i (livK K s) ∧ M1 = M) noX :=
  s_doBothLive _ _ (hp.sui h) (hp.per (hsu s h).1) (hp.per (hsu s h).2.1) rfl rfl
def bckK (K : zK) (s : Nat) : zK := ssu (if livK K s = true then payK K (ksu K s).1 (ksu K s).2.1 (paidI (kpe K (ksu K s).1).2.2.2.2.2.1 ((ksu K s).2.2.2.1 - (ksu K s).2.2.2.2.2.2.1)).toInt64 else K) s (suOw (ksu K s) 0)
theorem k_giveBack (hp : zP g K X ad M) {s : Nat} (h : s < K.1 33) (hsu : iSui K) : zCt g yX5_giveBack cX5_giveBack 1 none 2 46 mkV [.ref (ad (12, s))] M 0 0 (fun v M1 => zP g (bckK K s) X ad M1) noX := by
  refine (s_giveBack _ _ (hp.sui h) (hp.per (hsu s h).1) (hp.per (hsu s h).2.1) (hp.per_ne (hsu s h).1 (hsu s h).2.1 (hsu s h).2.2) rfl rfl).post fun v M1 e => ?_
  unfold bckK livK
  rw [e]
  split
  · exact zP.put_sui (hp.pay (hsu s h).1 (hsu s h).2.1 _) (K := payK K _ _ _) h _
  · exact hp.put_sui h _
theorem hrd_ad {w : Nat → Nat} {p : Nat} (h : ∀ i, ad (10, w i) = ad (10, p) ↔ w i = p) : ∀ n, hrd (fun i => ad (10, w i)) (ad (10, p)) n = hrd w p n
  | 0 => rfl
  | n + 1 => by
    show (hrd (fun i => ad (10, w i)) (ad (10, p)) n || decide (ad (10, w n) = ad (10, p))) = (hrd w p n || decide (w n = p))
    rw [hrd_ad h n, decide_eq_decide.mpr (h n)]
theorem hrd_adn {w : Nat → Nat} {p : Nat} : ∀ n, (∀ i, i < n → (ad (10, w i) = ad (10, p) ↔ w i = p)) → hrd (fun i => ad (10, w i)) (ad (10, p)) n = hrd w p n
  | 0, _ => rfl
  | n + 1, h => by
    show (hrd (fun i => ad (10, w i)) (ad (10, p)) n || decide (ad (10, w n) = ad (10, p))) = (hrd w p n || decide (w n = p))
    rw [hrd_adn n (fun i hi => h i (by omega)), decide_eq_decide.mpr (h n (by omega))]
theorem k_hasHeard (hp : zP g K X ad M) {s p : Nat} (h : s < K.1 33 ∧ K.1 33 ≤ 20) (h2 : p < K.1 13) (hwp : iWi K) (hwi : iW4 K) : zCt g yX5_hasHeard cX5_hasHeard 3 (some .boolean) 3 64 mkI [.ref (ad (12, s)), .ref (ad (10, p))] M 0 0 (fun v M1 => v = b2i (hrd (kws K s).2.1 p (kws K s).1) ∧ M1 = M) noX := by
  refine (s_hasHeard (wp := fun i => ad (10, (kws K s).2.1 i)) (wf := fun i => b2i ((kws K s).2.2 i)) (ad (10, p)) (hp.sui h.1) (hp.lqW h (hwi s)) (Nat.lt_of_le_of_lt (hwi s) (by decide)) ?_).post fun v M1 ⟨e, m⟩ => ⟨?_, m⟩
  · exact fun i hi => ⟨_, if_pos hi, hp.wit h.1 hi (Nat.le_trans (hwi s) (by decide))⟩
  · rw [e, hrd_adn _ (fun i hi => hp.per_inj (hwp s i h.1 hi) h2)]
end K6
