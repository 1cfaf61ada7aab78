/-- a contract with a weaker end -/
theorem zCt.mono {α : Type} {g : zGh} {y : MethodName} {cc : ByteArray} {maxL fr lc mc ms : Nat} {ret : Option FieldType} {mk : α → Option Value} {As : List Value} {M : zM} {Post Post1 : α → zM → Prop} {PX PX1 : String → zM → Prop} (h : zCt g y cc maxL ret fr lc mk As M mc ms Post PX) (hp : ∀ v M1, Post v M1 → Post1 v M1) (hx : ∀ E M1, PX E M1 → PX1 E M1) : zCt g y cc maxL ret fr lc mk As M mc ms Post1 PX1 := by
  intro p e ha hc hk s m args below hf happ hP hK
  obtain ⟨n, o, h1, h2, h3, h4⟩ := h p e ha hc hk s m args below hf happ hP hK
  refine ⟨n, o, h1, h2, h3, ?_⟩
  rcases h4 with ⟨⟨⟨v, M1, a, b, c⟩, d⟩, f⟩ | ⟨q, a, E, ce, L, ⟨M1, hx1, b⟩, c⟩
  · exact Or.inl ⟨⟨⟨v, M1, a, hp v M1 b, c⟩, d⟩, f⟩
  · exact Or.inr ⟨q, a, E, ce, L, ⟨M1, hx E M1 hx1, b⟩, c⟩
theorem zCt.post {α : Type} {g : zGh} {y : MethodName} {cc : ByteArray} {maxL fr lc mc ms : Nat} {ret : Option FieldType} {mk : α → Option Value} {As : List Value} {M : zM} {Post Post1 : α → zM → Prop} {PX : String → zM → Prop} (h : zCt g y cc maxL ret fr lc mk As M mc ms Post PX) (hp : ∀ v M1, Post v M1 → Post1 v M1) : zCt g y cc maxL ret fr lc mk As M mc ms Post1 PX := h.mono hp (fun _ _ h => h)
/-- a chronicle's number on a day, its newest one -/
def chV (c : zCh) (d : Int32) : Int32 := chOn c.2.2.1 c.2.2.2 d c.2.1
def chN (c : zCh) : Int32 := c.2.2.2 c.2.1
def lawK (K : zK) (l w : Nat) (d : Int32) : Int32 := chV (kch K (lch l w)) d
def ruleK (K : zK) (m : Nat) (d : Int32) : Int32 := chV (kch K m) d
def faithK (K : zK) (p : Nat) (d : Int32) : Int32 := chV (kch K (100 + p)) d
def newK (K : zK) (p : Nat) : Int32 := chN (kch K (100 + p))
def recK (K : zK) (c : Nat) (d : Int32) : Int32 := chV (kch K (rch c)) d
def minK (K : zK) (p : Nat) (d : Int32) : Bool := decide (d - (kpe K p).2.2.2.1 < 5000)
def groK (K : zK) (p : Nat) (d : Int32) : Bool := (kpe K p).2.2.2.2.1 && !minK K p d
def chlK (K : zK) (k p : Nat) : Bool := (kpe K k).2.2.2.2.1 && (decide ((kpe K k).2.1 = some p) || decide ((kpe K k).2.2.1 = some p))
def lasK (K : zK) (m p : Nat) : Bool := decide ((kma K m).2.2.2.1 = 0) && (decide ((kma K m).1 = p) || decide ((kma K m).2.1 = p))
def btwK (K : zK) (s p : Nat) : Bool := decide ((ksu K s).1 = p) || decide ((ksu K s).2.1 = p)
/-- who is told of in marriages, in suits, as a parent, as a witness, is there -/
def iMa (K : zK) : Prop := ∀ m, m < K.1 25 → (kma K m).1 < K.1 13 ∧ (kma K m).2.1 < K.1 13 ∧ (kma K m).1 ≠ (kma K m).2.1
def iSui (K : zK) : Prop := ∀ s, s < K.1 33 → (ksu K s).1 < K.1 13 ∧ (ksu K s).2.1 < K.1 13 ∧ (ksu K s).1 ≠ (ksu K s).2.1
def iPa (K : zK) : Prop := ∀ p, p < K.1 13 → (∀ q, (kpe K p).2.1 = some q → q < p) ∧ ∀ q, (kpe K p).2.2.1 = some q → q < p
def iWi (K : zK) : Prop := ∀ s i, s < K.1 33 → i < (kws K s).1 → (kws K s).2.1 i < K.1 13
def iCh (K : zK) : Prop := ∀ i, chW (kch K i)
def iW4 (K : zK) : Prop := ∀ s, (kws K s).1 ≤ 40
section K2
variable {g : zGh} {K : zK} {X : zg → Option va_E} {ad : zg → Nat} {M : zM}
theorem chA_rec {c : Nat} (h : c < K.1 2) : chA K (rch c) := Or.inr (Or.inl (by unfold rch; omega))
theorem chA_per {p : Nat} (h : p < K.1 13) : chA K (100 + p) := Or.inr (Or.inr (by omega))
theorem chA_law {l w : Nat} (h : l ≤ K.1 2) (hw : w < 7) : chA K (lch l w) := Or.inr (Or.inl (by unfold lch; omega))
theorem zP.lo0 (hp : zP g K X ad M) : M (ad (7, 0)) = some (lisE g ad 0 (lof (K.1 2) (fun i => (9, i)))) := zPic.at hp rfl
theorem zP.lo1 (hp : zP g K X ad M) : M (ad (7, 1)) = some (lisE g ad 1 (lof (K.1 13) (fun i => (10, i)))) := zPic.at hp rfl
theorem zP.lo2 (hp : zP g K X ad M) : M (ad (7, 2)) = some (lisE g ad 2 (lof (K.1 25) (fun i => (11, i)))) := zPic.at hp rfl
theorem zP.lo3 (hp : zP g K X ad M) : M (ad (7, 3)) = some (lisE g ad 3 (lof (K.1 33) (fun i => (12, i)))) := zPic.at hp rfl
theorem zP.lq0 (hp : zP g K X ad M) (h : K.1 2 ≤ 49) : zLq g M (ad (7, 0)) (K.1 2) (fun i => if i < K.1 2 then some (ad (9, i)) else none) := hp.lst rfl (lof_W h)
theorem zP.lq1 (hp : zP g K X ad M) (h : K.1 13 ≤ 49) : zLq g M (ad (7, 1)) (K.1 13) (fun i => if i < K.1 13 then some (ad (10, i)) else none) := hp.lst rfl (lof_W h)
theorem zP.lq2 (hp : zP g K X ad M) (h : K.1 25 ≤ 49) : zLq g M (ad (7, 2)) (K.1 25) (fun i => if i < K.1 25 then some (ad (11, i)) else none) := hp.lst rfl (lof_W h)
theorem zP.lq3 (hp : zP g K X ad M) (h : K.1 33 ≤ 49) : zLq g M (ad (7, 3)) (K.1 33) (fun i => if i < K.1 33 then some (ad (12, i)) else none) := hp.lst rfl (lof_W h)
theorem linfo_w {s : Nat} (hs : s < K.1 33) (h20 : K.1 33 ≤ 20) : linfo K (4 + s) = some (lof (kws K s).1 (fun i => (13, 64 * s + i))) := by
  unfold linfo
  rw [if_neg (by omega), if_neg (by omega), if_neg (by omega), if_neg (by omega), if_pos (by omega)]
  rw [show 4 + s - 4 = s by omega, if_pos hs]
theorem zP.loW (hp : zP g K X ad M) {s : Nat} (hs : s < K.1 33 ∧ K.1 33 ≤ 20) : M (ad (7, 4 + s)) = some (lisE g ad (4 + s) (lof (kws K s).1 (fun i => (13, 64 * s + i)))) := zPic.at hp (show (linfo K (4 + s)).map _ = _ by rw [linfo_w hs.1 hs.2]; rfl)
theorem zP.lqW (hp : zP g K X ad M) {s : Nat} (hs : s < K.1 33 ∧ K.1 33 ≤ 20) (h : (kws K s).1 ≤ 40) : zLq g M (ad (7, 4 + s)) (kws K s).1 (fun i => if i < (kws K s).1 then some (ad (13, 64 * s + i)) else none) := hp.lst (linfo_w hs.1 hs.2) (lof_W (by omega))
theorem k_lawN (w : Nat) (x d : Int32) (hx : x = nI w) (hw : w < 7) (hp : zP g K X ad M) {l : Nat} (hl : l ≤ K.1 2) (hch : iCh K) : zCt g yX2_numberOn cX2_numberOn 3 (some .int) 1 22 mkI [.ref (ad (1, l)), .int x, .int d] M 0 0 (fun v M1 => v = lawK K l w d ∧ M1 = M) noX := by
  subst hx
  exact w_numberOn d (hp.lawo hl) (hp.lawr hl) hw (if_pos hw) (hp.chr (chA_law hl hw) (hch _))
theorem k_faithNow (hp : zP g K X ad M) {p : Nat} (h : p < K.1 13) (hch : iCh K) : zCt g yX4_faithNow cX4_faithNow 1 (some .int) 1 20 mkI [.ref (ad (10, p))] M 0 0 (fun v M1 => v = newK K p ∧ M1 = M) noX := (p_faithNow (hp.per h) (hp.chr (chA_per h) (hch _))).post (fun v M1 h => h)
theorem k_isGrown (hp : zP g K X ad M) {p : Nat} (h : p < K.1 13) (d : Int32) : zCt g yX4_isGrownOn cX4_isGrownOn 2 (some .boolean) 1 21 mkI [.ref (ad (10, p)), .int d] M 0 0 (fun v M1 => v = b2i (groK K p d) ∧ M1 = M) noX := p_isGrownOn d _ (hp.per h) rfl
theorem opt_ad {r : Option Nat} {p : Nat} (h : ∀ q, r = some q → (ad (10, q) = ad (10, p) ↔ q = p)) : decide ((r.map fun q => ad (10, q)) = some (ad (10, p))) = decide (r = some p) := by
  cases r with
  | none => rfl
  | some q =>
    rw [decide_eq_decide]
    show some (ad (10, q)) = some (ad (10, p)) ↔ some q = some p
    rw [Option.some_inj, Option.some_inj, h q rfl]
theorem k_isChild (hp : zP g K X ad M) {k p : Nat} (h : k < K.1 13) (h2 : p < K.1 13) (hpa : iPa K) : zCt g yX4_isLivingChildOf cX4_isLivingChildOf 2 (some .boolean) 0 0 mkI [.ref (ad (10, k)), .ref (ad (10, p))] M 0 0 (fun v M1 => v = b2i (chlK K k p) ∧ M1 = M) noX := by
  refine (p_isLivingChildOf (ad (10, p)) _ (hp.per h) rfl).post fun v M1 ⟨e, m⟩ => ⟨?_, m⟩
  rw [e, opt_ad (fun q hq => hp.per_inj (Nat.lt_trans ((hpa k h).1 q hq) h) h2), opt_ad (fun q hq => hp.per_inj (Nat.lt_trans ((hpa k h).2 q hq) h) h2)]
  rfl
theorem k_lastsFor (hp : zP g K X ad M) {m p : Nat} (h : m < K.1 25) (h2 : p < K.1 13) (hma : iMa K) : zCt g yX3_lastsFor cX3_lastsFor 2 (some .boolean) 0 0 mkI [.ref (ad (11, m)), .ref (ad (10, p))] M 0 0 (fun v M1 => v = b2i (lasK K m p) ∧ M1 = M) noX := by
  refine (r_lastsFor (ad (10, p)) (hp.mar h)).post fun v M1 ⟨e, m1⟩ => ⟨?_, m1⟩
  rw [e, show decide (ad (10, (kma K m).1) = ad (10, p)) = decide ((kma K m).1 = p) from decide_eq_decide.mpr (hp.per_inj (hma m h).1 h2), show decide (ad (10, (kma K m).2.1) = ad (10, p)) = decide ((kma K m).2.1 = p) from decide_eq_decide.mpr (hp.per_inj (hma m h).2.1 h2)]
  rfl
theorem k_isBetween (hp : zP g K X ad M) {s p : Nat} (h : s < K.1 33) (h2 : p < K.1 13) (hsu : iSui K) : zCt g yX5_isBetween cX5_isBetween 2 (some .boolean) 0 0 mkI [.ref (ad (12, s)), .ref (ad (10, p))] M 0 0 (fun v M1 => v = b2i (btwK K s p) ∧ M1 = M) noX := by
  refine (s_isBetween (ad (10, p)) (hp.sui h)).post fun v M1 ⟨e, m1⟩ => ⟨?_, m1⟩
  rw [e, show decide (ad (10, (ksu K s).1) = ad (10, p)) = decide ((ksu K s).1 = p) from decide_eq_decide.mpr (hp.per_inj (hsu s h).1 h2), show decide (ad (10, (ksu K s).2.1) = ad (10, p)) = decide ((ksu K s).2.1 = p) from decide_eq_decide.mpr (hp.per_inj (hsu s h).2.1 h2)]
  rfl
/-- a number of a list -/
theorem zix_lt {n : Int32} {len : Nat} (h1 : ¬ n < 0) (h2 : n < nI len) (hl : len < 2 ^ 31) : ∃ j, j < len ∧ n = nI j := by
  rw [Int32.lt_iff_toInt_lt] at h1 h2
  rw [nI_toInt hl] at h2
  exact vp_in_of (vp_in_iff.mpr ⟨by simpa using h1, h2⟩) hl
theorem zix_f1 {n : Int32} {len : Nat} (h1 : n < 0) : zix n len = false := by
  rw [Int32.lt_iff_toInt_lt] at h1
  unfold zix
  rw [decide_eq_false (show ¬ (0 : Int) ≤ n.toInt by simpa using h1)]
  rfl
theorem zix_f2 {n : Int32} {len : Nat} (h2 : ¬ n < nI len) (hl : len < 2 ^ 31) : zix n len = false := by
  rw [Int32.lt_iff_toInt_lt, nI_toInt hl] at h2
  unfold zix
  rw [decide_eq_false h2, Bool.and_false]
theorem zix_t {j len : Nat} (h : j < len) (hl : len < 2 ^ 31) : zix (nI j) len = true := by
  rw [zix_nI (by omega)]
  simp [h]
/-- a law's number for callers: the crown is NONE -/
def lcode (l : Nat) : Int32 := if l = 0 then -1 else nI (l - 1)
def ocode (r : Option Nat) : Int32 := match r with | none => -1 | some j => nI j
theorem zix_m1 {len : Nat} : zix (-1) len = false := zix_f1 (by decide)
theorem nI_m1 {j : Nat} (h : j < 2 ^ 31) : ¬ nI j = -1 := fun e => by
  have := congrArg Int32.toInt e
  rw [nI_toInt h] at this
  simp at this
end K2
