def bt (x : Int32) (i : Nat) : Bool := x.toBitVec.getLsbD i
theorem b_ext {x y : Int32} (h : ∀ i, i < 32 → bt x i = bt y i) : x = y := Int32.toBitVec_inj.mp (BitVec.eq_of_getLsbD_eq (fun i hi => h i hi))
theorem b_or (x y : Int32) (i : Nat) : bt (x ||| y) i = (bt x i || bt y i) := by unfold bt; rw [Int32.toBitVec_or, BitVec.getLsbD_or]
theorem b_and (x y : Int32) (i : Nat) : bt (x &&& y) i = (bt x i && bt y i) := by unfold bt; rw [Int32.toBitVec_and, BitVec.getLsbD_and]
theorem b_xor (x y : Int32) (i : Nat) : bt (x ^^^ y) i = (bt x i ^^ bt y i) := by unfold bt; rw [Int32.toBitVec_xor, BitVec.getLsbD_xor]
theorem b_big {x : Int32} {i : Nat} (h : 32 ≤ i) : bt x i = false := BitVec.getLsbD_of_ge _ _ h
theorem b_255 (i : Nat) : bt 255 i = decide (i < 8) := by
  rcases Nat.lt_or_ge i 32 with h | h
  · exact (by decide +kernel : ∀ i, i < 32 → bt 255 i = decide (i < 8)) i h
  · rw [b_big h, decide_eq_false (by omega)]
theorem b_65535 (i : Nat) : bt 65535 i = decide (i < 16) := by
  rcases Nat.lt_or_ge i 32 with h | h
  · exact (by decide +kernel : ∀ i, i < 32 → bt 65535 i = decide (i < 16)) i h
  · rw [b_big h, decide_eq_false (by omega)]
theorem b_m1 : ∀ i, i < 32 → bt (-1) i = true := by decide +kernel
theorem b_0 (i : Nat) : bt 0 i = false := BitVec.getLsbD_zero
theorem s_l : ∀ n, n < 32 → ((nI n &&& 31).toBitVec.smod 32).toNat = n := by decide +kernel
theorem s_u : ∀ n, n < 32 → (((nI n).toUInt32 &&& Int32.toUInt32 31).toBitVec % 32).toNat = n := by decide +kernel
theorem b_shl (n : Nat) (hn : n < 32) (x : Int32) {i : Nat} (hi : i < 32) : bt (x <<< (nI n &&& 31)) i = (decide (n ≤ i) && bt x (i - n)) := by
  unfold bt
  rw [Int32.toBitVec_shiftLeft]
  show (x.toBitVec <<< ((nI n &&& 31).toBitVec.smod 32).toNat).getLsbD i = _
  rw [s_l n hn, BitVec.getLsbD_shiftLeft]
  rcases Nat.lt_or_ge i n with h | h
  · simp [h, Nat.not_le.mpr h]
  · simp [hi, h, Nat.not_lt.mpr h]
theorem b_ushr (n : Nat) (hn : n < 32) (x : Int32) (i : Nat) : bt ((x.toUInt32 >>> ((nI n).toUInt32 &&& Int32.toUInt32 31)).toInt32) i = bt x (n + i) := by
  show (x.toUInt32 >>> ((nI n).toUInt32 &&& Int32.toUInt32 31)).toBitVec.getLsbD i = x.toUInt32.toBitVec.getLsbD (n + i)
  rw [UInt32.toBitVec_shiftRight]
  show (x.toUInt32.toBitVec >>> (((nI n).toUInt32 &&& Int32.toUInt32 31).toBitVec % 32).toNat).getLsbD i = _
  rw [s_u n hn, BitVec.getLsbD_ushiftRight]
theorem b_sshr (n : Nat) (hn : n < 32) (x : Int32) {i : Nat} (hi : i < 32) : bt (x >>> (nI n &&& 31)) i = if n + i < 32 then bt x (n + i) else bt x 31 := by
  unfold bt
  rw [Int32.toBitVec_shiftRight]
  show (x.toBitVec.sshiftRight ((nI n &&& 31).toBitVec.smod 32).toNat).getLsbD i = _
  rw [s_l n hn, BitVec.getLsbD_sshiftRight, BitVec.msb_eq_getLsbD_last]
  simp [hi]
def zmask : List Bool → List (Option Value) → List (Option Value)
  | b :: bs, o :: t => (if b = true then o else none) :: zmask bs t
  | _, l => l
theorem zmask_mem : ∀ (bs : List Bool) (L : List (Option Value)) (b : Nat) (q : Nat × Value), q ∈ zas b (zmask bs L) → q ∈ zas b L
  | [], L, b, q, h => by simpa [zmask] using h
  | c :: bs, [], b, q, h => by simpa [zmask] using h
  | c :: bs, o :: t, b, q, h => by
    cases c with
    | false =>
      have h1 := zmask_mem bs t (b + 1) q h
      cases o with
      | none => exact h1
      | some w => exact List.mem_cons_of_mem _ h1
    | true =>
      cases o with
      | none => exact zmask_mem bs t (b + 1) q h
      | some w =>
        rcases List.mem_cons.mp h with h | h
        · rw [h]; exact List.mem_cons_self
        · exact List.mem_cons_of_mem _ (zmask_mem bs t (b + 1) q h)
theorem zmask_len : ∀ (bs : List Bool) (L : List (Option Value)), (zmask bs L).length = L.length
  | [], L => by cases L <;> rfl
  | c :: bs, [] => rfl
  | c :: bs, o :: t => by simp [zmask, zmask_len bs t]
/-- some locals are forgotten -/
theorem zfor {g : zGh} {X : zX} {M : zM} {k n pc : Nat} {L L1 : List (Option Value)} {st : List Value} (bs : List Bool) (h : zmask bs L = L1) (kk : zG g X M k n pc L1 st) : zG g X M k n pc L st := by
  subst h
  intro H locs ls hH hS hL
  refine kk H locs ls hH hS ?_
  rw [zmask_len]
  exact hL.mono (fun q hq => zmask_mem bs L 0 q hq)
theorem zcg {g : zGh} {X : zX} {M : zM} {k n pc : Nat} {L L1 : List (Option Value)} {st st1 : List Value} (kk : zG g X M k n pc L1 st1) (h : L = L1 := by rfl) (h2 : st = st1 := by rfl) : zG g X M k n pc L st := by subst h; subst h2; exact kk
-- numbers
theorem zin_zix {k : Int32} {n : Nat} (hn : n < 2 ^ 30) : (decide (0 ≤ k) && decide (k ≤ nI n - 1)) = zix k n := by
  have h1 : (nI n - 1).toInt = (n : Int) - 1 := by
    have := pk_sub_toInt (a := n) (b := 1) hn (by decide)
    rw [show nI 1 = (1 : Int32) from rfl] at this
    rw [this]
    rfl
  unfold zix
  congr 1
  · rw [decide_eq_decide, Int32.le_iff_toInt_le]; rfl
  · rw [decide_eq_decide, Int32.le_iff_toInt_le, h1]
    omega
theorem zx_rec (c d : Nat) (hd : d < 2 ^ 31) : 938 * nI c + nI d / 32 = nI (938 * c + d / 32) := by
  rw [show (938 : Int32) = nI 938 from rfl, show (32 : Int32) = nI 32 from rfl, pk_mul, pk_div hd (by decide) (by decide), nI_add]
theorem zx_rem (d : Nat) (hd : d < 2 ^ 31) : nI d - nI d / 32 * 32 = nI (d % 32) := by
  rw [show (32 : Int32) = nI 32 from rfl, pk_rem hd (by decide) (by decide)]
theorem zx_tk (p k : Nat) : 1024 * nI p + nI k = nI (1024 * p + k) := by
  rw [show (1024 : Int32) = nI 1024 from rfl, pk_mul, nI_add]
theorem zb_1 : ∀ i, i < 32 → bt 1 i = decide (i = 0) := by decide +kernel
theorem zb_bit (x : Int32) (k : Nat) (hk : k < 32) : (x >>> (nI k &&& 31)) &&& 1 = b2i (bt x k) := by
  apply b_ext
  intro i hi
  rw [b_and, zb_1 i hi, b_sshr k hk x hi]
  by_cases h0 : i = 0
  · subst h0
    simp [hk]
    cases bt x k <;> decide
  · simp [h0]
    cases bt x k
    · simp [b2i_f, b_0]
    · rw [b2i_t, zb_1 i hi]; simp [h0]
/-- a day's bit put into a word -/
def recW (x : Int32) (k : Nat) (on : Bool) : Int32 := (x &&& (((1 : Int32) <<< (nI k &&& 31)) ^^^ (-1))) ||| (if on = true then (1 : Int32) <<< (nI k &&& 31) else 0)
theorem recW_bt (x : Int32) (k : Nat) (hk : k < 32) (on : Bool) (i : Nat) (hi : i < 32) : bt (recW x k on) i = if i = k then on else bt x i := by
  have h1 : bt ((1 : Int32) <<< (nI k &&& 31)) i = decide (i = k) := by
    rw [b_shl k hk 1 hi]
    by_cases h : k ≤ i
    · rw [zb_1 (i - k) (by omega)]
      simp [h]
      omega
    · simp [h]
      omega
  unfold recW
  rw [b_or, b_and, b_xor, h1, b_m1 i hi]
  by_cases h : i = k
  · cases on
    · simp [h, b_0]
    · simp only [if_true, h1]; simp [h]
  · cases on
    · simp [h, b_0]
    · simp only [if_true, h1]; simp [h]
-- what the reference's methods answer
def recBit (S : zS) (c d : Nat) : Bool := bt (S.2.2.1 3 (938 * c + d / 32)) (d % 32)
def recF (f : Nat → Int32) (c : Nat) (on : Bool) (t : Nat) : Nat → (Nat → Int32)
  | 0 => f
  | r + 1 => upd (recF f c on t r) (938 * c + (t + r) / 32) (recW (recF f c on t r (938 * c + (t + r) / 32)) ((t + r) % 32) on)
def recS (S : zS) (c : Nat) (on : Bool) : zS := zsA S 3 (recF (S.2.2.1 3) c on (S.1 1) (30001 - S.1 1))
def lawI (w : Int32) : Int32 := if w = 1 then 2 else if w = 3 then 25 else if w = 6 then 63 else if w = 2 ∨ w = 4 then 1 else 0
def lawL (r5 r6 r7 r8 : Nat → Int32) (c w d : Int32) : Nat → Int32
  | 0 => lawI w
  | k + 1 => if r5 k = c ∧ r6 k = w ∧ r8 k ≤ d then r7 k else lawL r5 r6 r7 r8 c w d k
def lawOf (S : zS) (c w d : Int32) : Int32 := lawL (S.2.2.1 5) (S.2.2.1 6) (S.2.2.1 7) (S.2.2.1 8) c w d (S.1 4)
def ruleL (r10 r11 r12 : Nat → Int32) (m d : Int32) : Nat → Int32
  | 0 => if m = 3 then 1 else 0
  | k + 1 => if r10 k = m ∧ r12 k ≤ d then r11 k else ruleL r10 r11 r12 m d k
def ruleOn (S : zS) (m d : Int32) : Int32 := ruleL (S.2.2.1 10) (S.2.2.1 11) (S.2.2.1 12) m d (S.1 9)
def fIx (r : Nat → Int32) (p : Nat) (d : Int32) : Nat → Nat
  | 0 => 0
  | k + 1 => if d < r (1024 * p + (k + 1)) / 8 then fIx r p d k else k + 1
def faithOn (r : Nat → Int32) (p : Nat) (d : Int32) (t : Nat) : Int32 := r (1024 * p + fIx r p d t) - r (1024 * p + fIx r p d t) / 8 * 8
theorem fIx_le (r : Nat → Int32) (p : Nat) (d : Int32) : ∀ t, fIx r p d t ≤ t
  | 0 => Nat.le_refl _
  | k + 1 => by
    unfold fIx
    split
    · exact Nat.le_trans (fIx_le r p d k) (Nat.le_succ _)
    · exact Nat.le_refl _

