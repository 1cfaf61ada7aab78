def zKW (w : Cond) : Bool := match w with
  | .castable .. => true
  | .declares _ => true
  | .methodLinkNest .. => true
  | .fieldLinkNest .. => true
  | _ => false
def zNW (s : State) : Prop := ∀ w ∈ lw_tbl, zKW w = true → va_Nw w s
theorem zNW.warm {s U : State} (hW : s.WarmedH U.vm) (h : zNW s) : zNW U := by
  intro w hw hk
  have h1 := h w hw hk
  cases w <;> first | exact va_Nw.warmC hW h1 | exact va_Nw.warmD hW h1 | exact va_Nw.warmM hW h1 | exact va_Nw.warmF hW h1 | (exact absurd hk (by simp [zKW]))
theorem zNW.same {u U : State} (hv : u.vm = U.vm) (h : zNW u) : zNW U := by
  intro w hw hk
  have h1 := h w hw hk
  cases w <;> first | exact va_Nw.same rfl hv h1 | (exact absurd hk (by simp [zKW]))
def zLF : Nat → Int32 := fun j => [0, 2, 1, 25, 1, 0, 63].getD j 0
def zLL : Nat → Int32 := fun j => [0, 0, 1, 0, 0, 0, 0].getD j 0
def zLH : Nat → Int32 := fun j => [2, 3, 4, 100, 1, 1, 63].getD j 0
def zRF : Nat → Int32 := fun j => [0, 0, 0, 1].getD j 0
/-- the statics: where they lie and what they hold -/
def zSF (cl : List vw_C) (tx : List (String × Nat × String)) (g : zGh) (s : State) (H : Heap) : Prop :=
  (vx_Zq Bundle.tN "UNASSIGNED_STACK" Bundle.steD (fun q => g.1 ≤ q) s H ∧ vx_Zq Bundle.tN "SUPPRESSED_SENTINEL" Bundle.listD (fun q => g.1 ≤ q) s H) ∧
  (va_Z "Milletcourt" "LAWS_AT_FIRST" "[I" (.ref (g.2.2.2.1 0)) (fun q => g.1 ≤ q) s H ∧ va_T .int (g.2.2.2.1 0) 7 (fun j => .int (zLF j)) (fun q => g.1 ≤ q) s H) ∧
  (va_Z "Milletcourt" "LAWS_LOWEST" "[I" (.ref (g.2.2.2.1 1)) (fun q => g.1 ≤ q) s H ∧ va_T .int (g.2.2.2.1 1) 7 (fun j => .int (zLL j)) (fun q => g.1 ≤ q) s H) ∧
  (va_Z "Milletcourt" "LAWS_HIGHEST" "[I" (.ref (g.2.2.2.1 2)) (fun q => g.1 ≤ q) s H ∧ va_T .int (g.2.2.2.1 2) 7 (fun j => .int (zLH j)) (fun q => g.1 ≤ q) s H) ∧
  (va_Z "Milletcourt" "RULES_AT_FIRST" "[I" (.ref (g.2.2.2.1 3)) (fun q => g.1 ≤ q) s H ∧ va_T .int (g.2.2.2.1 3) 4 (fun j => .int (zRF j)) (fun q => g.1 ≤ q) s H) ∧
  (va_Z "java/util/ArrayList" "DEFAULTCAPACITY_EMPTY_ELEMENTDATA" "[Ljava/lang/Object;" (.ref (g.2.2.2.1 4)) (fun q => g.1 ≤ q) s H ∧ va_T (.object "java/lang/Object") (g.2.2.2.1 4) 0 (fun _ => .null) (fun q => g.1 ≤ q) s H) ∧
  va_Mi "[Ljava/lang/Object;" (g.2.2.2.1 5) s ∧ (va_AO "java/lang/Object" s ∧ va_AO "Milletcourt$Chronicle" s) ∧ ∀ q ∈ tx, ∃ a, vk_R q.1 q.2.1 q.2.2 a s
