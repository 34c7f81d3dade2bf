/-! QL 1: numbers, the layout of all cells, what a heap holds, the step predicate -/
def iI (z : Int) : Int32 := Int32.ofInt z
def iL (z : Int) : Int64 := Int64.ofInt z
abbrev inR (z : Int) : Prop := -2147483648 ≤ z ∧ z ≤ 2147483647
abbrev inL (z : Int) : Prop := -9223372036854775808 ≤ z ∧ z ≤ 9223372036854775807
theorem iI_toInt {z : Int} (h : inR z) : (iI z).toInt = z := Int32.toInt_ofInt_of_le (by have := h.1; omega) (by have := h.2; omega)
theorem iL_toInt {z : Int} (h : inL z) : (iL z).toInt = z := Int64.toInt_ofInt_of_le (by have := h.1; omega) (by have := h.2; omega)
theorem iI_of (x : Int32) : ∃ z : Int, inR z ∧ x = iI z := ⟨x.toInt, ⟨by have := x.le_toInt; omega, by have := x.toInt_lt; omega⟩, (Int32.ofInt_toInt x).symm⟩
theorem iI_add (x y : Int) : iI x + iI y = iI (x + y) := by
  apply Int32.toInt_inj.mp
  simp [iI, Int32.toInt_add]
theorem iI_sub (x y : Int) : iI x - iI y = iI (x - y) := by
  apply Int32.toInt_inj.mp
  simp [iI, Int32.toInt_sub]
theorem iI_mul (x y : Int) : iI x * iI y = iI (x * y) := by
  apply Int32.toInt_inj.mp
  simp [iI, Int32.toInt_mul]
theorem iL_add (x y : Int) : iL x + iL y = iL (x + y) := by
  apply Int64.toInt_inj.mp
  simp [iL, Int64.toInt_add]
theorem iL_sub (x y : Int) : iL x - iL y = iL (x - y) := by
  apply Int64.toInt_inj.mp
  simp [iL, Int64.toInt_sub]
theorem iL_mul (x y : Int) : iL x * iL y = iL (x * y) := by
  apply Int64.toInt_inj.mp
  simp [iL, Int64.toInt_mul]
theorem iI_eq {x y : Int} (hx : inR x) (hy : inR y) : iI x = iI y ↔ x = y := by
  rw [← Int32.toInt_inj, iI_toInt hx, iI_toInt hy]
theorem iI_lt {x y : Int} (hx : inR x) (hy : inR y) : iI x < iI y ↔ x < y := by
  rw [Int32.lt_iff_toInt_lt, iI_toInt hx, iI_toInt hy]
theorem iI_le {x y : Int} (hx : inR x) (hy : inR y) : iI x ≤ iI y ↔ x ≤ y := by
  rw [Int32.le_iff_toInt_le, iI_toInt hx, iI_toInt hy]
theorem iI_nat (n : Nat) : nI n = iI (n : Int) := (Int32.ofInt_eq_ofNat).symm
theorem iI_0 : (0 : Int32) = iI 0 := rfl
theorem iI_div {x y : Int} (hx : inR x) (hy : inR y) (h0 : 0 ≤ x) (h1 : 0 < y) : iI x / iI y = iI (x / y) := by
  apply Int32.toInt_inj.mp
  have hb : iI y ≠ -1 := by
    intro e
    have := congrArg Int32.toInt e
    rw [iI_toInt hy] at this
    have h2 : (-1 : Int32).toInt = -1 := by decide
    omega
  rw [Int32.toInt_div_of_ne_right _ _ hb, iI_toInt hx, iI_toInt hy, Int.tdiv_eq_ediv_of_nonneg h0]
  have h3 : 0 ≤ x / y := Int.ediv_nonneg h0 (by omega)
  have h4 : x / y ≤ x := Int.ediv_le_self _ h0
  rw [iI_toInt ⟨by omega, by have := hx.2; omega⟩]
theorem iI_rem {x y : Int} (hx : inR x) (hy : inR y) (h0 : 0 ≤ x) (h1 : 0 < y) : iI x - iI x / iI y * iI y = iI (x % y) := by
  rw [iI_div hx hy h0 h1, iI_mul, iI_sub]
  congr 1
  have := Int.mul_ediv_add_emod x y
  rw [Int.mul_comm] at this
  omega
theorem iI_l {z : Int} (h : inR z) : (iI z).toInt64 = iL z := by
  apply Int64.toInt_inj.mp
  rw [Int32.toInt_toInt64, iI_toInt h, iL_toInt ⟨by have := h.1; omega, by have := h.2; omega⟩]
theorem iI_clamp {z : Int} (h : inR z) : (iI z).toNatClampNeg = z.toNat := by
  show (iI z).toInt.toNat = _
  rw [iI_toInt h]
theorem iI_in {z : Int} {n : Nat} (h : 0 ≤ z ∧ z < n) (hn : n < 2147483648) : vp_in (iI z) n := by
  have hr : inR z := ⟨by omega, by omega⟩
  rw [vp_in_iff, iI_toInt hr]
  exact h
/-- the world: class and array classes' numbers, where each cell lies, from where on cells may change, how many rows of the law's own there are -/
abbrev WP : Type := va_G × (ClassId × ClassId × ClassId) × (Nat → Nat) × Nat × Nat
def nP (w : WP) : Nat := 110 + w.2.2.2.2
theorem nP_ge {w : WP} {k : Nat} (h : k < 110) : k < nP w := by unfold nP; omega
def adr (w : WP) (k : Nat) : Nat := w.2.2.1 k
def Aw (w : WP) : Nat → Prop := fun q => w.2.2.2.1 ≤ q
/-- the kinds of the cells: 0 Board, 1 History, 2 PoemReader, 3 MagnetPoems, 5 int[], 6 boolean[], 7 Board[], 9 int[] of the law: 110 where, 111 loans, 112 times, 113 n; 114 then, 115 lent, 116 numbers, 117 stolen -/
def kdL : List Nat := [3, 0,5,5,5,5,5,5,5,5,5, 0,5,5,5,5,5,5,5,5,5, 1,7, 0,5,5,5,5,5,5,5,5,5, 0,5,5,5,5,5,5,5,5,5, 0,5,5,5,5,5,5,5,5,5, 0,5,5,5,5,5,5,5,5,5, 0,5,5,5,5,5,5,5,5,5, 0,5,5,5,5,5,5,5,5,5, 7,6,5,2,6,5,5, 0,5,5,5,5,5,5,5,5,5, 0,5,5,5,5,5,5,5,5,5, 9,9,9,9,9,9,9,9]
def lnL : List Nat := [8, 13,40,96,16,16,16,40,4,4,3, 13,40,96,16,16,16,40,4,4,3, 3,6, 13,40,96,16,16,16,40,4,4,3, 13,40,96,16,16,16,40,4,4,3, 13,40,96,16,16,16,40,4,4,3, 13,40,96,16,16,16,40,4,4,3, 13,40,96,16,16,16,40,4,4,3, 13,40,96,16,16,16,40,4,4,3, 2,2,60,7,40,24,24, 13,40,96,16,16,16,40,4,4,3, 13,40,96,16,16,16,40,4,4,3, 40,16,40,14,40,16,14,40]
def kd (k : Nat) : Nat := kdL.getD k 10
def ln (k : Nat) : Nat := lnL.getD k 0
def gA (k j : Nat) : Option Nat := if k = 22 then (if j < 6 then some (23 + 10 * j) else none) else (if j < 2 then some (90 + 10 * j) else none)
theorem kd_lt {k c : Nat} (h : kd k = c) (hc : c < 9) : k < 110 := by
  rcases Nat.lt_or_ge k 118 with h1 | h1
  · have : ∀ k, k < 118 → kd k < 9 → k < 110 := by decide +kernel
    exact this k h1 (by omega)
  · have : kd k = 10 := by
      unfold kd
      rw [List.getD_eq_getElem?_getD, List.getElem?_eq_none (by simpa [kdL] using h1)]; rfl
    omega
theorem ln_lt (k : Nat) : ln k < 2147483648 := by
  rcases Nat.lt_or_ge k 118 with h1 | h1
  · have : ∀ k, k < 118 → ln k < 2147483648 := by decide +kernel
    exact this k h1
  · have : ln k = 0 := by
      unfold ln
      rw [List.getD_eq_getElem?_getD, List.getElem?_eq_none (by simpa [lnL] using h1)]; rfl
    omega
/-- what the cells hold: a number for each place of each cell -/
abbrev FF : Type := Nat → Int → Int
def up (F : FF) (k : Nat) (i z : Int) : FF := fun k' i' => if k' = k ∧ i' = i then z else F k' i'
def fsO (w : WP) (ci k : Nat) (F : FF) : List Value := match ci with
  | 0 => [.ref (adr w (k+1)), .ref (adr w (k+2)), .ref (adr w (k+3)), .ref (adr w (k+4)), .ref (adr w (k+5)), .ref (adr w (k+6)), .ref (adr w (k+7)), .ref (adr w (k+8)), .ref (adr w (k+9)), .int (iI (F k 9)), .int (iI (F k 10)), .int (iI (F k 11)), .int (iI (F k 12))]
  | 1 => [.ref (adr w 22), .int (iI (F k 1)), .int (iI (F k 2))]
  | 2 => [.ref (adr w 87), .ref (adr w 88), .ref (adr w 89), .int (iI (F k 3)), .int (iI (F k 4)), .int (iI (F k 5)), .int (iI (F k 6))]
  | 3 => [.ref (adr w 1), .ref (adr w 11), .ref (adr w 21), .ref (adr w 83), .ref (adr w 84), .ref (adr w 85), .int (iI (F k 6)), .ref (adr w 86)]
  | _ => []
def cellE (w : WP) (F : FF) (k : Nat) : va_E :=
  if kd k < 5 then .inr (kd k, fsO w (kd k) k F) else if kd k = 6 then .inl (w.2.1.2.1, ln k, .inl (fun j => iI (F k j))) else if kd k = 7 then .inl (w.2.1.2.2, ln k, .inr (.inr (.inr (.inr (fun j => (gA k j).map (adr w)))))) else .inl (w.2.1.1, ln k, .inl (fun j => iI (F k j)))
def wsW (w : WP) (F : FF) : va_W := (List.range (nP w)).map (fun k => (adr w k, cellE w F k))
theorem wsW_get {w : WP} {F : FF} {k : Nat} (h : k < nP w) : (wsW w F)[k]? = some (adr w k, cellE w F k) := by simp [wsW, h]
theorem cellE_o {w : WP} {F : FF} {k ci : Nat} (h : kd k = ci) (hc : ci < 5) : cellE w F k = .inr (ci, fsO w ci k F) := by subst h; simp [cellE, hc]
theorem cellE_5 {w : WP} {F : FF} {k : Nat} (h : kd k = 5) : cellE w F k = .inl (w.2.1.1, ln k, .inl (fun j => iI (F k j))) := by simp [cellE, h]
theorem cellE_9 {w : WP} {F : FF} {k : Nat} (h : kd k = 9) : cellE w F k = .inl (w.2.1.1, ln k, .inl (fun j => iI (F k j))) := by simp [cellE, h]
theorem cellE_6 {w : WP} {F : FF} {k : Nat} (h : kd k = 6) : cellE w F k = .inl (w.2.1.2.1, ln k, .inl (fun j => iI (F k j))) := by simp [cellE, h]
theorem cellE_7 {w : WP} {F : FF} {k : Nat} (h : kd k = 7) : cellE w F k = .inl (w.2.1.2.2, ln k, .inr (.inr (.inr (.inr (fun j => (gA k j).map (adr w)))))) := by simp [cellE, h]
theorem cellE_eq {w : WP} {F F' : FF} {j : Nat} (e : F' j = F j) : cellE w F' j = cellE w F j := by
  have e2 : ∀ c, fsO w c j F' = fsO w c j F := by intro c; unfold fsO; simp only [e]
  unfold cellE
  simp only [e, e2]
theorem cellE_ne {w : WP} {F : FF} {k j : Nat} {i z : Int} (h : j ≠ k) : cellE w (up F k i z) j = cellE w F j := cellE_eq (by funext x; simp [up, h])
theorem wsW_set {w : WP} {F F' : FF} {k : Nat} (h : k < nP w) (hF : ∀ j, j ≠ k → cellE w F' j = cellE w F j) {e : va_E} (he : cellE w F' k = e) : (wsW w F).set k (adr w k, e) = wsW w F' := by
  subst he
  apply List.ext_getElem?
  intro j
  by_cases hj : j = k
  · subst hj
    simp [wsW, h]
  · rw [List.getElem?_set_ne (Ne.symm hj)]
    by_cases h2 : j < nP w
    · rw [wsW_get h2, wsW_get h2, hF j hj]
    · simp [wsW, h2]
