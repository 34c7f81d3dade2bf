/-! more that is read off the row -/
theorem k_wol_n {w : WP} {F : FF} {b : Nat} {r : Rw} {x : Int} (l : Launch) (hb : IsB b) (hB : BI F b r) (hl : 0 ≤ x ∧ x < 16) : Con l yX0_worthOfLine cX0_worthOfLine 9 (some .int) 1 w [.ref (adr w b), .int (iI x), .int (iI (-1))] F (QI w (fun z F' => z = lw r x ∧ F = F')) := (k_X0_worthOfLine l hb hB hl (by omega)).post (fun z F' h => ⟨by rw [h.1, if_pos rfl]; exact lw_fw r x (-1), h.2⟩)
theorem k_wol_w {w : WP} {F : FF} {b : Nat} {r : Rw} {x y : Int} (l : Launch) (hb : IsB b) (hB : BI F b r) (hl : 0 ≤ x ∧ x < 16) (hy : 0 ≤ y ∧ y < 40) : Con l yX0_worthOfLine cX0_worthOfLine 9 (some .int) 1 w [.ref (adr w b), .int (iI x), .int (iI y)] F (QI w (fun z F' => z = LW (fw r x y) (r x + 1) ∧ F = F')) := (k_X0_worthOfLine l hb hB hl (by omega)).post (fun z F' h => ⟨by rw [h.1, if_neg (by omega)], h.2⟩)
def rhT (r : Rw) (l e i : Int) : Int := if 4 * (l / 4) + i ≠ l then eqv e (le r (4 * (l / 4) + i)) else 0
theorem rhE_eq (r : Rw) (l e : Int) : rhE r l e = sm (rhT r l e) 4 := rfl
theorem rhT_0 {r : Rw} {l e i : Int} (h : 4 * (l / 4) + i = l) : rhT r l e i = 0 := by unfold rhT; rw [if_neg (by omega)]
theorem eqv_0 {a b : Int} (h : a ≠ b) : eqv a b = 0 := by unfold eqv; rw [if_neg (by omega)]
theorem eqv_n {b : Int} : eqv (-1) b = 0 := by unfold eqv; rw [if_neg (by omega)]
theorem eqv_1 {a b : Int} (h : a = b) (h2 : a ≠ -1) : eqv a b = 1 := by unfold eqv; rw [if_pos ⟨h2, h⟩]
theorem rhT_n {r : Rw} {l e i : Int} (h : le r (4 * (l / 4) + i) ≠ e) : rhT r l e i = 0 := by unfold rhT; rw [eqv_0 (Ne.symm h)]; split <;> rfl
theorem rhT_1 {r : Rw} {l e i : Int} (h : 4 * (l / 4) + i ≠ l) (h2 : le r (4 * (l / 4) + i) = e) (h3 : e ≠ -1) : rhT r l e i = 1 := by unfold rhT; rw [if_pos h, eqv_1 h2.symm h3]
theorem rhE_n (r : Rw) (l : Int) : rhE r l (-1) = 0 := by
  rw [rhE_eq, sm_4]
  have h : ∀ i, rhT r l (-1) i = 0 := fun i => by unfold rhT; rw [eqv_n]; split <;> rfl
  rw [h, h, h, h]; rfl
def prT (r : Rw) (d i : Int) : Int := sm (fun k => eqv (le r (4 * d + i)) (le r (4 * d + k))) i
theorem prs_eq (r : Rw) (d : Int) : sm (prT r d) 4 = prs r d := by
  rw [sm_4]
  have h0 : prT r d 0 = 0 := rfl
  have h1 : prT r d 1 = eqv (le r (4 * d + 1)) (le r (4 * d)) := by
    show 0 + eqv (le r (4 * d + 1)) (le r (4 * d + 0)) = _
    rw [Int.zero_add, Int.add_zero]
  have h2 : prT r d 2 = eqv (le r (4 * d + 2)) (le r (4 * d)) + eqv (le r (4 * d + 2)) (le r (4 * d + 1)) := by
    show 0 + eqv (le r (4 * d + 2)) (le r (4 * d + 0)) + eqv (le r (4 * d + 2)) (le r (4 * d + 1)) = _
    rw [Int.zero_add, Int.add_zero]
  have h3 : prT r d 3 = eqv (le r (4 * d + 3)) (le r (4 * d)) + eqv (le r (4 * d + 3)) (le r (4 * d + 1)) + eqv (le r (4 * d + 3)) (le r (4 * d + 2)) := by
    show 0 + eqv (le r (4 * d + 3)) (le r (4 * d + 0)) + eqv (le r (4 * d + 3)) (le r (4 * d + 1)) + eqv (le r (4 * d + 3)) (le r (4 * d + 2)) = _
    rw [Int.zero_add, Int.add_zero]
  rw [h0, h1, h2, h3]
  unfold prs
  omega
theorem prT_n {r : Rw} {d i : Int} (hi : 0 ≤ i) (h : le r (4 * d + i) = -1) : prT r d i = 0 := by
  unfold prT
  rw [h]
  have : ∀ n : Nat, smN (fun k => eqv (-1) (le r (4 * d + k))) n = 0 := by
    intro n
    induction n with
    | zero => rfl
    | succ n ih =>
      show smN _ n + eqv (-1) _ = 0
      rw [ih, eqv_n]; rfl
  exact this _
def aw (r : Rw) : Int := sm (fun d => dw r d) 4
def bfV (r : Rw) (l x : Int) : Int := LW (fw r l x) (r l + 1) + 4 * rhE r l (en x)
def bfN (r : Rw) (l : Int) : Nat → Int
  | 0 => -1
  | n + 1 => if home r n = -1 ∧ rea r n l (r l) = 0 ∧ (bfN r l n = -1 ∨ bfV r l (bfN r l n) < bfV r l n) then n else bfN r l n
def bfI (r : Rw) (l i : Int) : Int := bfN r l i.toNat
def bf (r : Rw) (l : Int) : Int := bfN r l 40
theorem bfI_s {r : Rw} {l i : Int} (h : 0 ≤ i) : bfI r l (i + 1) = if home r i = -1 ∧ rea r i l (r l) = 0 ∧ (bfI r l i = -1 ∨ bfV r l (bfI r l i) < bfV r l i) then i else bfI r l i := by
  unfold bfI
  rw [show (i + 1).toNat = i.toNat + 1 by omega]
  show (if home r (i.toNat : Int) = -1 ∧ _ then (i.toNat : Int) else _) = _
  rw [Int.toNat_of_nonneg h]
theorem bfI_range (r : Rw) (l : Int) {i : Int} (h : 0 ≤ i) : -1 ≤ bfI r l i ∧ bfI r l i < i := by
  have : ∀ n : Nat, -1 ≤ bfN r l n ∧ bfN r l n < n := by
    intro n
    induction n with
    | zero => show (-1 : Int) ≤ -1 ∧ (-1 : Int) < 0; omega
    | succ n ih =>
      show -1 ≤ (if _ then (n : Int) else _) ∧ (if _ then (n : Int) else _) < _
      split <;> omega
  have h2 := this i.toNat
  unfold bfI; omega
theorem bf_eq {r : Rw} {l i : Int} (h : i = 40) : bfI r l i = bf r l := by subst h; rfl
theorem bf_range (r : Rw) (l : Int) : -1 ≤ bf r l ∧ bf r l < 40 := bfI_range r l (i := 40) (by omega)
theorem bfV_range {r : Rw} {l x : Int} (hI : Iv r) (hl : 0 ≤ l ∧ l < 16) (hx : 0 ≤ x) : 0 ≤ bfV r l x ∧ bfV r l x ≤ 60 := by
  have hs := hI.sz hl.1 hl.2
  have h1 := LW_bounds (f := fw r l x) (n := r l + 1) (by omega) (fun p a b => fw_nn hI hl (by omega) a)
  have h2 := rhE_range r l (en x)
  unfold bfV; omega
def lnt (r : Rw) : Int := sm (fun l => if 0 < r (112 + l) then 1 else 0) 16
def tgI (r : Rw) (i : Int) : Int := tgN r i.toNat
theorem tgI_s {r : Rw} {i : Int} (h : 0 ≤ i) : tgI r (i + 1) = if 0 < dwo r i ∧ r (128 + i) = 0 ∧ (tgI r i = -1 ∨ dw r (tgI r i) < dw r i) then i else tgI r i := by
  unfold tgI
  rw [show (i + 1).toNat = i.toNat + 1 by omega]
  show (if 0 < dwo r (i.toNat : Int) ∧ _ then (i.toNat : Int) else _) = _
  rw [Int.toNat_of_nonneg h]
theorem tgI_range (r : Rw) {i : Int} (h : 0 ≤ i) : -1 ≤ tgI r i ∧ tgI r i < i := by
  have := tgN_range r i.toNat
  unfold tgI; omega
theorem tg_eq (r : Rw) : tg r = if tgI r 4 ≠ -1 ∧ r 177 ≤ dw r (tgI r 4) then tgI r 4 else -1 := rfl
def pinI (r : Rw) (l b i : Int) : Int := pinN r l b i.toNat
theorem pinI_s {r : Rw} {l b i : Int} (h : 0 ≤ i) : pinI r l b (i + 1) = if pinI r l b i = -1 ∨ bt (pinI r l b i) < bt (wa r l i) then wa r l i else pinI r l b i := by
  unfold pinI
  rw [show (i + 1).toNat = i.toNat + 1 by omega]
  show (if _ ∨ _ < bt (wa r l (i.toNat : Int)) then wa r l (i.toNat : Int) else _) = _
  rw [Int.toNat_of_nonneg h]
def ponI (r : Rw) (d i : Int) : Int := ponN r d i.toNat
theorem ponI_s {r : Rw} {d i : Int} (h : 0 ≤ i) : ponI r d (i + 1) = pinI r (4 * d + 3 - i) (ponI r d i) (r (4 * d + 3 - i)) := by
  unfold ponI
  rw [show (i + 1).toNat = i.toNat + 1 by omega]
  show pinN r (4 * d + 3 - (i.toNat : Int)) _ (r (4 * d + 3 - (i.toNat : Int))).toNat = _
  rw [Int.toNat_of_nonneg h]; rfl
theorem pinI_range {r : Rw} (hI : Iv r) {l b i : Int} (hl : 0 ≤ l ∧ l < 16) (hb : -1 ≤ b ∧ b < 40) (hi : i ≤ r l) : -1 ≤ pinI r l b i ∧ pinI r l b i < 40 := by
  have : ∀ n : Nat, (n : Int) ≤ r l → -1 ≤ pinN r l b n ∧ pinN r l b n < 40 := by
    intro n
    induction n with
    | zero => exact fun _ => hb
    | succ n ih =>
      intro h
      have h1 := ih (by omega)
      have h2 := hI.wd hl.1 hl.2 (p := n) (by omega) (by omega)
      show -1 ≤ (if _ then wa r l (n : Int) else _) ∧ (if _ then wa r l (n : Int) else _) < 40
      split <;> omega
  by_cases q : i ≤ 0
  · unfold pinI; rw [show i.toNat = 0 by omega]; exact hb
  · exact this i.toNat (by omega)
theorem ponI_range {r : Rw} (hI : Iv r) {d i : Int} (hd : 0 ≤ d ∧ d < 4) (hi : i ≤ 4) : -1 ≤ ponI r d i ∧ ponI r d i < 40 := by
  have : ∀ n : Nat, (n : Int) ≤ 4 → -1 ≤ ponN r d n ∧ ponN r d n < 40 := by
    intro n
    induction n with
    | zero => exact fun _ => ⟨Int.le_refl _, by show (-1 : Int) < 40; omega⟩
    | succ n ih =>
      intro h
      have h1 := ih (by omega)
      have h2 := pinI_range hI (l := 4 * d + 3 - n) (b := ponN r d n) (i := r (4 * d + 3 - n)) (by omega) h1 (Int.le_refl _)
      exact h2
  by_cases q : i ≤ 0
  · unfold ponI; rw [show i.toNat = 0 by omega]; exact ⟨Int.le_refl _, by show (-1 : Int) < 40; omega⟩
  · exact this i.toNat (by omega)
theorem pon_range {r : Rw} (hI : Iv r) {d : Int} (hd : 0 ≤ d ∧ d < 4) : -1 ≤ pon r d ∧ pon r d < 40 := ponI_range hI (i := 4) hd (by omega)
def wpr (r : Rw) (x k : Int) : Int := if k = 0 then kn x else if k = 1 then en x else if k = 2 then bt x else if k = 3 then (if home r x = -1 then -1 else home r x / 4) else if k = 4 then (if home r x = -1 then -1 else home r x % 4) else if k = 5 then plc r x else r (136 + x)
def lpr (r : Rw) (x k : Int) : Int := if k = 0 then r x else if k = 1 then bo (wa r x) (r x) else if k = 2 then lw r x else if k = 3 then le r x else if k = 4 then lc (r (112 + x) - 1) else if k = 5 then lc (bor r x) else if k = 6 then rh r x else (if mx r x = true then 0 else 1)
def dpr (r : Rw) (d k : Int) : Int := if k = 0 then dw r d else if k = 1 then dwo r d else if k = 2 then prs r d else if k = 3 then r (128 + d) else r (132 + d)
