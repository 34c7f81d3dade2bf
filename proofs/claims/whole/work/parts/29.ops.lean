/-! what the calls do to the whole state -/
theorem stl_iv {r : Rw} {x : Int} (hI : Iv r) (hx0 : 0 ≤ x ∧ x < 40) (hx : home r x ≠ -1) : Iv (stl r x) := by
  obtain ⟨y0, y1, q0, q1, hw⟩ := home_at hI hx
  have hR : ∀ j, ¬ (0 ≤ j ∧ j < 128) → rem r (home r x) (plc r x) j = r j := fun j hj => rem_hi hI ⟨y0, y1⟩ ⟨q0, q1⟩ hj
  have hse := hI.se
  have e0 : ∀ j, (j < 128 ∨ 176 ≤ j) → stl r x j = rem r (home r x) (plc r x) j := by
    intro j a; unfold stl
    rw [if_neg (by omega), if_neg (by omega), if_neg (by omega)]
  refine (iv_hi (rem_iv hI ⟨y0, y1⟩ ⟨q0, q1⟩) (fun j _ c => e0 j (by omega)) (fun d a c => ?_) ?_ (fun j hj => ?_)).1
  · have hw := hI.wt a c
    unfold stl
    rw [if_neg (by omega), if_neg (by omega), hR _ (by omega)]
    split <;> omega
  · rw [e0 _ (by omega), e0 _ (by omega), e0 _ (by omega), hR _ (by omega), hR _ (by omega), hR _ (by omega)]; exact hse
  · rw [e0 _ (by omega), hR _ (by omega)]; exact hI.zr hj
theorem ng_iv2 {r : Rw} (hI : Iv r) : Iv (ng r) := by
  obtain ⟨h1, h2⟩ := ng_iv hI
  unfold ng
  by_cases e : tg r = -1
  · rw [if_pos e]; exact h1
  · rw [if_neg e]
    obtain ⟨a, b, c, d, f, g, q⟩ := h2 e
    rw [q] at c d f
    exact stl_iv h1 ⟨c, d⟩ f
theorem ngs_iv {r : Rw} (hI : Iv r) : ∀ n : Nat, Iv (ngs r n) ∧ ngs r n 179 = r 179 + n
  | 0 => ⟨hI, by show r 179 = r 179 + ((0 : Nat) : Int); omega⟩
  | n + 1 => by
    obtain ⟨h1, h2⟩ := ngs_iv hI n
    refine ⟨ng_iv2 h1, ?_⟩
    show ng (ngs r n) 179 = _
    rw [ng_179 h1, h2]; omega
theorem nb_ngs {r : Rw} {m : Int} (hI : Iv r) (h : nb r) (h0 : 0 ≤ m) (h1 : r 179 + m ≤ 9999) : nb (ngs r m.toNat) := by
  have e := (ngs_iv hI m.toNat).2
  have h2 := h.1
  unfold nb
  rw [e]; omega
theorem rea_0 {r : Rw} {x l p : Int} (h : rea r x l p = 0) : r l ≠ 6 := by
  intro e
  unfold rea at h
  rw [if_pos e] at h; omega
theorem rea_lt {r : Rw} {x l p : Int} (hI : Iv r) (hl : 0 ≤ l ∧ l < 16) (h : rea r x l p = 0) : r l < 6 := by
  have := rea_0 h
  have := hI.sz hl.1 hl.2
  omega
/-! texts -/
abbrev PB : Type := Int × (Int → Int)
def em (P : PB) (c : Int) : PB := (P.1 + 1, fun i => if i = P.1 then c else P.2 i)
def emN (P : PB) (x : Int) : PB := em (if 10 ≤ x then em P (48 + x / 10) else P) (48 + x % 10)
def emW (P : PB) (k x : Int) : PB := emN (if 0 < k then em P 44 else if 0 < P.1 then em P 47 else P) x
def emL (f : Int → Int) (P : PB) : Nat → PB
  | 0 => P
  | k + 1 => emW (emL f P k) k (f k)
def emD (r : Rw) (d : Int) : Nat → PB
  | 0 => (0, fun _ => 0)
  | i + 1 => emL (wa r (4 * d + i)) (emD r d i) (r (4 * d + i)).toNat
def txD (r : Rw) (d : Int) : PB := emD r d 4
theorem em_1 (P : PB) (c : Int) : (em P c).1 = P.1 + 1 := rfl
theorem emN_1 (P : PB) (x : Int) : (emN P x).1 = P.1 + (if x < 10 then 1 else 2) := by
  unfold emN
  rw [em_1]
  by_cases h : 10 ≤ x
  · rw [if_pos h, em_1, if_neg (by omega)]; omega
  · rw [if_neg h, if_pos (by omega)]
theorem emW_1 {P : PB} {k x : Int} (h : 0 < k → 0 < P.1) (h2 : 0 ≤ P.1) : (emW P k x).1 = P.1 + (if P.1 = 0 then 0 else 1) + (if x < 10 then 1 else 2) := by
  unfold emW
  rw [emN_1]
  by_cases a : 0 < k
  · rw [if_pos a, em_1, if_neg (show ¬ P.1 = 0 by have := h a; omega)]
  · rw [if_neg a]
    by_cases b : 0 < P.1
    · rw [if_pos b, em_1, if_neg (show ¬ P.1 = 0 by omega)]
    · rw [if_neg b, if_pos (show P.1 = 0 by omega)]; omega
theorem emL_1 {f : Int → Int} {P : PB} (h : 0 ≤ P.1) : ∀ k : Nat, P.1 ≤ (emL f P k).1 ∧ (emL f P k).1 ≤ P.1 + 3 * k ∧ (0 < k → 0 < (emL f P k).1)
  | 0 => ⟨Int.le_refl _, by show P.1 ≤ _; omega, fun q => by omega⟩
  | k + 1 => by
    obtain ⟨h1, h2, h3⟩ := emL_1 (f := f) h k
    have e : (emL f P (k + 1)).1 = _ := emW_1 (P := emL f P k) (k := (k : Int)) (x := f k) (fun q => h3 (by omega)) (by omega)
    rw [e]
    refine ⟨?_, ?_, fun _ => ?_⟩ <;> split <;> split <;> omega
theorem emL_s {f : Int → Int} {P : PB} (h : 0 ≤ P.1) (k : Nat) : (emL f P (k + 1)).1 = (emL f P k).1 + (if (emL f P k).1 = 0 then 0 else 1) + (if f k < 10 then 1 else 2) := by
  have h1 := emL_1 (f := f) h k
  exact emW_1 (P := emL f P k) (k := (k : Int)) (x := f k) (fun q => h1.2.2 (by omega)) (by omega)
theorem emL_mono {f : Int → Int} {P : PB} (h : 0 ≤ P.1) {j k : Nat} (hjk : j ≤ k) : (emL f P j).1 ≤ (emL f P k).1 := by
  induction k with
  | zero => have : j = 0 := by omega
            subst this; exact Int.le_refl _
  | succ k ih =>
    by_cases e : j = k + 1
    · subst e; exact Int.le_refl _
    · have := ih (by omega)
      have e2 := emL_s (f := f) h k
      rw [e2]
      split <;> split <;> omega
theorem emD_1 (r : Rw) (d : Int) : ∀ k : Nat, 0 ≤ (emD r d k).1
  | 0 => Int.le_refl _
  | k + 1 => by
    have := (emL_1 (f := wa r (4 * d + k)) (emD_1 r d k) (r (4 * d + k)).toNat).1
    have h := emD_1 r d k
    show 0 ≤ (emL _ _ _).1
    omega
theorem emD_mono {r : Rw} {d : Int} {j k : Nat} (hjk : j ≤ k) : (emD r d j).1 ≤ (emD r d k).1 := by
  induction k with
  | zero => have : j = 0 := by omega
            subst this; exact Int.le_refl _
  | succ k ih =>
    by_cases e : j = k + 1
    · subst e; exact Int.le_refl _
    · have := ih (by omega)
      have h := (emL_1 (f := wa r (4 * d + k)) (emD_1 r d k) (r (4 * d + k)).toNat).1
      show _ ≤ (emL _ _ _).1
      omega
/-- the text's characters are those that a buffer takes -/
def tok (P : PB) : Prop := 0 ≤ P.1 ∧ ∀ i, 0 ≤ i → i < P.1 → 33 ≤ P.2 i ∧ P.2 i ≤ 126
theorem tok_em {P : PB} {c : Int} (h : tok P) (hc : 33 ≤ c ∧ c ≤ 126) : tok (em P c) := by
  refine ⟨by rw [em_1]; have := h.1; omega, fun i a b => ?_⟩
  rw [em_1] at b
  show 33 ≤ (if i = P.1 then c else P.2 i) ∧ (if i = P.1 then c else P.2 i) ≤ 126
  by_cases e : i = P.1
  · rw [if_pos e]; exact hc
  · rw [if_neg e]; exact h.2 i a (by omega)
theorem tok_emN {P : PB} {x : Int} (h : tok P) (hx : 0 ≤ x ∧ x < 40) : tok (emN P x) := by
  unfold emN
  refine tok_em ?_ (by omega)
  by_cases e : 10 ≤ x
  · rw [if_pos e]; exact tok_em h (by omega)
  · rw [if_neg e]; exact h
theorem tok_emW {P : PB} {k x : Int} (h : tok P) (hx : 0 ≤ x ∧ x < 40) : tok (emW P k x) := by
  unfold emW
  refine tok_emN ?_ hx
  by_cases e : 0 < k
  · rw [if_pos e]; exact tok_em h (by omega)
  · rw [if_neg e]
    by_cases e2 : 0 < P.1
    · rw [if_pos e2]; exact tok_em h (by omega)
    · rw [if_neg e2]; exact h
theorem tok_emL {f : Int → Int} {P : PB} (h : tok P) : ∀ n : Nat, (∀ i : Int, 0 ≤ i → i < n → 0 ≤ f i ∧ f i < 40) → tok (emL f P n)
  | 0, _ => h
  | n + 1, hf => tok_emW (tok_emL h n (fun i a b => hf i a (by omega))) (hf n (by omega) (by omega))
theorem tok_emD {r : Rw} (hI : Iv r) {d : Int} (hd : 0 ≤ d ∧ d < 4) : ∀ n : Nat, n ≤ 4 → tok (emD r d n)
  | 0, _ => ⟨Int.le_refl _, fun i a b => by have : i < 0 := b; omega⟩
  | n + 1, hn => by
    have hs := hI.sz (l := 4 * d + n) (by omega) (by omega)
    exact tok_emL (tok_emD hI hd n (by omega)) _ (fun i a b => hI.wd (by omega) (by omega) a (by omega))
/-! poems loaded -/
def feN (B : Int → Int) (n : Int) : Int := fs (fun i => (rdp B (i.toNat + 1)).isNone) n
def fe (B : Int → Int) (n : Int) : Int := if feN B n = -1 then n else feN B n
def rst (B : Int → Int) (n : Int) : RS := (rdp B n.toNat).getD rs0
theorem rdp_none {B : Int → Int} {i : Nat} (h : rdp B i = none) : ∀ k : Nat, rdp B (i + k) = none
  | 0 => h
  | k + 1 => by
    show (rdp B (i + k)).bind _ = none
    rw [rdp_none h k]; rfl
theorem rdp_some {B : Int → Int} {i j : Nat} {s : RS} (h : rdp B i = some s) (hj : j ≤ i) : ∃ s', rdp B j = some s' := by
  cases e : rdp B j with
  | some s' => exact ⟨s', rfl⟩
  | none =>
    have := rdp_none e (i - j)
    rw [show j + (i - j) = i by omega, h] at this; cases this
theorem fe_is {B : Int → Int} {n z : Int} {s : RS} (h0 : 0 ≤ z) (h1 : z ≤ n) (h : rdp B z.toNat = some s) (h2 : z < n → stp s (B z) = none) : z = fe B n ∧ (z = n → rst B n = s) := by
  refine ⟨?_, fun e => by subst e; unfold rst; rw [h]; rfl⟩
  have hlo : ∀ i, 0 ≤ i → i < z → (rdp B (i.toNat + 1)).isNone = false := by
    intro i a b
    obtain ⟨s', e⟩ := rdp_some h (j := i.toNat + 1) (by omega)
    rw [e]; rfl
  unfold fe feN
  by_cases q : z < n
  · have e : fs (fun i => (rdp B (i.toNat + 1)).isNone) n = z := fs_is h0 q (by
      show ((rdp B z.toNat).bind _).isNone = true
      rw [h]
      show (stp s (B (z.toNat : Int))).isNone = true
      rw [Int.toNat_of_nonneg h0, h2 q]; rfl) hlo
    rw [e, if_neg (by omega)]
  · have e : fs (fun i => (rdp B (i.toNat + 1)).isNone) n = -1 := fs_no (by omega) (fun i a b => hlo i a (by omega))
    rw [e, if_pos rfl]; omega
def ldc (s : RS) (d : Int) (q : Rw × Int) (k : Int) : Prop := q.2 = k ∧ home q.1 (s.W k) = -1 ∧ rea q.1 (s.W k) (4 * d + s.L k) (q.1 (4 * d + s.L k)) = 0
def ldS (s : RS) (d : Int) (r : Rw) : Nat → Rw × Int
  | 0 => (r, 0)
  | k + 1 => if (ldS s d r k).2 = k ∧ home (ldS s d r k).1 (s.W k) = -1 ∧ rea (ldS s d r k).1 (s.W k) (4 * d + s.L k) ((ldS s d r k).1 (4 * d + s.L k)) = 0 then (ins (ldS s d r k).1 (s.W k) (4 * d + s.L k) ((ldS s d r k).1 (4 * d + s.L k)), (ldS s d r k).2 + 1) else ldS s d r k
theorem ldS_go {s : RS} {d k : Int} {r q : Rw} (h0 : 0 ≤ k) (h : ldS s d r k.toNat = (q, k)) (h1 : home q (s.W k) = -1) (h2 : rea q (s.W k) (4 * d + s.L k) (q (4 * d + s.L k)) = 0) : ldS s d r (k + 1).toNat = (ins q (s.W k) (4 * d + s.L k) (q (4 * d + s.L k)), k + 1) := by
  rw [show (k + 1).toNat = k.toNat + 1 by omega]
  unfold ldS
  rw [h, Int.toNat_of_nonneg h0, if_pos ⟨rfl, h1, h2⟩]
theorem ldS_stop {s : RS} {d k : Int} {r q : Rw} (h0 : 0 ≤ k) (h : ldS s d r k.toNat = (q, k)) (h1 : ¬ (home q (s.W k) = -1 ∧ rea q (s.W k) (4 * d + s.L k) (q (4 * d + s.L k)) = 0)) : ∀ n : Nat, ldS s d r (k.toNat + n) = (q, k)
  | 0 => h
  | n + 1 => by
    show ldS s d r ((k.toNat + n) + 1) = _
    unfold ldS
    rw [ldS_stop h0 h h1 n]
    refine if_neg (fun g => ?_)
    have e : k = ((k.toNat + n : Nat) : Int) := g.1
    have g2 := g.2
    rw [← e] at g2
    exact h1 g2
def ldA (A : AS) (d : Int) : Rw × Int := ldS (clo (rst A.B A.len)) d (clr A.r d) (clo (rst A.B A.len)).f.toNat
def cntv (A : AS) (k : Int) : Int := if k = 0 ∨ k = 1 then bg A.r else if k = 2 then A.r 179 else if k = 3 then rbs A.r else if k = 4 then A.r 180 else if k = 5 then A.r 181 else if k = 6 then lnt A.r else if k = 7 then aw A.r else A.n
def putT (A : AS) (x d y p : Int) : Int := if ¬ (0 ≤ x ∧ x < 40 ∧ 0 ≤ d ∧ d < 4 ∧ 0 ≤ y ∧ y < 4 ∧ 0 ≤ p ∧ p ≤ A.r (4 * d + y)) then 1 else if home A.r x ≠ -1 then 2 else 0
def putZ (A : AS) (x d y p : Int) : Int := rea A.r x (4 * d + y) p
def putN (A : AS) (x d y p : Int) : AS := if rea A.r x (4 * d + y) p = 0 then A.sav.wr (pt (ins A.r x (4 * d + y) p)) else A.sav.wr (rf A.r)
abbrev putX (F : FF) (A : AS) (x d y p : Int) : String → FF → Prop := fun E F' => (E = "java/lang/IndexOutOfBoundsException" ∧ putT A x d y p = 1 ∨ E = "java/lang/IllegalStateException" ∧ putT A x d y p = 2) ∧ CJ F F' A
def takeOffT (A : AS) (x : Int) : Int := if ¬ (0 ≤ x ∧ x < 40) then 1 else if home A.r x = -1 then 2 else 0
def takeOffZ (A : AS) (x : Int) : Int := lc (home A.r x)
def takeOffN (A : AS) (x : Int) : AS := A.sav.wr (rem A.r (home A.r x) (plc A.r x))
abbrev takeOffX (F : FF) (A : AS) (x : Int) : String → FF → Prop := fun E F' => (E = "java/lang/IndexOutOfBoundsException" ∧ takeOffT A x = 1 ∨ E = "java/lang/IllegalStateException" ∧ takeOffT A x = 2) ∧ CJ F F' A
def moveT (A : AS) (x d y : Int) : Int := if ¬ (0 ≤ x ∧ x < 40 ∧ 0 ≤ d ∧ d < 4 ∧ 0 ≤ y ∧ y < 4) then 1 else if home A.r x = -1 ∨ home A.r x = 4 * d + y then 2 else 0
def moveZ (A : AS) (x d y : Int) : Int := rea A.r x (4 * d + y) (A.r (4 * d + y))
def moveN (A : AS) (x d y : Int) : AS := if rea A.r x (4 * d + y) (A.r (4 * d + y)) = 0 then A.sav.wr (pt (ins (rem A.r (home A.r x) (plc A.r x)) x (4 * d + y) (A.r (4 * d + y)))) else A.sav.wr (rf A.r)
abbrev moveX (F : FF) (A : AS) (x d y : Int) : String → FF → Prop := fun E F' => (E = "java/lang/IndexOutOfBoundsException" ∧ moveT A x d y = 1 ∨ E = "java/lang/IllegalStateException" ∧ moveT A x d y = 2) ∧ CJ F F' A
def clearDoorT (A : AS) (d : Int) : Int := if ¬ (0 ≤ d ∧ d < 4) then 1 else 0
def clearDoorZ (A : AS) (d : Int) : Int := dwo A.r d
def clearDoorN (A : AS) (d : Int) : AS := A.sav.wr (clr A.r d)
abbrev clearDoorX (F : FF) (A : AS) (d : Int) : String → FF → Prop := fun E F' => (E = "java/lang/IndexOutOfBoundsException" ∧ clearDoorT A d = 1) ∧ CJ F F' A
def borrowT (A : AS) (d y e g : Int) : Int := if ¬ (0 ≤ d ∧ d < 4 ∧ 0 ≤ y ∧ y < 4 ∧ 0 ≤ e ∧ e < 4 ∧ 0 ≤ g ∧ g < 4) then 1 else if d = e then 2 else if ¬ ((0 < A.r (4 * d + y) ∧ A.r (112 + (4 * d + y)) = 0 ∧ bor A.r (4 * d + y) = -1) ∧ (0 < A.r (4 * e + g) ∧ A.r (112 + (4 * e + g)) = 0 ∧ bor A.r (4 * e + g) = -1)) then 3 else 0
def borrowZ (A : AS) (d y e g : Int) : Int := le (lnd A.r (4 * d + y) (4 * e + g)) (4 * d + y)
def borrowN (A : AS) (d y e g : Int) : AS := A.sav.wr (lnd A.r (4 * d + y) (4 * e + g))
abbrev borrowX (F : FF) (A : AS) (d y e g : Int) : String → FF → Prop := fun E F' => (E = "java/lang/IndexOutOfBoundsException" ∧ borrowT A d y e g = 1 ∨ E = "java/lang/IllegalArgumentException" ∧ borrowT A d y e g = 2 ∨ E = "java/lang/IllegalStateException" ∧ borrowT A d y e g = 3) ∧ CJ F F' A
def bringBackT (A : AS) (d y : Int) : Int := if ¬ (0 ≤ d ∧ d < 4 ∧ 0 ≤ y ∧ y < 4) then 1 else if A.r (112 + (4 * d + y)) = 0 then 2 else 0
def bringBackZ (A : AS) (d y : Int) : Int := le (brb A.r (4 * d + y)) (4 * d + y)
def bringBackN (A : AS) (d y : Int) : AS := A.sav.wr (brb A.r (4 * d + y))
abbrev bringBackX (F : FF) (A : AS) (d y : Int) : String → FF → Prop := fun E F' => (E = "java/lang/IndexOutOfBoundsException" ∧ bringBackT A d y = 1 ∨ E = "java/lang/IllegalStateException" ∧ bringBackT A d y = 2) ∧ CJ F F' A
def sleepT (A : AS) (m : Int) : Int := if ¬ (1 ≤ m ∧ m ≤ 20) then 1 else if 9999 < A.r 179 + m then 2 else 0
def sleepZ (A : AS) (m : Int) : Int := rbs (ngs A.r m.toNat) - rbs A.r
def sleepN (A : AS) (m : Int) : AS := A.sav.wr (ngs A.r m.toNat)
abbrev sleepX (F : FF) (A : AS) (m : Int) : String → FF → Prop := fun E F' => (E = "java/lang/IllegalArgumentException" ∧ sleepT A m = 1 ∨ E = "java/lang/IllegalStateException" ∧ sleepT A m = 2) ∧ CJ F F' A
def setT (A : AS) (k v : Int) : Int := if ¬ (0 ≤ k ∧ k < 3) then 1 else if ¬ (0 ≤ v ∧ v ≤ mostS k) then 2 else 0
def setZ (A : AS) (k v : Int) : Int := A.r (176 + k)
def setN (A : AS) (k v : Int) : AS := A.sav.wr (setr A.r k v)
abbrev setX (F : FF) (A : AS) (k v : Int) : String → FF → Prop := fun E F' => (E = "java/lang/IndexOutOfBoundsException" ∧ setT A k v = 1 ∨ E = "java/lang/IllegalArgumentException" ∧ setT A k v = 2) ∧ CJ F F' A
def appendT (A : AS) (c : Int) : Int := if ¬ (33 ≤ c ∧ c ≤ 126) then 1 else if 60 ≤ A.len then 2 else 0
def appendZ (A : AS) (c : Int) : Int := A.len + 1
def appendN (A : AS) (c : Int) : AS := A.buf (em (A.len, A.B) c)
abbrev appendX (F : FF) (A : AS) (c : Int) : String → FF → Prop := fun E F' => (E = "java/lang/IllegalArgumentException" ∧ appendT A c = 1 ∨ E = "java/lang/IllegalStateException" ∧ appendT A c = 2) ∧ CJ F F' A
def loadT (A : AS) (d : Int) : Int := if ¬ (0 ≤ d ∧ d < 4) then 1 else if ¬ (fe A.B A.len = A.len ∧ fr (rst A.B A.len) (rst A.B A.len).n) then 2 else 0
def loadZ (A : AS) (d : Int) : Int := (ldA A d).2
def loadN (A : AS) (d : Int) : AS := (A.sav.buf (0, A.B)).wr (pts (ldA A d).1 (ldA A d).2)
abbrev loadX (F : FF) (A : AS) (d : Int) : String → FF → Prop := fun E F' => (E = "java/lang/IndexOutOfBoundsException" ∧ loadT A d = 1 ∨ E = "java/lang/IllegalArgumentException" ∧ loadT A d = 2) ∧ CJ F F' A
def writeT (A : AS) (d : Int) : Int := if ¬ (0 ≤ d ∧ d < 4) then 1 else 0
def writeZ (A : AS) (d : Int) : Int := if 60 < (txD A.r d).1 then -1 else (txD A.r d).1
def writeN (A : AS) (d : Int) : AS := if 60 < (txD A.r d).1 then A else A.buf (txD A.r d)
abbrev writeX (F : FF) (A : AS) (d : Int) : String → FF → Prop := fun E F' => (E = "java/lang/IndexOutOfBoundsException" ∧ writeT A d = 1) ∧ CJ F F' A
def keepT (A : AS) (k : Int) : Int := if ¬ (0 ≤ k ∧ k < 2) then 1 else 0
def keepZ (A : AS) (k : Int) : Int := bg A.r
def keepN (A : AS) (k : Int) : AS := A.kee k
abbrev keepX (F : FF) (A : AS) (k : Int) : String → FF → Prop := fun E F' => (E = "java/lang/IllegalArgumentException" ∧ keepT A k = 1) ∧ CJ F F' A
def goBackT (A : AS) (k : Int) : Int := if ¬ (0 ≤ k ∧ k < 2) then 1 else if A.kp k ≠ 1 then 2 else 0
def goBackZ (A : AS) (k : Int) : Int := bg (A.sl k)
def goBackN (A : AS) (k : Int) : AS := A.sav.wr (A.sl k)
abbrev goBackX (F : FF) (A : AS) (k : Int) : String → FF → Prop := fun E F' => (E = "java/lang/IllegalArgumentException" ∧ goBackT A k = 1 ∨ E = "java/lang/IllegalStateException" ∧ goBackT A k = 2) ∧ CJ F F' A
def undoT (A : AS) : Int := if A.n < 1 then 1 else 0
def undoZ (A : AS) : Int := A.n - 1
def undoN (A : AS) : AS := A.und
abbrev undoX (F : FF) (A : AS) : String → FF → Prop := fun E F' => (E = "java/lang/IllegalStateException" ∧ undoT A = 1) ∧ CJ F F' A
def wordOfT (A : AS) (x k : Int) : Int := if ¬ (0 ≤ x ∧ x < 40) then 1 else if ¬ (0 ≤ k ∧ k < 7) then 2 else 0
def wordOfZ (A : AS) (x k : Int) : Int := wpr A.r x k
def wordOfN (A : AS) (x k : Int) : AS := A
abbrev wordOfX (F : FF) (A : AS) (x k : Int) : String → FF → Prop := fun E F' => (E = "java/lang/IndexOutOfBoundsException" ∧ wordOfT A x k = 1 ∨ E = "java/lang/IllegalArgumentException" ∧ wordOfT A x k = 2) ∧ CJ F F' A
def atT (A : AS) (d y p : Int) : Int := if ¬ (0 ≤ d ∧ d < 4 ∧ 0 ≤ y ∧ y < 4 ∧ 0 ≤ p ∧ p < 6) then 1 else 0
def atZ (A : AS) (d y p : Int) : Int := W0 A.r (4 * d + y) p
def atN (A : AS) (d y p : Int) : AS := A
abbrev atX (F : FF) (A : AS) (d y p : Int) : String → FF → Prop := fun E F' => (E = "java/lang/IndexOutOfBoundsException" ∧ atT A d y p = 1) ∧ CJ F F' A
def lineOfT (A : AS) (d y k : Int) : Int := if ¬ (0 ≤ d ∧ d < 4 ∧ 0 ≤ y ∧ y < 4) then 1 else if ¬ (0 ≤ k ∧ k < 8) then 2 else 0
def lineOfZ (A : AS) (d y k : Int) : Int := lpr A.r (4 * d + y) k
def lineOfN (A : AS) (d y k : Int) : AS := A
abbrev lineOfX (F : FF) (A : AS) (d y k : Int) : String → FF → Prop := fun E F' => (E = "java/lang/IndexOutOfBoundsException" ∧ lineOfT A d y k = 1 ∨ E = "java/lang/IllegalArgumentException" ∧ lineOfT A d y k = 2) ∧ CJ F F' A
def doorOfT (A : AS) (d k : Int) : Int := if ¬ (0 ≤ d ∧ d < 4) then 1 else if ¬ (0 ≤ k ∧ k < 5) then 2 else 0
def doorOfZ (A : AS) (d k : Int) : Int := dpr A.r d k
def doorOfN (A : AS) (d k : Int) : AS := A
abbrev doorOfX (F : FF) (A : AS) (d k : Int) : String → FF → Prop := fun E F' => (E = "java/lang/IndexOutOfBoundsException" ∧ doorOfT A d k = 1 ∨ E = "java/lang/IllegalArgumentException" ∧ doorOfT A d k = 2) ∧ CJ F F' A
def countT (A : AS) (k : Int) : Int := if ¬ (0 ≤ k ∧ k < 9) then 1 else 0
def countZ (A : AS) (k : Int) : Int := cntv A k
def countN (A : AS) (k : Int) : AS := A
abbrev countX (F : FF) (A : AS) (k : Int) : String → FF → Prop := fun E F' => (E = "java/lang/IllegalArgumentException" ∧ countT A k = 1) ∧ CJ F F' A
def settingT (A : AS) (k : Int) : Int := if ¬ (0 ≤ k ∧ k < 3) then 1 else 0
def settingZ (A : AS) (k : Int) : Int := A.r (176 + k)
def settingN (A : AS) (k : Int) : AS := A
abbrev settingX (F : FF) (A : AS) (k : Int) : String → FF → Prop := fun E F' => (E = "java/lang/IndexOutOfBoundsException" ∧ settingT A k = 1) ∧ CJ F F' A
def whyNotT (A : AS) (x d y p : Int) : Int := if ¬ (0 ≤ x ∧ x < 40 ∧ 0 ≤ d ∧ d < 4 ∧ 0 ≤ y ∧ y < 4 ∧ 0 ≤ p ∧ p ≤ A.r (4 * d + y)) then 1 else 0
def whyNotZ (A : AS) (x d y p : Int) : Int := if home A.r x = 4 * d + y then -1 else rea A.r x (4 * d + y) p
def whyNotN (A : AS) (x d y p : Int) : AS := A
abbrev whyNotX (F : FF) (A : AS) (x d y p : Int) : String → FF → Prop := fun E F' => (E = "java/lang/IndexOutOfBoundsException" ∧ whyNotT A x d y p = 1) ∧ CJ F F' A
def bestWordT (A : AS) (d y : Int) : Int := if ¬ (0 ≤ d ∧ d < 4 ∧ 0 ≤ y ∧ y < 4) then 1 else 0
def bestWordZ (A : AS) (d y : Int) : Int := bf A.r (4 * d + y)
def bestWordN (A : AS) (d y : Int) : AS := A
abbrev bestWordX (F : FF) (A : AS) (d y : Int) : String → FF → Prop := fun E F' => (E = "java/lang/IndexOutOfBoundsException" ∧ bestWordT A d y = 1) ∧ CJ F F' A
def ifSleptT (A : AS) (m d : Int) : Int := if ¬ (0 ≤ d ∧ d < 4) then 1 else if ¬ (1 ≤ m ∧ m ≤ 20) then 2 else 0
def ifSleptZ (A : AS) (m d : Int) : Int := dw (ngs A.r m.toNat) d
def ifSleptN (A : AS) (m d : Int) : AS := A
abbrev ifSleptX (F : FF) (A : AS) (m d : Int) : String → FF → Prop := fun E F' => (E = "java/lang/IndexOutOfBoundsException" ∧ ifSleptT A m d = 1 ∨ E = "java/lang/IllegalArgumentException" ∧ ifSleptT A m d = 2) ∧ CJ F F' A
