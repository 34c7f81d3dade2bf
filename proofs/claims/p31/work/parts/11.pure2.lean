/-! the state as one row of numbers, and what is read off it -/
abbrev Rw : Type := Int → Int
def wa (r : Rw) (l p : Int) : Int := r (16 + 6 * l + p)
def smN (f : Int → Int) : Nat → Int
  | 0 => 0
  | n + 1 => smN f n + f n
def sm (f : Int → Int) (n : Int) : Int := smN f n.toNat
theorem sm_0 (f : Int → Int) : sm f 0 = 0 := rfl
theorem sm_s {f : Int → Int} {n : Int} (h : 0 ≤ n) : sm f (n + 1) = sm f n + f n := by
  unfold sm
  rw [show (n + 1).toNat = n.toNat + 1 by omega]
  show smN f n.toNat + f (n.toNat : Int) = _
  rw [Int.toNat_of_nonneg h]
theorem smN_congr {f g : Int → Int} : ∀ n : Nat, (∀ i : Int, 0 ≤ i → i < n → f i = g i) → smN f n = smN g n
  | 0, _ => rfl
  | n + 1, h => by
    show smN f n + f n = smN g n + g n
    rw [smN_congr n (fun i h0 h1 => h i h0 (by omega)), h n (by omega) (by omega)]
theorem sm_congr {f g : Int → Int} {n : Int} (h : ∀ i : Int, 0 ≤ i → i < n → f i = g i) : sm f n = sm g n := smN_congr n.toNat (fun i h0 h1 => h i h0 (by omega))
theorem smN_nn {f : Int → Int} : ∀ n : Nat, (∀ i : Int, 0 ≤ i → i < n → 0 ≤ f i) → 0 ≤ smN f n
  | 0, _ => Int.le_refl _
  | n + 1, h => by
    have h1 := smN_nn n (fun i h0 h1 => h i h0 (by omega))
    have h2 := h n (by omega) (by omega)
    show 0 ≤ smN f n + f n
    omega
theorem sm_nn {f : Int → Int} {n : Int} (h : ∀ i : Int, 0 ≤ i → i < n → 0 ≤ f i) : 0 ≤ sm f n := smN_nn n.toNat (fun i h0 h1 => h i h0 (by omega))
theorem smN_le {f : Int → Int} {c : Int} : ∀ n : Nat, (∀ i : Int, 0 ≤ i → i < n → f i ≤ c) → smN f n ≤ c * n
  | 0, _ => by simp [smN]
  | n + 1, h => by
    have h1 := smN_le n (fun i h0 h1 => h i h0 (by omega))
    have h2 := h n (by omega) (by omega)
    show smN f n + f n ≤ c * ((n + 1 : Nat) : Int)
    rw [show ((n + 1 : Nat) : Int) = (n : Int) + 1 by omega, Int.mul_add, Int.mul_one]
    omega
theorem sm_le {f : Int → Int} {c n : Int} (hn : 0 ≤ n) (h : ∀ i : Int, 0 ≤ i → i < n → f i ≤ c) : sm f n ≤ c * n := by
  have := smN_le n.toNat (c := c) (f := f) (fun i h0 h1 => h i h0 (by omega))
  rw [Int.toNat_of_nonneg hn] at this
  exact this
theorem sm_4 (f : Int → Int) : sm f 4 = f 0 + f 1 + f 2 + f 3 := by
  show 0 + f 0 + f 1 + f 2 + f 3 = _
  rw [Int.zero_add]
/-- one place of a sum is another number -/
theorem smN_upd {f g : Int → Int} {k : Int} : ∀ n : Nat, (∀ i : Int, 0 ≤ i → i < n → i ≠ k → g i = f i) → 0 ≤ k → smN g n = smN f n + (if k < n then g k - f k else 0)
  | 0, _, h0 => by rw [if_neg (by omega)]; rfl
  | n + 1, h, h0 => by
    have ih := smN_upd n (fun i a b c => h i a (by omega) c) h0
    show smN g n + g n = smN f n + f n + _
    rw [ih]
    by_cases e : k = n
    · subst e
      rw [if_neg (by omega), if_pos (by omega)]; omega
    · rw [h n (by omega) (by omega) (Ne.symm e)]
      by_cases e2 : k < n
      · rw [if_pos e2, if_pos (by omega)]; omega
      · rw [if_neg e2, if_neg (by omega)]; omega
theorem sm_upd {f g : Int → Int} {k n : Int} (h : ∀ i : Int, 0 ≤ i → i < n → i ≠ k → g i = f i) (h0 : 0 ≤ k) (h1 : k < n) : sm g n = sm f n + (g k - f k) := by
  have := smN_upd n.toNat (f := f) (g := g) (k := k) (fun i a b c => h i a (by omega) c) h0
  rw [if_pos (by omega)] at this
  exact this
def anN (g : Int → Bool) : Nat → Bool
  | 0 => false
  | n + 1 => anN g n || g n
def an (g : Int → Bool) (n : Int) : Bool := anN g n.toNat
theorem an_0 (g : Int → Bool) : an g 0 = false := rfl
theorem an_s {g : Int → Bool} {n : Int} (h : 0 ≤ n) : an g (n + 1) = (an g n || g n) := by
  unfold an
  rw [show (n + 1).toNat = n.toNat + 1 by omega]
  show (anN g n.toNat || g (n.toNat : Int)) = _
  rw [Int.toNat_of_nonneg h]
theorem anN_iff {g : Int → Bool} : ∀ n : Nat, anN g n = true ↔ ∃ i : Int, 0 ≤ i ∧ i < n ∧ g i = true
  | 0 => by
    constructor
    · intro h; cases h
    · intro ⟨i, h0, h1, _⟩; omega
  | n + 1 => by
    show (anN g n || g n) = true ↔ _
    rw [Bool.or_eq_true, anN_iff n]
    constructor
    · rintro (⟨i, h0, h1, h2⟩ | h)
      · exact ⟨i, h0, by omega, h2⟩
      · exact ⟨n, by omega, by omega, h⟩
    · rintro ⟨i, h0, h1, h2⟩
      by_cases e : i = n
      · right; rw [← e]; exact h2
      · left; exact ⟨i, h0, by omega, h2⟩
theorem an_iff {g : Int → Bool} {n : Int} : an g n = true ↔ ∃ i : Int, 0 ≤ i ∧ i < n ∧ g i = true := by
  unfold an
  rw [anN_iff]
  constructor
  · rintro ⟨i, h0, h1, h2⟩; exact ⟨i, h0, by omega, h2⟩
  · rintro ⟨i, h0, h1, h2⟩; exact ⟨i, h0, by omega, h2⟩
theorem an_f {g : Int → Bool} {n : Int} : an g n = false ↔ ∀ i : Int, 0 ≤ i → i < n → g i = false := by
  constructor
  · intro h i h0 h1
    cases e : g i with
    | false => rfl
    | true => rw [an_iff.mpr ⟨i, h0, h1, e⟩] at h; cases h
  · intro h
    cases e : an g n with
    | false => rfl
    | true =>
      obtain ⟨i, h0, h1, h2⟩ := an_iff.mp e
      rw [h i h0 h1] at h2; cases h2
theorem an_congr {f g : Int → Bool} {n : Int} (h : ∀ i : Int, 0 ≤ i → i < n → f i = g i) : an f n = an g n := by
  cases e : an g n with
  | false => exact an_f.mpr (fun i h0 h1 => by rw [h i h0 h1]; exact an_f.mp e i h0 h1)
  | true =>
    obtain ⟨i, h0, h1, h2⟩ := an_iff.mp e
    exact an_iff.mpr ⟨i, h0, h1, by rw [h i h0 h1]; exact h2⟩
/-- the first place below n with g; -1 without one -/
def fsN (g : Int → Bool) : Nat → Int
  | 0 => -1
  | n + 1 => if fsN g n = -1 then (if g n = true then n else -1) else fsN g n
def fs (g : Int → Bool) (n : Int) : Int := fsN g n.toNat
theorem fsN_spec {g : Int → Bool} : ∀ n : Nat, (fsN g n = -1 ∧ ∀ i : Int, 0 ≤ i → i < n → g i = false) ∨ (0 ≤ fsN g n ∧ fsN g n < n ∧ g (fsN g n) = true ∧ ∀ i : Int, 0 ≤ i → i < fsN g n → g i = false)
  | 0 => Or.inl ⟨rfl, fun i h0 h1 => by omega⟩
  | n + 1 => by
    rcases fsN_spec (g := g) n with ⟨h1, h2⟩ | ⟨h1, h2, h3, h4⟩
    · cases e : g n with
      | true =>
        right
        have : fsN g (n + 1) = n := by simp [fsN, h1, e]
        rw [this]
        exact ⟨by omega, by omega, e, fun i h0 h9 => h2 i h0 (by omega)⟩
      | false =>
        left
        refine ⟨by simp [fsN, h1, e], fun i h0 h9 => ?_⟩
        by_cases e2 : i = n
        · rw [e2]; exact e
        · exact h2 i h0 (by omega)
    · right
      have : fsN g (n + 1) = fsN g n := by
        show (if fsN g n = -1 then _ else fsN g n) = _
        rw [if_neg (by omega)]
      rw [this]
      exact ⟨h1, by omega, h3, h4⟩
theorem fs_spec (g : Int → Bool) {n : Int} (hn : 0 ≤ n) : (fs g n = -1 ∧ ∀ i : Int, 0 ≤ i → i < n → g i = false) ∨ (0 ≤ fs g n ∧ fs g n < n ∧ g (fs g n) = true ∧ ∀ i : Int, 0 ≤ i → i < fs g n → g i = false) := by
  have := fsN_spec (g := g) n.toNat
  rw [show ((n.toNat : Nat) : Int) = n by omega] at this
  exact this
theorem fs_is {g : Int → Bool} {n k : Int} (h0 : 0 ≤ k) (h1 : k < n) (h2 : g k = true) (h3 : ∀ i : Int, 0 ≤ i → i < k → g i = false) : fs g n = k := by
  rcases fs_spec g (n := n) (by omega) with ⟨a, b⟩ | ⟨a, b, c, d⟩
  · rw [b k h0 h1] at h2; cases h2
  · rcases Int.lt_trichotomy (fs g n) k with q | q | q
    · rw [h3 _ a q] at c; cases c
    · exact q
    · rw [d k h0 q] at h2; cases h2
theorem fs_no {g : Int → Bool} {n : Int} (hn : 0 ≤ n) (h : ∀ i : Int, 0 ≤ i → i < n → g i = false) : fs g n = -1 := by
  rcases fs_spec g hn with ⟨a, -⟩ | ⟨a, b, c, -⟩
  · exact a
  · rw [h _ a b] at c; cases c
theorem fs_range (g : Int → Bool) {n : Int} (hn : 0 ≤ n) : -1 ≤ fs g n ∧ fs g n < n := by
  rcases fs_spec g hn with ⟨a, -⟩ | ⟨a, b, -⟩ <;> omega
theorem fs_congr {f g : Int → Bool} {n : Int} (hn : 0 ≤ n) (h : ∀ i : Int, 0 ≤ i → i < n → f i = g i) : fs f n = fs g n := by
  rcases fs_spec g hn with ⟨a, b⟩ | ⟨a, b, c, d⟩
  · rw [a]; exact fs_no hn (fun i h0 h1 => by rw [h i h0 h1]; exact b i h0 h1)
  · exact fs_is a b (by rw [h _ a b]; exact c) (fun i h0 h1 => by rw [h i h0 (by omega)]; exact d i h0 h1)
/-! lines, words, poems -/
def pl (r : Rw) (l x : Int) : Int := fs (fun p => decide (wa r l p = x)) (r l)
def home (r : Rw) (x : Int) : Int := fs (fun l => decide (pl r l x ≠ -1)) 16
def plc (r : Rw) (x : Int) : Int := if home r x = -1 then -1 else pl r (home r x) x
def W0 (r : Rw) (l p : Int) : Int := if 0 ≤ p ∧ p < r l then wa r l p else -1
def clb (x y : Int) : Bool := decide (cls x y)
def bo (f : Int → Int) (n : Int) : Int := sm (fun p => bt (f p)) n
def hk (f : Int → Int) (k n : Int) : Bool := an (fun p => decide (kn (f p) = k)) n
def LW (f : Int → Int) (n : Int) : Int := bo f n + (if hk f 0 n = true ∧ hk f 1 n = true then 5 else 0) + (if bo f n = 8 then 3 else 0)
def ww (r : Rw) (x l p k : Int) : Int := if k < p then wa r l k else if k = p then x else wa r l (k - 1)
def rea (r : Rw) (x l p : Int) : Int :=
  if r l = 6 then 1 else if bo (wa r l) (r l) + bt x > 12 then 2 else if an (fun k => clb (ww r x l p k) (ww r x l p (k + 1))) (r l) = true then 3 else if r 176 = 1 ∧ kn x = 3 ∧ (p = 0 ∨ p = r l) then 4 else 0
def mx (r : Rw) (l : Int) : Bool := an (fun k => clb (wa r l k) (wa r l (k + 1))) (r l - 1)
def la (r : Rw) (l : Int) : Int := if r l = 0 then -1 else wa r l (r l - 1)
def le (r : Rw) (l : Int) : Int := if r l = 0 then -1 else en (la r (if 0 < r (112 + l) then r (112 + l) - 1 else l))
def eqv (a b : Int) : Int := if a ≠ -1 ∧ a = b then 1 else 0
def rhE (r : Rw) (l e : Int) : Int := sm (fun i => if 4 * (l / 4) + i ≠ l then eqv e (le r (4 * (l / 4) + i)) else 0) 4
def rh (r : Rw) (l : Int) : Int := rhE r l (le r l)
def prs (r : Rw) (d : Int) : Int := eqv (le r (4 * d + 1)) (le r (4 * d)) + eqv (le r (4 * d + 2)) (le r (4 * d)) + eqv (le r (4 * d + 2)) (le r (4 * d + 1)) + eqv (le r (4 * d + 3)) (le r (4 * d)) + eqv (le r (4 * d + 3)) (le r (4 * d + 1)) + eqv (le r (4 * d + 3)) (le r (4 * d + 2))
def lw (r : Rw) (l : Int) : Int := LW (wa r l) (r l)
def dw (r : Rw) (d : Int) : Int := 4 * prs r d + sm (fun i => lw r (4 * d + i)) 4
def dwo (r : Rw) (d : Int) : Int := sm (fun i => r (4 * d + i)) 4
def bor (r : Rw) (l : Int) : Int := fs (fun o => decide (r (112 + o) = l + 1)) 16
def tgN (r : Rw) : Nat → Int
  | 0 => -1
  | n + 1 => if 0 < dwo r n ∧ r (128 + n) = 0 ∧ (tgN r n = -1 ∨ dw r (tgN r n) < dw r n) then n else tgN r n
def tg (r : Rw) : Int := if tgN r 4 ≠ -1 ∧ r 177 ≤ dw r (tgN r 4) then tgN r 4 else -1
def pinN (r : Rw) (l b : Int) : Nat → Int
  | 0 => b
  | n + 1 => if pinN r l b n = -1 ∨ bt (pinN r l b n) < bt (wa r l n) then wa r l n else pinN r l b n
def ponN (r : Rw) (d : Int) : Nat → Int
  | 0 => -1
  | k + 1 => pinN r (4 * d + 3 - k) (ponN r d k) (r (4 * d + 3 - k)).toNat
def pon (r : Rw) (d : Int) : Int := ponN r d 4
def py (r : Rw) : Int := if tg r = -1 then -1 else pon r (tg r)
def bg (r : Rw) : Int := 40 - sm (fun l => r l) 16
def cnt (r : Rw) : Int := sm (fun x => if home r x = -1 then 1 else 0) 40
def ins (r : Rw) (x l p : Int) : Rw := fun j =>
  if j = l then r l + 1 else if 16 + 6 * l + p < j ∧ j ≤ 16 + 6 * l + r l then r (j - 1) else if j = 16 + 6 * l + p then x else if j = 112 + l then 0
  else if 112 ≤ j ∧ j < 128 ∧ r j = l + 1 ∧ p = r l then 0 else r j
def rem (r : Rw) (l p : Int) : Rw := fun j =>
  if j = l then r l - 1 else if 16 + 6 * l + p ≤ j ∧ j < 16 + 6 * l + (r l - 1) then r (j + 1) else if j = 16 + 6 * l + (r l - 1) then 0 else if j = 112 + l then 0
  else if 112 ≤ j ∧ j < 128 ∧ r j = l + 1 ∧ p = r l - 1 then 0 else r j
/-- what holds of every row -/
def Iv (r : Rw) : Prop :=
  (∀ l, 0 ≤ l → l < 16 → 0 ≤ r l ∧ r l ≤ 6) ∧
  (∀ l p, 0 ≤ l → l < 16 → 0 ≤ p → p < r l → 0 ≤ wa r l p ∧ wa r l p < 40) ∧
  (∀ l p l' p', 0 ≤ l → l < 16 → 0 ≤ p → p < r l → 0 ≤ l' → l' < 16 → 0 ≤ p' → p' < r l' → wa r l p = wa r l' p' → l = l' ∧ p = p') ∧
  (∀ l p, 0 ≤ l → l < 16 → r l ≤ p → p < 6 → wa r l p = 0) ∧
  (∀ l, 0 ≤ l → l < 16 → 0 ≤ r (112 + l) ∧ r (112 + l) ≤ 16) ∧
  (∀ l, 0 ≤ l → l < 16 → 0 < r (112 + l) → 0 < r l ∧ 0 < r (r (112 + l) - 1) ∧ (r (112 + l) - 1) / 4 ≠ l / 4 ∧ r (112 + (r (112 + l) - 1)) = 0) ∧
  (∀ l l', 0 ≤ l → l < 16 → 0 ≤ l' → l' < 16 → r (112 + l) = r (112 + l') → 0 < r (112 + l) → l = l') ∧
  (∀ d, 0 ≤ d → d < 4 → 0 ≤ r (128 + d) ∧ r (128 + d) ≤ 9) ∧
  (0 ≤ r 176 ∧ r 176 ≤ 1 ∧ 0 ≤ r 177 ∧ r 177 ≤ 200 ∧ 0 ≤ r 178 ∧ r 178 ≤ 9) ∧
  cnt r = bg r ∧ (∀ j, ¬ (0 ≤ j ∧ j < 182) → r j = 0)
