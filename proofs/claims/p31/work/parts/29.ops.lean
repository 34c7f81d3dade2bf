/-! what the calls do to the whole state -/
theorem stl_iv {r : Rw} {x : Int} (hI : Iv r) (hx0 : 0 ≤ x ∧ x < 40) (hx : home r x ≠ -1) : Iv (stl r x) := by
  obtain ⟨y0, y1, q0, q1, hw⟩ := home_at hI hx
  have hR : ∀ j, ¬ (0 ≤ j ∧ j < 128) → rem r (home r x) (plc r x) j = r j := fun j hj => rem_hi hI ⟨y0, y1⟩ ⟨q0, q1⟩ hj
  have hse := hI.se
  have e0 : ∀ j, (j < 128 ∨ 176 ≤ j) → stl r x j = rem r (home r x) (plc r x) j := by
    intro j a; unfold stl
    rw [if_neg (by omega), if_neg (by omega), if_neg (by omega)]
  refine (iv_hi (rem_iv hI ⟨y0, y1⟩ ⟨q0, q1⟩) (fun j _ c => e0 j (by omega)) (fun d a c => ?_) ?_ (fun j hj => ?_)).1
  · have hw := hI.wt a c
    unfold stl
    rw [if_neg (by omega), if_neg (by omega), hR _ (by omega)]
    split <;> omega
  · rw [e0 _ (by omega), e0 _ (by omega), e0 _ (by omega), hR _ (by omega), hR _ (by omega), hR _ (by omega)]; exact hse
  · rw [e0 _ (by omega), hR _ (by omega)]; exact hI.zr hj
theorem ng_iv2 {r : Rw} (hI : Iv r) : Iv (ng r) := by
  obtain ⟨h1, h2⟩ := ng_iv hI
  unfold ng
  by_cases e : tg r = -1
  · rw [if_pos e]; exact h1
  · rw [if_neg e]
    obtain ⟨a, b, c, d, f, g, q⟩ := h2 e
    rw [q] at c d f
    exact stl_iv h1 ⟨c, d⟩ f
theorem ngs_iv {r : Rw} (hI : Iv r) : ∀ n : Nat, Iv (ngs r n) ∧ ngs r n 179 = r 179 + n
  | 0 => ⟨hI, by show r 179 = r 179 + ((0 : Nat) : Int); omega⟩
  | n + 1 => by
    obtain ⟨h1, h2⟩ := ngs_iv hI n
    refine ⟨ng_iv2 h1, ?_⟩
    show ng (ngs r n) 179 = _
    rw [ng_179 h1, h2]; omega
theorem nb_ngs {r : Rw} {m : Int} (hI : Iv r) (h : nb r) (h0 : 0 ≤ m) (h1 : r 179 + m ≤ 9999) : nb (ngs r m.toNat) := by
  have e := (ngs_iv hI m.toNat).2
  have h2 := h.1
  unfold nb
  rw [e]; omega
theorem rea_0 {r : Rw} {x l p : Int} (h : rea r x l p = 0) : r l ≠ 6 := by
  intro e
  unfold rea at h
  rw [if_pos e] at h; omega
theorem rea_lt {r : Rw} {x l p : Int} (hI : Iv r) (hl : 0 ≤ l ∧ l < 16) (h : rea r x l p = 0) : r l < 6 := by
  have := rea_0 h
  have := hI.sz hl.1 hl.2
  omega
def cntv (A : AS) (k : Int) : Int := if k = 0 ∨ k = 1 then bg A.r else if k = 2 then A.r 179 else if k = 3 then rbs A.r else if k = 4 then A.r 180 else if k = 5 then A.r 181 else if k = 6 then lnt A.r else if k = 7 then aw A.r else A.n
def putT (A : AS) (x d y p : Int) : Int := if ¬ (0 ≤ x ∧ x < 40 ∧ 0 ≤ d ∧ d < 4 ∧ 0 ≤ y ∧ y < 4 ∧ 0 ≤ p ∧ p ≤ A.r (4 * d + y)) then 1 else if home A.r x ≠ -1 then 2 else 0
def putZ (A : AS) (x d y p : Int) : Int := rea A.r x (4 * d + y) p
def putN (A : AS) (x d y p : Int) : AS := if rea A.r x (4 * d + y) p = 0 then A.sav.wr (pt (ins A.r x (4 * d + y) p)) else A.sav.wr (rf A.r)
def takeOffT (A : AS) (x : Int) : Int := if ¬ (0 ≤ x ∧ x < 40) then 1 else if home A.r x = -1 then 2 else 0
def takeOffZ (A : AS) (x : Int) : Int := lc (home A.r x)
def takeOffN (A : AS) (x : Int) : AS := A.sav.wr (rem A.r (home A.r x) (plc A.r x))
def moveT (A : AS) (x d y : Int) : Int := if ¬ (0 ≤ x ∧ x < 40 ∧ 0 ≤ d ∧ d < 4 ∧ 0 ≤ y ∧ y < 4) then 1 else if home A.r x = -1 ∨ home A.r x = 4 * d + y then 2 else 0
def moveZ (A : AS) (x d y : Int) : Int := rea A.r x (4 * d + y) (A.r (4 * d + y))
def moveN (A : AS) (x d y : Int) : AS := if rea A.r x (4 * d + y) (A.r (4 * d + y)) = 0 then A.sav.wr (pt (ins (rem A.r (home A.r x) (plc A.r x)) x (4 * d + y) (A.r (4 * d + y)))) else A.sav.wr (rf A.r)
def clearDoorT (A : AS) (d : Int) : Int := if ¬ (0 ≤ d ∧ d < 4) then 1 else 0
def clearDoorZ (A : AS) (d : Int) : Int := dwo A.r d
def clearDoorN (A : AS) (d : Int) : AS := A.sav.wr (clr A.r d)
def borrowT (A : AS) (d y e g : Int) : Int := if ¬ (0 ≤ d ∧ d < 4 ∧ 0 ≤ y ∧ y < 4 ∧ 0 ≤ e ∧ e < 4 ∧ 0 ≤ g ∧ g < 4) then 1 else if d = e then 2 else if ¬ ((0 < A.r (4 * d + y) ∧ A.r (112 + (4 * d + y)) = 0 ∧ bor A.r (4 * d + y) = -1) ∧ (0 < A.r (4 * e + g) ∧ A.r (112 + (4 * e + g)) = 0 ∧ bor A.r (4 * e + g) = -1)) then 3 else 0
def borrowZ (A : AS) (d y e g : Int) : Int := le (lnd A.r (4 * d + y) (4 * e + g)) (4 * d + y)
def borrowN (A : AS) (d y e g : Int) : AS := A.sav.wr (lnd A.r (4 * d + y) (4 * e + g))
def bringBackT (A : AS) (d y : Int) : Int := if ¬ (0 ≤ d ∧ d < 4 ∧ 0 ≤ y ∧ y < 4) then 1 else if A.r (112 + (4 * d + y)) = 0 then 2 else 0
def bringBackZ (A : AS) (d y : Int) : Int := le (brb A.r (4 * d + y)) (4 * d + y)
def bringBackN (A : AS) (d y : Int) : AS := A.sav.wr (brb A.r (4 * d + y))
def sleepT (A : AS) (m : Int) : Int := if ¬ (1 ≤ m ∧ m ≤ 20) then 1 else if 9999 < A.r 179 + m then 2 else 0
def sleepZ (A : AS) (m : Int) : Int := rbs (ngs A.r m.toNat) - rbs A.r
def sleepN (A : AS) (m : Int) : AS := A.sav.wr (ngs A.r m.toNat)
def setT (A : AS) (k v : Int) : Int := if ¬ (0 ≤ k ∧ k < 3) then 1 else if ¬ (0 ≤ v ∧ v ≤ mostS k) then 2 else 0
def setZ (A : AS) (k v : Int) : Int := A.r (176 + k)
def setN (A : AS) (k v : Int) : AS := A.sav.wr (setr A.r k v)
def wordOfT (A : AS) (x k : Int) : Int := if ¬ (0 ≤ x ∧ x < 40) then 1 else if ¬ (0 ≤ k ∧ k < 7) then 2 else 0
def wordOfZ (A : AS) (x k : Int) : Int := wpr A.r x k
def wordOfN (A : AS) (x k : Int) : AS := A
def atT (A : AS) (d y p : Int) : Int := if ¬ (0 ≤ d ∧ d < 4 ∧ 0 ≤ y ∧ y < 4 ∧ 0 ≤ p ∧ p < 6) then 1 else 0
def atZ (A : AS) (d y p : Int) : Int := W0 A.r (4 * d + y) p
def atN (A : AS) (d y p : Int) : AS := A
def lineOfT (A : AS) (d y k : Int) : Int := if ¬ (0 ≤ d ∧ d < 4 ∧ 0 ≤ y ∧ y < 4) then 1 else if ¬ (0 ≤ k ∧ k < 8) then 2 else 0
def lineOfZ (A : AS) (d y k : Int) : Int := lpr A.r (4 * d + y) k
def lineOfN (A : AS) (d y k : Int) : AS := A
def doorOfT (A : AS) (d k : Int) : Int := if ¬ (0 ≤ d ∧ d < 4) then 1 else if ¬ (0 ≤ k ∧ k < 5) then 2 else 0
def doorOfZ (A : AS) (d k : Int) : Int := dpr A.r d k
def doorOfN (A : AS) (d k : Int) : AS := A
def countT (A : AS) (k : Int) : Int := if ¬ (0 ≤ k ∧ k < 9) then 1 else 0
def countZ (A : AS) (k : Int) : Int := cntv A k
def countN (A : AS) (k : Int) : AS := A
def settingT (A : AS) (k : Int) : Int := if ¬ (0 ≤ k ∧ k < 3) then 1 else 0
def settingZ (A : AS) (k : Int) : Int := A.r (176 + k)
def settingN (A : AS) (k : Int) : AS := A
def whyNotT (A : AS) (x d y p : Int) : Int := if ¬ (0 ≤ x ∧ x < 40 ∧ 0 ≤ d ∧ d < 4 ∧ 0 ≤ y ∧ y < 4 ∧ 0 ≤ p ∧ p ≤ A.r (4 * d + y)) then 1 else 0
def whyNotZ (A : AS) (x d y p : Int) : Int := if home A.r x = 4 * d + y then -1 else rea A.r x (4 * d + y) p
def whyNotN (A : AS) (x d y p : Int) : AS := A
def bestWordT (A : AS) (d y : Int) : Int := if ¬ (0 ≤ d ∧ d < 4 ∧ 0 ≤ y ∧ y < 4) then 1 else 0
def bestWordZ (A : AS) (d y : Int) : Int := bf A.r (4 * d + y)
def bestWordN (A : AS) (d y : Int) : AS := A
def ifSleptT (A : AS) (m d : Int) : Int := if ¬ (0 ≤ d ∧ d < 4) then 1 else if ¬ (1 ≤ m ∧ m ≤ 20) then 2 else 0
def ifSleptZ (A : AS) (m d : Int) : Int := dw (ngs A.r m.toNat) d
def ifSleptN (A : AS) (m d : Int) : AS := A
