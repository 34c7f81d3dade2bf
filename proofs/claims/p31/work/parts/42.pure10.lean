/-! the law's thief: the richest door from above, the word of the highest rank -/
def may (r : Rw) (j : Int) : Prop := 0 < dwo r j ∧ r (128 + j) = 0 ∧ r 177 ≤ dw r j
def PD (r : Rw) (k dr : Int) : Prop := (dr = -1 ∧ ∀ j, k < j → j < 4 → ¬ may r j) ∨ ((k < dr ∧ 0 ≤ dr ∧ dr < 4) ∧ may r dr ∧ ∀ j, k < j → j < 4 → may r j → dw r j < dw r dr ∨ (dw r j = dw r dr ∧ dr ≤ j))
theorem PD_0 {r : Rw} : PD r 3 (-1) := Or.inl ⟨rfl, fun j a b => by omega⟩
theorem PD_rng {r : Rw} {k dr : Int} (h : PD r k dr) (hk : -1 ≤ k) : -1 ≤ dr ∧ dr < 4 := by
  rcases h with ⟨a, _⟩ | ⟨a, _, _⟩ <;> omega
theorem PD_no {r : Rw} {k dr : Int} (h : PD r k dr) (hn : ¬ may r k) : PD r (k + -1) dr := by
  rcases h with ⟨a, b⟩ | ⟨a, b, c⟩
  · refine Or.inl ⟨a, fun j h1 h2 => ?_⟩
    by_cases e : j = k
    · subst e; exact hn
    · exact b j (by omega) h2
  · refine Or.inr ⟨⟨by omega, a.2⟩, b, fun j h1 h2 h3 => ?_⟩
    by_cases e : j = k
    · subst e; exact absurd h3 hn
    · exact c j (by omega) h2 h3
theorem PD_in {r : Rw} {k dr : Int} (h : PD r k dr) (hk : 0 ≤ k ∧ k < 4) (hm : may r k) (hd : dr < 0 ∨ dw r dr ≤ dw r k) : PD r (k + -1) k := by
  refine Or.inr ⟨⟨by omega, hk⟩, hm, fun j h1 h2 h3 => ?_⟩
  by_cases e : j = k
  · subst e; right; omega
  · rcases h with ⟨a, b⟩ | ⟨a, b, c⟩
    · exact absurd h3 (b j (by omega) h2)
    · have := c j (by omega) h2 h3
      omega
theorem PD_out {r : Rw} {k dr : Int} (h : PD r k dr) (hd : 0 ≤ dr ∧ dw r k < dw r dr) : PD r (k + -1) dr := by
  rcases h with ⟨a, b⟩ | ⟨a, b, c⟩
  · omega
  · refine Or.inr ⟨⟨by omega, a.2⟩, b, fun j h1 h2 h3 => ?_⟩
    by_cases e : j = k
    · subst e; left; exact hd.2
    · exact c j (by omega) h2 h3
theorem tgC (r : Rw) : ∀ n : Nat, (tgN r n = -1 ∧ ∀ j : Int, 0 ≤ j → j < n → ¬ (0 < dwo r j ∧ r (128 + j) = 0)) ∨ ((0 ≤ tgN r n ∧ tgN r n < n) ∧ (0 < dwo r (tgN r n) ∧ r (128 + tgN r n) = 0) ∧ ∀ j : Int, 0 ≤ j → j < n → (0 < dwo r j ∧ r (128 + j) = 0) → dw r j < dw r (tgN r n) ∨ (dw r j = dw r (tgN r n) ∧ tgN r n ≤ j))
  | 0 => Or.inl ⟨rfl, fun j a b => by omega⟩
  | n + 1 => by
    have ih := tgC r n
    have e : tgN r (n + 1) = if 0 < dwo r n ∧ r (128 + n) = 0 ∧ (tgN r n = -1 ∨ dw r (tgN r n) < dw r n) then (n : Int) else tgN r n := rfl
    rw [e]
    by_cases q : 0 < dwo r n ∧ r (128 + n) = 0 ∧ (tgN r n = -1 ∨ dw r (tgN r n) < dw r n)
    · rw [if_pos q]
      refine Or.inr ⟨⟨by omega, by omega⟩, ⟨q.1, q.2.1⟩, fun j a b c => ?_⟩
      by_cases g : j = n
      · subst g; right; omega
      · rcases ih with ⟨u, v⟩ | ⟨u, v, t⟩
        · exact absurd c (v j a (by omega))
        · have := t j a (by omega) c
          omega
    · rw [if_neg q]
      rcases ih with ⟨u, v⟩ | ⟨u, v, t⟩
      · refine Or.inl ⟨u, fun j a b c => ?_⟩
        by_cases g : j = n
        · subst g; exact q ⟨c.1, c.2, Or.inl u⟩
        · exact v j a (by omega) c
      · refine Or.inr ⟨⟨u.1, by omega⟩, v, fun j a b c => ?_⟩
        by_cases g : j = n
        · subst g
          have g2 : ¬ dw r (tgN r n) < dw r (n : Int) := fun g2 => q ⟨c.1, c.2, Or.inr g2⟩
          omega
        · exact t j a (by omega) c
theorem PD_tg {r : Rw} {k dr : Int} (h : PD r k dr) (hk : k = -1) : dr = tg r := by
  subst hk
  unfold tg
  rcases tgC r 4 with ⟨u, v⟩ | ⟨u, v, t⟩
  · rw [if_neg (by omega)]
    rcases h with ⟨a, b⟩ | ⟨a, b, c⟩
    · exact a
    · exact absurd ⟨b.1, b.2.1⟩ (v dr a.2.1 (by omega))
  · by_cases q : r 177 ≤ dw r (tgN r 4)
    · rw [if_pos ⟨by omega, q⟩]
      rcases h with ⟨a, b⟩ | ⟨a, b, c⟩
      · exact absurd ⟨v.1, v.2, q⟩ (b (tgN r 4) (by omega) (by omega))
      · have h1 := c (tgN r 4) (by omega) (by omega) ⟨v.1, v.2, q⟩
        have h2 := t dr a.2.1 (by omega) ⟨b.1, b.2.1⟩
        omega
    · rw [if_neg (fun g => q g.2)]
      rcases h with ⟨a, b⟩ | ⟨a, b, c⟩
      · exact a
      · have h2 := t dr a.2.1 (by omega) ⟨b.1, b.2.1⟩
        have h3 := b.2.2
        omega
/-- the rank of a word -/
def rk (r : Rw) (x : Int) : Int := 100 * (x % 3) + 10 * (home r x % 4) + 5 - plc r x
def onD (r : Rw) (d x : Int) : Prop := 0 ≤ home r x ∧ home r x / 4 = d
def BD (r : Rw) (d i be mo : Int) : Prop := (be = -1 ∧ mo = -1 ∧ ∀ x, 0 ≤ x → x < i → ¬ onD r d x) ∨ ((0 ≤ be ∧ be < i) ∧ onD r d be ∧ mo = rk r be ∧ ∀ x, 0 ≤ x → x < i → onD r d x → rk r x ≤ rk r be)
theorem BD_0 {r : Rw} {d : Int} : BD r d 0 (-1) (-1) := Or.inl ⟨rfl, rfl, fun x a b => by omega⟩
theorem rk_rng {r : Rw} (h : Iv r) {x : Int} (hx : 0 ≤ home r x) : 0 ≤ rk r x ∧ rk r x ≤ 235 := by
  have hc := whv_c h x
  unfold rk; omega
theorem BD_mo {r : Rw} {d i be mo : Int} (hI : Iv r) (h : BD r d i be mo) : -1 ≤ mo ∧ mo ≤ 235 := by
  rcases h with ⟨a, b, _⟩ | ⟨a, b, c, _⟩
  · omega
  · have := rk_rng hI b.1
    omega
theorem BD_no {r : Rw} {d i be mo : Int} (h : BD r d i be mo) (hn : ¬ onD r d i) : BD r d (i + 1) be mo := by
  rcases h with ⟨a, b, c⟩ | ⟨a, b, c, e⟩
  · refine Or.inl ⟨a, b, fun x x0 x1 => ?_⟩
    by_cases g : x = i
    · subst g; exact hn
    · exact c x x0 (by omega)
  · refine Or.inr ⟨⟨a.1, by omega⟩, b, c, fun x x0 x1 x2 => ?_⟩
    by_cases g : x = i
    · subst g; exact absurd x2 hn
    · exact e x x0 (by omega) x2
theorem BD_in {r : Rw} {d i be mo z : Int} (h : BD r d i be mo) (h0 : 0 ≤ i) (ho : onD r d i) (hz : z = rk r i) (hm : mo < z) : BD r d (i + 1) i z := by
  refine Or.inr ⟨⟨h0, by omega⟩, ho, hz, fun x x0 x1 x2 => ?_⟩
  by_cases g : x = i
  · subst g; omega
  · rcases h with ⟨a, b, c⟩ | ⟨a, b, c, e⟩
    · exact absurd x2 (c x x0 (by omega))
    · have := e x x0 (by omega) x2
      omega
theorem BD_out {r : Rw} {d i be mo : Int} (hI : Iv r) (h : BD r d i be mo) (ho : onD r d i) (hm : rk r i ≤ mo) : BD r d (i + 1) be mo := by
  have := rk_rng hI ho.1
  rcases h with ⟨a, b, c⟩ | ⟨a, b, c, e⟩
  · omega
  · refine Or.inr ⟨⟨a.1, by omega⟩, b, c, fun x x0 x1 x2 => ?_⟩
    by_cases g : x = i
    · subst g; omega
    · exact e x x0 (by omega) x2
theorem rk_inj {r : Rw} (hI : Iv r) {d x y : Int} (hx : 0 ≤ x) (hy : 0 ≤ y) (ox : onD r d x) (oy : onD r d y) (e : rk r x = rk r y) : x = y := by
  have cx := whv_c hI x
  have cy := whv_c hI y
  unfold rk at e
  unfold onD at ox oy
  have e1 : home r x = home r y := by omega
  have e2 : plc r x = plc r y := by omega
  have w1 := (W0_i hI (l := home r x) (p := plc r x) ⟨by omega, by omega⟩ hx).mpr ⟨rfl, rfl⟩
  have w2 := (W0_i hI (l := home r x) (p := plc r x) ⟨by omega, by omega⟩ hy).mpr ⟨e1.symm, e2.symm⟩
  omega
theorem pinB {r : Rw} (hI : Iv r) {d l b : Int} (hd : 0 ≤ d ∧ d < 4) (hl : 4 * d ≤ l ∧ l < 4 * d + 4) (hb : b = -1 ∨ ((0 ≤ b ∧ b < 40) ∧ home r b / 4 = d ∧ l < home r b)) : ∀ n : Nat, (n : Int) ≤ r l → (pinN r l b n = -1 ∧ b = -1 ∧ n = 0) ∨ ((0 ≤ pinN r l b n ∧ pinN r l b n < 40) ∧ home r (pinN r l b n) / 4 = d ∧ l ≤ home r (pinN r l b n) ∧ (b ≠ -1 → rk r b ≤ rk r (pinN r l b n)) ∧ (home r (pinN r l b n) = l → plc r (pinN r l b n) < n) ∧ ∀ p : Int, 0 ≤ p → p < n → rk r (wa r l p) ≤ rk r (pinN r l b n))
  | 0, _ => by
    rcases hb with q | q
    · exact Or.inl ⟨q, q, rfl⟩
    · refine Or.inr ⟨q.1, q.2.1, ?_, fun _ => Int.le_refl _, fun e => ?_, fun p a c => by omega⟩
      · show l ≤ home r b
        omega
      · have e2 : home r b = l := e
        omega
  | n + 1, hn => by
    have ih := pinB hI hd hl hb n (by omega)
    have hw := hI.wd (l := l) (p := n) (by omega) (by omega) (by omega) (by omega)
    obtain ⟨h1, h2⟩ := wa_pos hI (l := l) (p := n) ⟨by omega, by omega⟩ ⟨by omega, by omega⟩
    have e : pinN r l b (n + 1) = if pinN r l b n = -1 ∨ bt (pinN r l b n) < bt (wa r l n) then wa r l n else pinN r l b n := rfl
    rw [e]
    have hwn := whv_c hI (wa r l n)
    by_cases q : pinN r l b n = -1 ∨ bt (pinN r l b n) < bt (wa r l n)
    · rw [if_pos q]
      refine Or.inr ⟨hw, by omega, by omega, fun hb2 => ?_, fun _ => by omega, fun p a c => ?_⟩
      · rcases ih with ⟨u, v, _⟩ | ⟨u, v, x, y, _⟩
        · exact absurd v hb2
        · have := y hb2
          have hc := whv_c hI (pinN r l b n)
          have q2 := q.resolve_left (by omega)
          unfold bt at q2
          unfold rk at this ⊢; omega
      · by_cases g : p = n
        · subst g; exact Int.le_refl _
        · rcases ih with ⟨u, v, z⟩ | ⟨u, v, x, y, z, t⟩
          · omega
          · have := t p a (by omega)
            have hc := whv_c hI (pinN r l b n)
            have q2 := q.resolve_left (by omega)
            unfold bt at q2
            unfold rk at this ⊢; omega
    · rw [if_neg q]
      rcases ih with ⟨u, v, z⟩ | ⟨u, v, x, y, z, t⟩
      · exact absurd (Or.inl u) q
      · refine Or.inr ⟨u, v, x, y, fun g => by have := z g; omega, fun p a c => ?_⟩
        by_cases g : p = n
        · subst g
          have hc := whv_c hI (pinN r l b n)
          have q2 : ¬ bt (pinN r l b n) < bt (wa r l n) := fun g => q (Or.inr g)
          unfold bt at q2
          by_cases g2 : home r (pinN r l b n) = l
          · have := z g2
            unfold rk; omega
          · unfold rk; omega
        · exact t p a (by omega)
theorem ponB {r : Rw} (hI : Iv r) {d : Int} (hd : 0 ≤ d ∧ d < 4) : ∀ k : Nat, k ≤ 4 → (ponN r d k = -1 ∧ ∀ l, 4 * d + 3 - k < l → l ≤ 4 * d + 3 → r l = 0) ∨ ((0 ≤ ponN r d k ∧ ponN r d k < 40) ∧ home r (ponN r d k) / 4 = d ∧ 4 * d + 3 - k < home r (ponN r d k) ∧ ∀ x, 0 ≤ x → x < 40 → home r x / 4 = d → 4 * d + 3 - k < home r x → rk r x ≤ rk r (ponN r d k))
  | 0, _ => Or.inl ⟨rfl, fun l a b => by omega⟩
  | k + 1, hk => by
    have ih := ponB hI hd k (by omega)
    have hs := hI.sz (l := 4 * d + 3 - k) (by omega) (by omega)
    have e : ponN r d (k + 1) = pinN r (4 * d + 3 - k) (ponN r d k) (r (4 * d + 3 - k)).toNat := rfl
    have hp := pinB hI hd (l := 4 * d + 3 - k) (b := ponN r d k) ⟨by omega, by omega⟩ (by
      rcases ih with ⟨a, _⟩ | ⟨a, b, c, _⟩
      · exact Or.inl a
      · exact Or.inr ⟨a, b, c⟩) (r (4 * d + 3 - k)).toNat (by omega)
    rw [e]
    rcases hp with ⟨a, b, c⟩ | ⟨a, b, c, u, v, t⟩
    · refine Or.inl ⟨a, fun l l0 l1 => ?_⟩
      by_cases g : l = 4 * d + 3 - k
      · rw [g]; omega
      · rcases ih with ⟨_, y⟩ | ⟨y, _⟩
        · exact y l (by omega) l1
        · omega
    · refine Or.inr ⟨a, b, by omega, fun x x0 x1 x2 x3 => ?_⟩
      by_cases g : home r x = 4 * d + 3 - k
      · have hc := whv_c hI x
        have hx := (W0_i hI (l := 4 * d + 3 - k) (p := plc r x) ⟨by omega, by omega⟩ x0).mpr ⟨g, rfl⟩
        have hpl : plc r x < r (4 * d + 3 - k) := by
          rcases hc with hc | hc
          · omega
          · rw [← g]; exact hc.2.2.2.2.1
        rw [W0_in ⟨by omega, hpl⟩] at hx
        have := t (plc r x) (by omega) (by omega)
        rw [hx] at this; exact this
      · rcases ih with ⟨_, y⟩ | ⟨y, z, y2, y3⟩
        · have hc := whv_c hI x
          have h0 := y (home r x) (by omega) (by omega)
          omega
        · exact Int.le_trans (y3 x x0 x1 x2 (by omega)) (u (by omega))
theorem BD_py {r : Rw} {be mo : Int} (hI : Iv r) (h : BD r (tg r) 40 be mo) : be = py r := by
  have hr := tg_range r
  unfold py
  by_cases e : tg r = -1
  · rw [if_pos e]
    rcases h with ⟨a, _⟩ | ⟨a, b, _⟩
    · exact a
    · unfold onD at b; omega
  · rw [if_neg e]
    obtain ⟨d0, d1, d2⟩ := tg_words e
    obtain ⟨p0, p1, p2, p3⟩ := pon_on hI ⟨d0, d1⟩ d2
    have hh := home_range r (pon r (tg r))
    rcases h with ⟨a, b, c⟩ | ⟨a, b, c, t⟩
    · exact absurd ⟨by omega, p3⟩ (c (pon r (tg r)) p0 p1)
    · have h1 := t (pon r (tg r)) p0 p1 ⟨by omega, p3⟩
      have h2 := ponB hI ⟨d0, d1⟩ 4 (by omega)
      have h3 : rk r be ≤ rk r (pon r (tg r)) := by
        rcases h2 with ⟨x, _⟩ | ⟨x, y, z, w⟩
        · have : pon r (tg r) = -1 := x
          omega
        · exact w be a.1 (by omega) b.2 (by have := b.1; have := b.2; omega)
      exact rk_inj hI a.1 p0 b ⟨by omega, p3⟩ (by omega)
/-- quotient and remainder as Java has them, from -1 on -/
def dv8 (v : Int) : Int := if v < 0 then 0 else v / 8
def md8 (v : Int) : Int := if v < 0 then v else v % 8
theorem dm8 {v : Int} (h : -1 ≤ v) : (v = -1 ∧ dv8 v = 0 ∧ md8 v = -1) ∨ (0 ≤ v ∧ dv8 v = v / 8 ∧ md8 v = v % 8) := by
  unfold dv8 md8
  by_cases q : v < 0
  · left; rw [if_pos q, if_pos q]; omega
  · right; rw [if_neg q, if_neg q]; omega
theorem dv8_e {v : Int} (h : -1 ≤ v ∧ v < 1000) : iI v / iI 8 = iI (dv8 v) := by
  unfold dv8
  by_cases q : v < 0
  · rw [if_pos q, show v = -1 by omega]; decide
  · rw [if_neg q]; exact iI_div ⟨by omega, by omega⟩ ⟨by decide, by decide⟩ (by omega) (by decide)
theorem md8_e {v : Int} (h : -1 ≤ v ∧ v < 1000) : iI v - iI v / iI 8 * iI 8 = iI (md8 v) := by
  unfold md8
  by_cases q : v < 0
  · rw [if_pos q, show v = -1 by omega]; decide
  · rw [if_neg q]; exact iI_rem ⟨by omega, by omega⟩ ⟨by decide, by decide⟩ (by omega) (by decide)
def rkF (v i : Int) : Int := 100 * (i % 3) + 10 * (dv8 v % 4) + 5 - md8 v
theorem rkF_c {r : Rw} (hI : Iv r) {v i : Int} (hv : v = whv r i) : (0 ≤ rkF v i ∧ rkF v i ≤ 300) ∧ (0 ≤ home r i → rkF v i = rk r i) := by
  have hc := whv_c hI i
  have hd := dm8 (v := v) (by omega)
  unfold rkF rk
  omega
section QD
variable {p : Program} {l : Launch} {e : Env} {R : Room} {s : State} {m : MethodId} {args : Array Value} {below : List Frame} {meth : Method} {c : Code} {Qf : State → Prop} {w : WP} {k n nL pc : Nat} {lv lv' : List (Nat × Value)} {st : List Value} {F : FF} {cc : ByteArray} {own : String} {ret : Option FieldType}
theorem q_idivz (C : Cx p s m args meth c cc own ret nL w) {x y : Int} (z : Int) (hy : inR y ∧ y ≠ 0) (hz : iI x / iI y = iI z) (d : decode cc pc = .ok (.idiv, 1)) (kk : Wq p l e R s m args below meth c Qf w k n nL (pc + 1) lv (.int (iI z) :: st) F) : Wq p l e R s m args below meth c Qf w k n nL pc lv (.int (iI y) :: .int (iI x) :: st) F :=
  fun H locs ls hH hS hl => lv_idiv C.1 C.2.1 d (by rw [iI_0, iI_eq hy.1 ⟨by omega, by omega⟩]; exact hy.2) (by rw [hz]; exact kk H locs ls hH hS hl)
theorem q_iremz (C : Cx p s m args meth c cc own ret nL w) {x y : Int} (z : Int) (hy : inR y ∧ y ≠ 0) (hz : iI x - iI x / iI y * iI y = iI z) (d : decode cc pc = .ok (.irem, 1)) (kk : Wq p l e R s m args below meth c Qf w k n nL (pc + 1) lv (.int (iI z) :: st) F) : Wq p l e R s m args below meth c Qf w k n nL pc lv (.int (iI y) :: .int (iI x) :: st) F :=
  fun H locs ls hH hS hl => lv_irem C.1 C.2.1 d (by rw [iI_0, iI_eq hy.1 ⟨by omega, by omega⟩]; exact hy.2) (by rw [hz]; exact kk H locs ls hH hS hl)
end QD
