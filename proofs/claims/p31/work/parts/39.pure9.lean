/-! pure rows shared with the other claim: pairs, prey, nights, the worth with a word more -/
theorem rhT_e {r : Rw} {x i : Int} (h : le r x = -1) : rhT r x (le r x) i = 0 := by
  unfold rhT
  rw [h, eqv_n]; split <;> rfl
theorem prs_half {r : Rw} {d : Int} (hd : 0 ≤ d ∧ d < 4) : sm (fun i => rh r (4 * d + i)) 4 / 2 = prs r d := by
  have h : ∀ i, 0 ≤ i → i < 4 → rh r (4 * d + i) = (if i = 0 then 0 else eqv (le r (4 * d + i)) (le r (4 * d + 0))) + (if i = 1 then 0 else eqv (le r (4 * d + i)) (le r (4 * d + 1))) + (if i = 2 then 0 else eqv (le r (4 * d + i)) (le r (4 * d + 2))) + (if i = 3 then 0 else eqv (le r (4 * d + i)) (le r (4 * d + 3))) := by
    intro i h0 h1
    show rhE r _ _ = _
    rw [rhE_eq, sm_4]
    unfold rhT
    rw [show 4 * ((4 * d + i) / 4) = 4 * d by omega]
    have e : ∀ j : Int, (if 4 * d + j ≠ 4 * d + i then eqv (le r (4 * d + i)) (le r (4 * d + j)) else 0) = if i = j then 0 else eqv (le r (4 * d + i)) (le r (4 * d + j)) := by
      intro j
      by_cases q : i = j
      · rw [if_pos q, if_neg (by omega)]
      · rw [if_neg q, if_pos (by omega)]
    rw [e, e, e, e]
  rw [sm_4, h 0 (by omega) (by omega), h 1 (by omega) (by omega), h 2 (by omega) (by omega), h 3 (by omega) (by omega)]
  unfold prs
  rw [eqv_comm (le r (4 * d + 0)) (le r (4 * d + 1)), eqv_comm (le r (4 * d + 0)) (le r (4 * d + 2)), eqv_comm (le r (4 * d + 0)) (le r (4 * d + 3)), eqv_comm (le r (4 * d + 1)) (le r (4 * d + 2)), eqv_comm (le r (4 * d + 1)) (le r (4 * d + 3)), eqv_comm (le r (4 * d + 2)) (le r (4 * d + 3)), Int.add_zero]
  simp only [show ¬ (0 : Int) = 1 by decide, show ¬ (0 : Int) = 2 by decide, show ¬ (0 : Int) = 3 by decide, show ¬ (1 : Int) = 0 by decide, show ¬ (1 : Int) = 2 by decide, show ¬ (1 : Int) = 3 by decide, show ¬ (2 : Int) = 0 by decide, show ¬ (2 : Int) = 1 by decide, show ¬ (2 : Int) = 3 by decide, show ¬ (3 : Int) = 0 by decide, show ¬ (3 : Int) = 1 by decide, show ¬ (3 : Int) = 2 by decide, if_true, if_false]
  omega
theorem py_range {r : Rw} (hI : Iv r) : -1 ≤ py r ∧ py r < 40 := by
  unfold py
  by_cases e : tg r = -1
  · rw [if_pos e]; omega
  · rw [if_neg e]
    have h := tg_range r
    exact pon_range hI ⟨by omega, by omega⟩

theorem night_x {r : Rw} (hI : Iv r) (h : py r ≠ -1) : tg r ≠ -1 ∧ pon r (tg r) = py r ∧ home (wn r) (py r) ≠ -1 := by
  unfold py at h ⊢
  by_cases e : tg r = -1
  · rw [if_pos e] at h; exact absurd rfl h
  · rw [if_neg e]
    obtain ⟨a, b, c, d, f, g, q⟩ := (ng_iv hI).2 e
    rw [q] at f
    exact ⟨e, rfl, f⟩
theorem night_0 {r : Rw} (hI : Iv r) (h : py r = -1) : ng r = wn r ∧ 0 = rbs (wn r) - rbs r := by
  have e : tg r = -1 := by
    apply Classical.byContradiction
    intro e
    unfold py at h
    rw [if_neg e] at h
    obtain ⟨a, b, c, d, f, g, q⟩ := (ng_iv hI).2 e
    omega
  refine ⟨by unfold ng; rw [if_pos e], ?_⟩
  unfold rbs
  rw [wn_hi _ (by omega) (by omega), wn_hi _ (by omega) (by omega), wn_hi _ (by omega) (by omega), wn_hi _ (by omega) (by omega)]
  omega
theorem night_ng {r : Rw} (hI : Iv r) (h : py r ≠ -1) : ng r = stl (wn r) (py r) := by
  obtain ⟨a, b, c⟩ := night_x hI h
  unfold ng
  rw [if_neg a, b]
theorem night_1 {r : Rw} (hI : Iv r) (h : py r ≠ -1) : rbs (ng r) - rbs r = 1 := by
  obtain ⟨a, b, c⟩ := night_x hI h
  have hp := py_range hI
  have hIw := (ng_iv hI).1
  rw [night_ng hI h]
  obtain ⟨h0, h1, h2, h3, h4⟩ := home_at hIw c
  have e : ∀ j, 132 ≤ j → j < 136 → stl (wn r) (py r) j = r j + (if j = 132 + home (wn r) (py r) / 4 then 1 else 0) := by
    intro j a c
    unfold stl
    rw [if_neg (by omega)]
    by_cases q : j = 132 + home (wn r) (py r) / 4
    · rw [if_pos q, if_pos q, wn_hi _ (by omega) (by omega)]
    · rw [if_neg q, if_neg q, if_neg (by omega), rem_hi hIw ⟨h0, h1⟩ ⟨h2, h3⟩ (by omega), wn_hi _ (by omega) (by omega), Int.add_zero]
  unfold rbs
  rw [e 132 (by omega) (by omega), e 133 (by omega) (by omega), e 134 (by omega) (by omega), e 135 (by omega) (by omega)]
  rcases (show home (wn r) (py r) / 4 = 0 ∨ home (wn r) (py r) / 4 = 1 ∨ home (wn r) (py r) / 4 = 2 ∨ home (wn r) (py r) / 4 = 3 by omega) with q | q | q | q <;> rw [q]
  · rw [if_pos (by decide), if_neg (by decide), if_neg (by decide), if_neg (by decide)]; omega
  · rw [if_neg (by decide), if_pos (by decide), if_neg (by decide), if_neg (by decide)]; omega
  · rw [if_neg (by decide), if_neg (by decide), if_pos (by decide), if_neg (by decide)]; omega
  · rw [if_neg (by decide), if_neg (by decide), if_neg (by decide), if_pos (by decide)]; omega
theorem ngs_i {r : Rw} {i : Int} (h : 0 ≤ i) : ngs r (i + 1).toNat = ng (ngs r i.toNat) := by
  rw [show (i + 1).toNat = i.toNat + 1 by omega]; rfl
def bfK (r : Rw) (y : Int) : Int := 4 * (prs r (y / 4) - rh r y) + (sm (fun i => lw r (4 * (y / 4) + i)) 4 - lw r y)
theorem prs_but {r s : Rw} {y : Int} (hy : 0 ≤ y) (h : ∀ i, 0 ≤ i → i < 4 → 4 * (y / 4) + i ≠ y → le s (4 * (y / 4) + i) = le r (4 * (y / 4) + i)) : prs s (y / 4) - rhE r y (le s y) = prs r (y / 4) - rh r y := by
  have e0 := h 0 (by omega) (by omega)
  have e1 := h 1 (by omega) (by omega)
  have e2 := h 2 (by omega) (by omega)
  have e3 := h 3 (by omega) (by omega)
  unfold rh
  rw [rhE_eq, rhE_eq, sm_4, sm_4]
  unfold rhT prs
  rw [show 4 * (y / 4) + 0 = 4 * (y / 4) by omega] at *
  rcases (show y = 4 * (y / 4) ∨ y = 4 * (y / 4) + 1 ∨ y = 4 * (y / 4) + 2 ∨ y = 4 * (y / 4) + 3 by omega) with q | q | q | q
  · rw [e1 (by omega), e2 (by omega), e3 (by omega), if_neg (by omega), if_pos (by omega), if_pos (by omega), if_pos (by omega), if_neg (by omega), if_pos (by omega), if_pos (by omega), if_pos (by omega)]
    rw [← q]
    rw [eqv_comm (le s y), eqv_comm (le s y), eqv_comm (le s y), eqv_comm (le r y), eqv_comm (le r y), eqv_comm (le r y)]
    omega
  · rw [e0 (by omega), e2 (by omega), e3 (by omega), if_pos (by omega), if_neg (by omega), if_pos (by omega), if_pos (by omega), if_pos (by omega), if_neg (by omega), if_pos (by omega), if_pos (by omega)]
    rw [← q]
    rw [eqv_comm (le s y) (le r (4 * (y / 4) + 2)), eqv_comm (le s y) (le r (4 * (y / 4) + 3)), eqv_comm (le r y) (le r (4 * (y / 4) + 2)), eqv_comm (le r y) (le r (4 * (y / 4) + 3))]
    omega
  · rw [e0 (by omega), e1 (by omega), e3 (by omega), if_pos (by omega), if_pos (by omega), if_neg (by omega), if_pos (by omega), if_pos (by omega), if_pos (by omega), if_neg (by omega), if_pos (by omega)]
    rw [← q]
    rw [eqv_comm (le s y) (le r (4 * (y / 4) + 3)), eqv_comm (le r y) (le r (4 * (y / 4) + 3))]
    omega
  · rw [e0 (by omega), e1 (by omega), e2 (by omega), if_pos (by omega), if_pos (by omega), if_pos (by omega), if_neg (by omega), if_pos (by omega), if_pos (by omega), if_pos (by omega), if_neg (by omega)]
    rw [← q]
    omega
theorem ins_le {r : Rw} {x y : Int} (hI : Iv r) (hy : 0 ≤ y ∧ y < 16) (hs : r y < 6) : le (ins r x y (r y)) y = en x := by
  have hq := hI.sz hy.1 hy.2
  have hl : ins r x y (r y) (112 + y) = 0 := by rw [ins_ld hy ⟨hq.1, by omega⟩ hs hy.1 hy.2, if_pos rfl]
  have hz : ins r x y (r y) y = r y + 1 := by rw [ins_sz hy ⟨hq.1, by omega⟩ hy.1 hy.2, if_pos rfl]
  unfold le
  rw [hl, hz, if_neg (by omega), if_neg (by omega)]
  unfold la
  rw [hz, if_neg (by omega), show r y + 1 - 1 = r y by omega, ins_wa hy ⟨hq.1, by omega⟩ hs hy.1 hy.2 hq.1 hs, if_pos rfl]
  rw [if_neg (by omega), if_pos rfl]
theorem ins_le2 {r : Rw} {x y l : Int} (hI : Iv r) (hy : 0 ≤ y ∧ y < 16) (hs : r y < 6) (hl : 0 ≤ l ∧ l < 16) (hd : l / 4 = y / 4) (hne : l ≠ y) : le (ins r x y (r y)) l = le r l := by
  have hq := hI.sz hy.1 hy.2
  have hn : r (112 + l) ≠ y + 1 := by
    intro e
    have := hI.lend hl.1 hl.2 (by omega)
    rw [e] at this
    omega
  have hll : ins r x y (r y) (112 + l) = r (112 + l) := by rw [ins_ld hy ⟨hq.1, by omega⟩ hs hl.1 hl.2, if_neg hne, if_neg (fun k => hn k.1)]
  have hz : ∀ k, 0 ≤ k → k < 16 → k ≠ y → ins r x y (r y) k = r k := fun k a b c => by rw [ins_sz hy ⟨hq.1, by omega⟩ a b, if_neg c]
  have hla : ∀ k, 0 ≤ k → k < 16 → k ≠ y → la (ins r x y (r y)) k = la r k := by
    intro k a b c
    unfold la
    rw [hz k a b c]
    by_cases g : r k = 0
    · rw [if_pos g, if_pos g]
    · have := hI.sz a b
      rw [if_neg g, if_neg g, ins_wa hy ⟨hq.1, by omega⟩ hs a b (by omega) (by omega), if_neg c]
  have hld := hI.ld hl.1 hl.2
  unfold le
  rw [hll, hz l hl.1 hl.2 hne]
  by_cases g : r l = 0
  · rw [if_pos g, if_pos g]
  · rw [if_neg g, if_neg g]
    by_cases g2 : 0 < r (112 + l)
    · rw [if_pos g2, hla _ (by omega) (by omega) (by omega)]
    · rw [if_neg g2, hla _ hl.1 hl.2 hne]
theorem bo_cg {f g : Int → Int} {n : Int} (h : ∀ i, 0 ≤ i → i < n → f i = g i) : bo f n = bo g n := sm_congr (fun i a b => by show bt _ = bt _; rw [h i a b])
theorem hk_cg {f g : Int → Int} {n k : Int} (h : ∀ i, 0 ≤ i → i < n → f i = g i) : hk f k n = hk g k n := an_congr (fun i a b => by show decide _ = decide _; rw [h i a b])
theorem LW_cg {f g : Int → Int} {n : Int} (h : ∀ i, 0 ≤ i → i < n → f i = g i) : LW f n = LW g n := by
  unfold LW
  rw [bo_cg h, hk_cg h, hk_cg h]
theorem dw_ins {r : Rw} {x y : Int} (hI : Iv r) (hx : 0 ≤ x ∧ x < 40) (hh : home r x = -1) (hy : 0 ≤ y ∧ y < 16) (hs : r y < 6) : dw (ins r x y (r y)) (y / 4) = bfK r y + bfV r y x := by
  have hq := hI.sz hy.1 hy.2
  have h1 := prs_but (r := r) (s := ins r x y (r y)) hy.1 (fun i a b c => ins_le2 hI hy hs ⟨by omega, by omega⟩ (by omega) c)
  rw [ins_le hI hy hs] at h1
  have hl : lw (ins r x y (r y)) y = LW (fw r y x) (r y + 1) := by
    unfold lw
    rw [ins_sz hy ⟨hq.1, by omega⟩ hy.1 hy.2, if_pos rfl]
    refine LW_cg (fun p a b => ?_)
    rw [ins_wa hy ⟨hq.1, by omega⟩ hs hy.1 hy.2 a (by omega), if_pos rfl]
    unfold fw
    by_cases g : p < r y
    · rw [if_pos g, if_pos g]
    · rw [if_neg g, if_neg g, if_pos (by omega)]
  have ho : ∀ l, 0 ≤ l → l < 16 → l ≠ y → lw (ins r x y (r y)) l = lw r l := by
    intro l a b c
    have hsl := hI.sz a b
    unfold lw
    rw [ins_sz hy ⟨hq.1, by omega⟩ a b, if_neg c]
    exact LW_cg (fun p a2 b2 => by rw [ins_wa hy ⟨hq.1, by omega⟩ hs a b a2 (by omega), if_neg c])
  have h2 : sm (fun i => lw (ins r x y (r y)) (4 * (y / 4) + i)) 4 = sm (fun i => lw r (4 * (y / 4) + i)) 4 + (lw (ins r x y (r y)) y - lw r y) := by
    have := sm_upd (f := fun i => lw r (4 * (y / 4) + i)) (g := fun i => lw (ins r x y (r y)) (4 * (y / 4) + i)) (k := y - 4 * (y / 4)) (n := 4) (fun i a b c => ho _ (by omega) (by omega) (by omega)) (by omega) (by omega)
    rw [this]
    show _ + (lw _ (4 * (y / 4) + (y - 4 * (y / 4))) - lw _ (4 * (y / 4) + (y - 4 * (y / 4)))) = _
    rw [show 4 * (y / 4) + (y - 4 * (y / 4)) = y by omega]
  unfold dw bfK bfV
  rw [h2, hl]
  omega
