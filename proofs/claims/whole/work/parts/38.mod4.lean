/-! the reference: nights, what is put aside, saved states -/
def wnI (r : Rw) (i : Int) : Rw := fun j => if 128 ≤ j ∧ j < 128 + i ∧ 0 < r j then r j - 1 else r j
theorem wnI_0 {r : Rw} : r = wnI r 0 := by
  funext j; unfold wnI; rw [if_neg (by omega)]
theorem wnI_at {r : Rw} {i : Int} (h : 0 ≤ i) : wnI r i (128 + i) = r (128 + i) := by unfold wnI; rw [if_neg (by omega)]
theorem wnI_hi {r : Rw} {i j : Int} (h : i ≤ 4) (h2 : 132 ≤ j) : wnI r i j = r j := by unfold wnI; rw [if_neg (by omega)]
theorem wnI_t {r : Rw} {i : Int} (h0 : 0 ≤ i) (h : 0 < r (128 + i)) : ru (wnI r i) (128 + i) (r (128 + i) - 1) = wnI r (i + 1) := by
  funext j
  unfold ru wnI
  by_cases e : j = 128 + i
  · rw [if_pos e, if_pos ⟨by omega, by omega, by rw [e]; exact h⟩, e]
  · rw [if_neg e]
    by_cases g : 128 ≤ j ∧ j < 128 + i ∧ 0 < r j
    · rw [if_pos g, if_pos ⟨g.1, by omega, g.2.2⟩]
    · rw [if_neg g, if_neg (fun k => g ⟨k.1, by omega, k.2.2⟩)]
theorem wnI_f {r : Rw} {i : Int} (h : ¬ 0 < r (128 + i)) : ru (wnI r i) (128 + i) (r (128 + i) - 0) = wnI r (i + 1) := by
  funext j
  unfold ru wnI
  by_cases e : j = 128 + i
  · rw [if_pos e, if_neg (fun k => h (by have := k.2.2; rw [e] at this; exact this)), e]; omega
  · rw [if_neg e]
    by_cases g : 128 ≤ j ∧ j < 128 + i ∧ 0 < r j
    · rw [if_pos g, if_pos ⟨g.1, by omega, g.2.2⟩]
    · rw [if_neg g, if_neg (fun k => g ⟨k.1, by omega, k.2.2⟩)]
theorem wnI_4 {r : Rw} : ru (wnI r 4) 179 (r 179 + 1) = wn r := by
  funext j
  unfold ru wnI wn
  by_cases e : j = 179
  · rw [if_pos e, if_pos e]
  · rw [if_neg e, if_neg e]
    by_cases g : 128 ≤ j ∧ j < 128 + 4 ∧ 0 < r j
    · rw [if_pos g, if_pos ⟨g.1, by omega, g.2.2⟩]
    · rw [if_neg g, if_neg (fun k => g ⟨k.1, by omega, k.2.2⟩)]
theorem night_x {r : Rw} (hI : Iv r) (h : py r ≠ -1) : tg r ≠ -1 ∧ pon r (tg r) = py r ∧ home (wn r) (py r) ≠ -1 := by
  unfold py at h ⊢
  by_cases e : tg r = -1
  · rw [if_pos e] at h; exact absurd rfl h
  · rw [if_neg e]
    obtain ⟨a, b, c, d, f, g, q⟩ := (ng_iv hI).2 e
    rw [q] at f
    exact ⟨e, rfl, f⟩
theorem night_0 {r : Rw} (hI : Iv r) (h : py r = -1) : ng r = wn r ∧ 0 = rbs (wn r) - rbs r := by
  have e : tg r = -1 := by
    apply Classical.byContradiction
    intro e
    unfold py at h
    rw [if_neg e] at h
    obtain ⟨a, b, c, d, f, g, q⟩ := (ng_iv hI).2 e
    omega
  refine ⟨by unfold ng; rw [if_pos e], ?_⟩
  unfold rbs
  rw [wn_hi _ (by omega) (by omega), wn_hi _ (by omega) (by omega), wn_hi _ (by omega) (by omega), wn_hi _ (by omega) (by omega)]
  omega
theorem night_ng {r : Rw} (hI : Iv r) (h : py r ≠ -1) : ng r = stl (wn r) (py r) := by
  obtain ⟨a, b, c⟩ := night_x hI h
  unfold ng
  rw [if_neg a, b]
theorem night_1 {r : Rw} (hI : Iv r) (h : py r ≠ -1) : rbs (ng r) - rbs r = 1 := by
  obtain ⟨a, b, c⟩ := night_x hI h
  have hp := py_range hI
  have hIw := (ng_iv hI).1
  rw [night_ng hI h]
  obtain ⟨h0, h1, h2, h3, h4⟩ := home_at hIw c
  have e : ∀ j, 132 ≤ j → j < 136 → stl (wn r) (py r) j = r j + (if j = 132 + home (wn r) (py r) / 4 then 1 else 0) := by
    intro j a c
    unfold stl
    rw [if_neg (by omega)]
    by_cases q : j = 132 + home (wn r) (py r) / 4
    · rw [if_pos q, if_pos q, wn_hi _ (by omega) (by omega)]
    · rw [if_neg q, if_neg q, if_neg (by omega), rem_hi hIw ⟨h0, h1⟩ ⟨h2, h3⟩ (by omega), wn_hi _ (by omega) (by omega), Int.add_zero]
  unfold rbs
  rw [e 132 (by omega) (by omega), e 133 (by omega) (by omega), e 134 (by omega) (by omega), e 135 (by omega) (by omega)]
  rcases (show home (wn r) (py r) / 4 = 0 ∨ home (wn r) (py r) / 4 = 1 ∨ home (wn r) (py r) / 4 = 2 ∨ home (wn r) (py r) / 4 = 3 by omega) with q | q | q | q <;> rw [q]
  · rw [if_pos (by decide), if_neg (by decide), if_neg (by decide), if_neg (by decide)]; omega
  · rw [if_neg (by decide), if_pos (by decide), if_neg (by decide), if_neg (by decide)]; omega
  · rw [if_neg (by decide), if_neg (by decide), if_pos (by decide), if_neg (by decide)]; omega
  · rw [if_neg (by decide), if_neg (by decide), if_neg (by decide), if_pos (by decide)]; omega
theorem night_r {r : Rw} (hI : Iv r) (h : py r ≠ -1) : ru (ru (ru (rem (wn r) (home (wn r) (py r)) (plc (wn r) (py r))) (136 + py r) (wn r (136 + py r) + 1)) (132 + home (wn r) (py r) / 4) (wn r (132 + home (wn r) (py r) / 4) + 1)) (128 + home (wn r) (py r) / 4) (wn r 178) = ng r := by
  obtain ⟨_, _, c⟩ := night_x hI h
  have hp := py_range hI
  obtain ⟨h0, h1, h2, h3, h4⟩ := home_at (ng_iv hI).1 c
  rw [night_ng hI h]
  funext j
  unfold ru stl
  by_cases a1 : j = 128 + home (wn r) (py r) / 4
  · rw [if_pos a1, if_neg (by omega), if_neg (by omega), if_pos a1]
  · rw [if_neg a1]
    by_cases a2 : j = 132 + home (wn r) (py r) / 4
    · rw [if_pos a2, if_neg (by omega), if_pos a2, a2]
    · rw [if_neg a2]
      by_cases a3 : j = 136 + py r
      · rw [if_pos a3, if_pos a3, a3]
      · rw [if_neg a3, if_neg a3, if_neg a2, if_neg a1]
theorem ngs_i {r : Rw} {i : Int} (h : 0 ≤ i) : ngs r (i + 1).toNat = ng (ngs r i.toNat) := by
  rw [show (i + 1).toNat = i.toNat + 1 by omega]; rfl
/-- what a trial leaves as it was -/
def FrA (F F' : FF) : Prop := ∀ k, k ≠ 111 → k ≠ 115 → F' k = F k
theorem FrA.refl {F : FF} : FrA F F := fun _ _ _ => rfl
theorem FrA.trans {F G H : FF} (h1 : FrA F G) (h2 : FrA G H) : FrA F H := fun k h g => (h2 k h g).trans (h1 k h g)
theorem cpa_r {F : FF} {r : Rw} (h : F 111 = r) : cpF F 111 115 111 = r := (cpF_k (by decide)).trans h
theorem pb_r {F G : FF} {r : Rw} (h : F 111 = r) (hf : FrW (cpF F 111 115) G) : cpF G 115 111 111 = r := by
  rw [cpF_at, hf 115 (by decide), cpF_at, h]
theorem pb_f {F G : FF} (hf : FrW (cpF F 111 115) G) : FrA F (cpF G 115 111) := fun k a c => by
  rw [cpF_k a, hf k a, cpF_k c]
/-- the worth of a door, without what a line's ending and words bring -/
def bfK (r : Rw) (y : Int) : Int := 4 * (prs r (y / 4) - rh r y) + (sm (fun i => lw r (4 * (y / 4) + i)) 4 - lw r y)
theorem prs_but {r s : Rw} {y : Int} (hy : 0 ≤ y) (h : ∀ i, 0 ≤ i → i < 4 → 4 * (y / 4) + i ≠ y → le s (4 * (y / 4) + i) = le r (4 * (y / 4) + i)) : prs s (y / 4) - rhE r y (le s y) = prs r (y / 4) - rh r y := by
  have e0 := h 0 (by omega) (by omega)
  have e1 := h 1 (by omega) (by omega)
  have e2 := h 2 (by omega) (by omega)
  have e3 := h 3 (by omega) (by omega)
  unfold rh
  rw [rhE_eq, rhE_eq, sm_4, sm_4]
  unfold rhT prs
  rw [show 4 * (y / 4) + 0 = 4 * (y / 4) by omega] at *
  rcases (show y = 4 * (y / 4) ∨ y = 4 * (y / 4) + 1 ∨ y = 4 * (y / 4) + 2 ∨ y = 4 * (y / 4) + 3 by omega) with q | q | q | q
  · rw [e1 (by omega), e2 (by omega), e3 (by omega), if_neg (by omega), if_pos (by omega), if_pos (by omega), if_pos (by omega), if_neg (by omega), if_pos (by omega), if_pos (by omega), if_pos (by omega)]
    rw [← q]
    rw [eqv_comm (le s y), eqv_comm (le s y), eqv_comm (le s y), eqv_comm (le r y), eqv_comm (le r y), eqv_comm (le r y)]
    omega
  · rw [e0 (by omega), e2 (by omega), e3 (by omega), if_pos (by omega), if_neg (by omega), if_pos (by omega), if_pos (by omega), if_pos (by omega), if_neg (by omega), if_pos (by omega), if_pos (by omega)]
    rw [← q]
    rw [eqv_comm (le s y) (le r (4 * (y / 4) + 2)), eqv_comm (le s y) (le r (4 * (y / 4) + 3)), eqv_comm (le r y) (le r (4 * (y / 4) + 2)), eqv_comm (le r y) (le r (4 * (y / 4) + 3))]
    omega
  · rw [e0 (by omega), e1 (by omega), e3 (by omega), if_pos (by omega), if_pos (by omega), if_neg (by omega), if_pos (by omega), if_pos (by omega), if_pos (by omega), if_neg (by omega), if_pos (by omega)]
    rw [← q]
    rw [eqv_comm (le s y) (le r (4 * (y / 4) + 3)), eqv_comm (le r y) (le r (4 * (y / 4) + 3))]
    omega
  · rw [e0 (by omega), e1 (by omega), e2 (by omega), if_pos (by omega), if_pos (by omega), if_pos (by omega), if_neg (by omega), if_pos (by omega), if_pos (by omega), if_pos (by omega), if_neg (by omega)]
    rw [← q]
    omega
theorem ins_le {r : Rw} {x y : Int} (hI : Iv r) (hy : 0 ≤ y ∧ y < 16) (hs : r y < 6) : le (ins r x y (r y)) y = en x := by
  have hq := hI.sz hy.1 hy.2
  have hl : ins r x y (r y) (112 + y) = 0 := by rw [ins_ld hy ⟨hq.1, by omega⟩ hs hy.1 hy.2, if_pos rfl]
  have hz : ins r x y (r y) y = r y + 1 := by rw [ins_sz hy ⟨hq.1, by omega⟩ hy.1 hy.2, if_pos rfl]
  unfold le
  rw [hl, hz, if_neg (by omega), if_neg (by omega)]
  unfold la
  rw [hz, if_neg (by omega), show r y + 1 - 1 = r y by omega, ins_wa hy ⟨hq.1, by omega⟩ hs hy.1 hy.2 hq.1 hs, if_pos rfl]
  rw [if_neg (by omega), if_pos rfl]
theorem ins_le2 {r : Rw} {x y l : Int} (hI : Iv r) (hy : 0 ≤ y ∧ y < 16) (hs : r y < 6) (hl : 0 ≤ l ∧ l < 16) (hd : l / 4 = y / 4) (hne : l ≠ y) : le (ins r x y (r y)) l = le r l := by
  have hq := hI.sz hy.1 hy.2
  have hn : r (112 + l) ≠ y + 1 := by
    intro e
    have := hI.lend hl.1 hl.2 (by omega)
    rw [e] at this
    omega
  have hll : ins r x y (r y) (112 + l) = r (112 + l) := by rw [ins_ld hy ⟨hq.1, by omega⟩ hs hl.1 hl.2, if_neg hne, if_neg (fun k => hn k.1)]
  have hz : ∀ k, 0 ≤ k → k < 16 → k ≠ y → ins r x y (r y) k = r k := fun k a b c => by rw [ins_sz hy ⟨hq.1, by omega⟩ a b, if_neg c]
  have hla : ∀ k, 0 ≤ k → k < 16 → k ≠ y → la (ins r x y (r y)) k = la r k := by
    intro k a b c
    unfold la
    rw [hz k a b c]
    by_cases g : r k = 0
    · rw [if_pos g, if_pos g]
    · have := hI.sz a b
      rw [if_neg g, if_neg g, ins_wa hy ⟨hq.1, by omega⟩ hs a b (by omega) (by omega), if_neg c]
  have hld := hI.ld hl.1 hl.2
  unfold le
  rw [hll, hz l hl.1 hl.2 hne]
  by_cases g : r l = 0
  · rw [if_pos g, if_pos g]
  · rw [if_neg g, if_neg g]
    by_cases g2 : 0 < r (112 + l)
    · rw [if_pos g2, hla _ (by omega) (by omega) (by omega)]
    · rw [if_neg g2, hla _ hl.1 hl.2 hne]
theorem bo_cg {f g : Int → Int} {n : Int} (h : ∀ i, 0 ≤ i → i < n → f i = g i) : bo f n = bo g n := sm_congr (fun i a b => by show bt _ = bt _; rw [h i a b])
theorem hk_cg {f g : Int → Int} {n k : Int} (h : ∀ i, 0 ≤ i → i < n → f i = g i) : hk f k n = hk g k n := an_congr (fun i a b => by show decide _ = decide _; rw [h i a b])
theorem LW_cg {f g : Int → Int} {n : Int} (h : ∀ i, 0 ≤ i → i < n → f i = g i) : LW f n = LW g n := by
  unfold LW
  rw [bo_cg h, hk_cg h, hk_cg h]
theorem dw_ins {r : Rw} {x y : Int} (hI : Iv r) (hx : 0 ≤ x ∧ x < 40) (hh : home r x = -1) (hy : 0 ≤ y ∧ y < 16) (hs : r y < 6) : dw (ins r x y (r y)) (y / 4) = bfK r y + bfV r y x := by
  have hq := hI.sz hy.1 hy.2
  have h1 := prs_but (r := r) (s := ins r x y (r y)) hy.1 (fun i a b c => ins_le2 hI hy hs ⟨by omega, by omega⟩ (by omega) c)
  rw [ins_le hI hy hs] at h1
  have hl : lw (ins r x y (r y)) y = LW (fw r y x) (r y + 1) := by
    unfold lw
    rw [ins_sz hy ⟨hq.1, by omega⟩ hy.1 hy.2, if_pos rfl]
    refine LW_cg (fun p a b => ?_)
    rw [ins_wa hy ⟨hq.1, by omega⟩ hs hy.1 hy.2 a (by omega), if_pos rfl]
    unfold fw
    by_cases g : p < r y
    · rw [if_pos g, if_pos g]
    · rw [if_neg g, if_neg g, if_pos (by omega)]
  have ho : ∀ l, 0 ≤ l → l < 16 → l ≠ y → lw (ins r x y (r y)) l = lw r l := by
    intro l a b c
    have hsl := hI.sz a b
    unfold lw
    rw [ins_sz hy ⟨hq.1, by omega⟩ a b, if_neg c]
    exact LW_cg (fun p a2 b2 => by rw [ins_wa hy ⟨hq.1, by omega⟩ hs a b a2 (by omega), if_neg c])
  have h2 : sm (fun i => lw (ins r x y (r y)) (4 * (y / 4) + i)) 4 = sm (fun i => lw r (4 * (y / 4) + i)) 4 + (lw (ins r x y (r y)) y - lw r y) := by
    have := sm_upd (f := fun i => lw r (4 * (y / 4) + i)) (g := fun i => lw (ins r x y (r y)) (4 * (y / 4) + i)) (k := y - 4 * (y / 4)) (n := 4) (fun i a b c => ho _ (by omega) (by omega) (by omega)) (by omega) (by omega)
    rw [this]
    show _ + (lw _ (4 * (y / 4) + (y - 4 * (y / 4))) - lw _ (4 * (y / 4) + (y - 4 * (y / 4)))) = _
    rw [show 4 * (y / 4) + (y - 4 * (y / 4)) = y by omega]
  unfold dw bfK bfV
  rw [h2, hl]
  omega
/-! saved states -/
theorem ru_a {F : FF} {a : Nat} {i z : Int} : up F a i z a = ru (F a) i z := by
  funext j
  unfold up ru
  by_cases q : j = i
  · rw [if_pos ⟨rfl, q⟩, if_pos q]
  · rw [if_neg (fun g => q g.2), if_neg q]
def shS (s : Rw) (k : Int) : Rw := fun j => if 0 ≤ j ∧ j < k then s (j + 182) else s j
theorem shS_0 {s : Rw} : s = shS s 0 := by
  funext j; unfold shS; rw [if_neg (by omega)]
theorem shS_at {s : Rw} {k : Int} : shS s k (k + 182) = s (k + 182) := by unfold shS; rw [if_neg (by omega)]
theorem shS_s {s : Rw} {k : Int} (h : 0 ≤ k) : ru (shS s k) k (s (k + 182)) = shS s (k + 1) := by
  funext j
  unfold ru shS
  by_cases e : j = k
  · rw [if_pos e, if_pos (by omega), e]
  · rw [if_neg e]
    by_cases g : 0 ≤ j ∧ j < k
    · rw [if_pos g, if_pos (by omega)]
    · rw [if_neg g, if_neg (by omega)]
def cpS (s : Rw) (m : Int) (r : Rw) (k : Int) : Rw := fun j => if 182 * m ≤ j ∧ j < 182 * m + k then r (j - 182 * m) else s j
theorem cpS_0 {s : Rw} {m : Int} {r : Rw} : s = cpS s m r 0 := by
  funext j; unfold cpS; rw [if_neg (by omega)]
theorem cpS_s {s : Rw} {m k : Int} {r : Rw} (h : 0 ≤ k) : ru (cpS s m r k) (182 * m + k) (r k) = cpS s m r (k + 1) := by
  funext j
  unfold ru cpS
  by_cases e : j = 182 * m + k
  · rw [if_pos e, if_pos (by omega), e, show 182 * m + k - 182 * m = k by omega]
  · rw [if_neg e]
    by_cases g : 182 * m ≤ j ∧ j < 182 * m + k
    · rw [if_pos g, if_pos (by omega)]
    · rw [if_neg g, if_neg (by omega)]
def SI (F : FF) (n : Int) (sv : Int → Rw) : Prop := F 110 2 = n ∧ (0 ≤ n ∧ n ≤ 6) ∧ ∀ k, 0 ≤ k → k < n → Iv (sv k) ∧ ∀ j, 0 ≤ j → j < 182 → F 112 (182 * k + j) = sv k j
def FrS (F F' : FF) : Prop := (∀ k, k ≠ 110 → k ≠ 112 → F' k = F k) ∧ ∀ i, i ≠ 2 → F' 110 i = F 110 i
theorem SI_push {F H : FF} {r : Rw} {n m k : Int} {sv : Int → Rw} {s : Rw} (hr : F 111 = r) (hI : Iv r) (hS : SI F n sv) (hc : H 112 = cpS s m r k) (hf : ∀ k, k ≠ 110 → k ≠ 112 → H k = F k) (hg : ∀ i, i ≠ 2 → H 110 i = F 110 i) (hk : k = 182) (hm : (s = F 112 ∧ n < 6 ∧ m = n) ∨ (s = shS (F 112) 910 ∧ m = n - 1 ∧ n = 6)) :
    SI (up H 110 2 (m + 1)) (if n = 6 then 6 else n + 1) (psh n sv r) ∧ up H 110 2 (m + 1) 111 = r ∧ FrS F (up H 110 2 (m + 1)) := by
  obtain ⟨hn, hn0, hv⟩ := hS
  refine ⟨⟨by rw [up_eq]; split <;> omega, by split <;> omega, fun q a c => ?_⟩, by rw [up_k (by decide), hf 111 (by decide) (by decide), hr], fun k a c => by rw [up_k a]; exact hf k a c, fun i a => by rw [up_j a]; exact hg i a⟩
  have hq : q < m + 1 := by split at c <;> omega
  unfold psh
  rw [up_k (by decide), hc, hk]
  rcases hm with ⟨e1, e2, e3⟩ | ⟨e1, e2, e3⟩
  · rw [if_neg (by omega)]
    by_cases g : q = n
    · rw [if_pos g]
      refine ⟨hI, fun j b d => ?_⟩
      unfold cpS
      rw [if_pos (by omega)]
      congr 1; omega
    · rw [if_neg g]
      refine ⟨(hv q a (by omega)).1, fun j b d => ?_⟩
      unfold cpS
      rw [if_neg (by omega), e1]
      exact (hv q a (by omega)).2 j b d
  · rw [if_pos e3]
    by_cases g : q = 5
    · rw [if_pos g]
      refine ⟨hI, fun j b d => ?_⟩
      unfold cpS
      rw [if_pos (by omega)]
      congr 1; omega
    · rw [if_neg g]
      refine ⟨(hv (q + 1) (by omega) (by omega)).1, fun j b d => ?_⟩
      unfold cpS shS at *
      rw [if_neg (by omega), e1]
      show (if _ then _ else _) = _
      rw [if_pos (by omega), ← (hv (q + 1) (by omega) (by omega)).2 j b d]
      congr 1; omega

set_option maxRecDepth 100000 in
set_option maxHeartbeats 4000000 in
theorem k_X4_night (l : Launch) {w : WP} {F : FF} {r : Rw} (hr : F 111 = r) (hI : Iv r)  : Con l yX4_night cX4_night 3 (some .int) 8 w [.ref (adr w 110)] F (QI w (fun z F' => z = rbs (ng r) - rbs r ∧ F' 111 = ng r ∧ FrW F F')) := by
  refine Con.mk (lv := [(0, .ref (adr w 110))]) (by decide) (Nat.le_of_ble_eq_true rfl) rfl ?_
  intro pg ev s0 mi be me co C hz
  obtain ⟨hIw, hng⟩ := ng_iv hI
  refine q_aload_n C 0 dX4_night_0 rfl ?_
  refine q_cI (q_runV (As := []) (rest := []) C (k_X4_preyNow l hr hI ) kd110 (by decide) rfl wd_1048 wd_1047 wd_41 wd_81 wd_1045 nd_X4_preyNow rfl (by decide) ⟨Nat.zero_le _, Nat.zero_le _⟩ rfl (Nat.le_of_ble_eq_true rfl) dX4_night_1) ?_
  rintro z F' ⟨rfl, rfl⟩
  have q1 := py_range hI
  refine q_istore_n (lv' := [(1, .int (iI (py r))), (0, .ref (adr w 110))]) C dX4_night_4 (by decide) rfl ?_
  refine q_iconst C 0 dX4_night_5 ?_
  refine q_istore_n (lv' := [(2, .int (iI 0)), (1, .int (iI (py r))), (0, .ref (adr w 110))]) C dX4_night_6 (by decide) rfl ?_
  refine q_lv (lv' := [(0, .ref (adr w 110)), (1, .int (iI (py r))), (2, .int (iI 0))]) [2, 1, 0] rfl ?_
  refine wf2 (P := fun (i : Int) (G : FF) => Wq pg l ev _ s0 mi _ be me co _ w _ _ _ 7 [(0, .ref (adr w 110)), (1, .int (iI (py r))), (2, .int (iI i))] [] G) (I := fun (i : Int) (G : FF) => 0 ≤ i ∧ i ≤ 4 ∧ G 111 = wnI r i ∧ FrW F G) (μ := fun (i : Int) (G : FF) => (4 - i).toNat) ?_ 0 F (⟨by omega, by omega, by rw [hr]; exact wnI_0, FrW.refl⟩)
  intro i G hI' ih7
  (try dsimp only at hI'); (try dsimp only at ih7); (try dsimp only)
  obtain ⟨hi0, hi1, hG, hGf⟩ := hI'
  refine q_iload_n C 2 dX4_night_7 rfl ?_
  refine q_iconst C 4 dX4_night_8 ?_
  refine q_icmp_ge C 49 dX4_night_9 ⟨by omega, by omega⟩ ⟨by decide, by decide⟩ (by decide) (fun h9 => ?_) (fun h9 => ?_)
  · refine q_aload_n C 0 dX4_night_49 rfl ?_
    refine q_get (T := TX4) (i := 0) C kd110 (by decide) rfl uws4 (by decide) wd_865 rfl dX4_night_50 ?_
    refine q_sipush C 179 dX4_night_53 (by decide) ?_
    refine q_dup2 C dX4_night_56 rfl rfl ?_
    refine q_iald C kd111 ⟨by omega, by rw [ln111]; omega⟩ dX4_night_57 ?_
    refine q_top (z' := r 179) (by rw [hG]; exact wnI_hi (by omega) (by omega)) ?_
    refine q_iconst C 1 dX4_night_58 ?_
    refine q_iadd C dX4_night_59 ?_
    refine q_iast C kd111 ⟨by omega, by rw [ln111]; omega⟩ dX4_night_60 ?_
    have hW : (up G 111 179 ((r 179) + 1)) 111 = wn r := by rw [ru_r hG rfl, show i = 4 by omega]; exact wnI_4
    refine q_iload_n C 1 dX4_night_61 rfl ?_
    refine q_iconst C (-1) dX4_night_62 ?_
    refine q_icmp_ne C 68 dX4_night_63 ⟨by omega, by omega⟩ ⟨by decide, by decide⟩ (by decide) (fun h63 => ?_) (fun h63 => ?_)
    · obtain ⟨htg, hpe, hhn⟩ := night_x hI (by omega)
      obtain ⟨hh0, hh1, hh2, hh3, hh4⟩ := home_at hIw hhn
      refine q_aload_n C 0 dX4_night_68 rfl ?_
      refine q_iload_n C 1 dX4_night_69 rfl ?_
      refine q_cI (q_runV (As := [.int (iI (py r))]) (rest := []) C (k_X4_lineOfWord l hW hIw (x := py r) ⟨by omega, by omega⟩) kd110 (by decide) rfl wd_944 wd_943 wd_24 wd_81 wd_941 nd_X4_lineOfWord rfl (by decide) ⟨Nat.zero_le _, Nat.zero_le _⟩ rfl (Nat.le_of_ble_eq_true rfl) dX4_night_70) ?_
      rintro z F' ⟨rfl, rfl⟩
      have q70 := home_range (wn r) (py r)
      refine q_istore_n (lv' := [(2, .int (iI (home (wn r) (py r)))), (0, .ref (adr w 110)), (1, .int (iI (py r)))]) C dX4_night_73 (by decide) rfl ?_
      refine q_aload_n C 1 dX4_night_74 rfl ?_
      refine q_iload_n C 0 dX4_night_75 rfl ?_
      refine q_aload_n C 1 dX4_night_76 rfl ?_
      refine q_iload_n C 2 dX4_night_77 rfl ?_
      refine q_cI (q_runV (As := [.int (iI (py r))]) (rest := [.int (iI (home (wn r) (py r))), .ref (adr w 110)]) C (k_X4_placeOfWord l hW hIw (x := py r) ⟨by omega, by omega⟩) kd110 (by decide) rfl wd_993 wd_992 wd_33 wd_81 wd_990 nd_X4_placeOfWord rfl (by decide) ⟨Nat.zero_le _, Nat.zero_le _⟩ rfl (Nat.le_of_ble_eq_true rfl) dX4_night_78) ?_
      rintro z F' ⟨rfl, rfl⟩
      have q78 := plc_range hIw (x := py r)
      refine q_cV (q_runV (As := [.int (iI (home (wn r) (py r))), .int (iI (plc (wn r) (py r)))]) (rest := []) C (k_X4_removeAt (F := (up G 111 179 ((r 179) + 1))) l hW hIw (y := home (wn r) (py r)) (q := plc (wn r) (py r)) ⟨by omega, by omega⟩ ⟨by omega, by omega⟩) kd110 (by decide) rfl wd_997 wd_996 wd_34 wd_81 wd_994 nd_X4_removeAt rfl (by decide) ⟨Nat.zero_le _, Nat.zero_le _⟩ rfl (Nat.le_of_ble_eq_true rfl) dX4_night_81) ?_
      rintro G1 ⟨hEG1, hfG1⟩
      have hIG1 := rem_iv hIw (y := home (wn r) (py r)) (q := plc (wn r) (py r)) ⟨by omega, by omega⟩ ⟨by omega, by omega⟩
      refine q_aload_n C 1 dX4_night_84 rfl ?_
      refine q_get (T := TX4) (i := 0) C kd110 (by decide) rfl uws4 (by decide) wd_865 rfl dX4_night_85 ?_
      refine q_sipush C 136 dX4_night_88 (by decide) ?_
      refine q_iload_n C 2 dX4_night_91 rfl ?_
      refine q_iadd C dX4_night_92 ?_
      refine q_dup2 C dX4_night_93 rfl rfl ?_
      refine q_iald C kd111 ⟨by omega, by rw [ln111]; omega⟩ dX4_night_94 ?_
      refine q_top (z' := wn r (136 + (py r))) (by rw [hEG1]; (try simp (disch := omega) only [ru_ne]); exact rem_hi hIw ⟨by omega, by omega⟩ ⟨by omega, by omega⟩ (by omega)) ?_
      refine q_iconst C 1 dX4_night_95 ?_
      refine q_iadd C dX4_night_96 ?_
      refine q_iast C kd111 ⟨by omega, by rw [ln111]; omega⟩ dX4_night_97 ?_
      refine q_aload_n C 1 dX4_night_98 rfl ?_
      refine q_get (T := TX4) (i := 0) C kd110 (by decide) rfl uws4 (by decide) wd_865 rfl dX4_night_99 ?_
      refine q_sipush C 132 dX4_night_102 (by decide) ?_
      refine q_iload_n C 0 dX4_night_105 rfl ?_
      refine q_iconst C 4 dX4_night_106 ?_
      refine q_idiv C dX4_night_107 ⟨by omega, by omega⟩ ⟨by decide, by decide⟩ ?_
      refine q_iadd C dX4_night_108 ?_
      refine q_dup2 C dX4_night_109 rfl rfl ?_
      refine q_iald C kd111 ⟨by omega, by rw [ln111]; omega⟩ dX4_night_110 ?_
      refine q_top (z' := wn r (132 + ((home (wn r) (py r)) / 4))) (by rw [(ru_r hEG1 (by omega : 136 + (py r) = 136 + (py r)))]; (try simp (disch := omega) only [ru_ne]); exact rem_hi hIw ⟨by omega, by omega⟩ ⟨by omega, by omega⟩ (by omega)) ?_
      refine q_iconst C 1 dX4_night_111 ?_
      refine q_iadd C dX4_night_112 ?_
      refine q_iast C kd111 ⟨by omega, by rw [ln111]; omega⟩ dX4_night_113 ?_
      refine q_aload_n C 1 dX4_night_114 rfl ?_
      refine q_get (T := TX4) (i := 0) C kd110 (by decide) rfl uws4 (by decide) wd_865 rfl dX4_night_115 ?_
      refine q_sipush C 128 dX4_night_118 (by decide) ?_
      refine q_iload_n C 0 dX4_night_121 rfl ?_
      refine q_iconst C 4 dX4_night_122 ?_
      refine q_idiv C dX4_night_123 ⟨by omega, by omega⟩ ⟨by decide, by decide⟩ ?_
      refine q_iadd C dX4_night_124 ?_
      refine q_aload_n C 1 dX4_night_125 rfl ?_
      refine q_get (T := TX4) (i := 0) C kd110 (by decide) rfl uws4 (by decide) wd_865 rfl dX4_night_126 ?_
      refine q_sipush C 178 dX4_night_129 (by decide) ?_
      refine q_iald C kd111 ⟨by omega, by rw [ln111]; omega⟩ dX4_night_132 ?_
      refine q_top (z' := wn r (178)) (by rw [(ru_r (ru_r hEG1 (by omega : 136 + (py r) = 136 + (py r))) (by omega : 132 + ((home (wn r) (py r)) / 4) = 132 + ((home (wn r) (py r)) / 4)))]; (try simp (disch := omega) only [ru_ne]); exact rem_hi hIw ⟨by omega, by omega⟩ ⟨by omega, by omega⟩ (by omega)) ?_
      refine q_iast C kd111 ⟨by omega, by rw [ln111]; omega⟩ dX4_night_133 ?_
      refine q_iconst C 1 dX4_night_134 ?_
      refine q_iret C dX4_night_135 ?_
      exact ⟨(night_1 hI (by omega)).symm, by rw [(ru_r (ru_r (ru_r hEG1 (by omega : 136 + (py r) = 136 + (py r))) (by omega : 132 + ((home (wn r) (py r)) / 4) = 132 + ((home (wn r) (py r)) / 4))) (by omega : 128 + ((home (wn r) (py r)) / 4) = 128 + ((home (wn r) (py r)) / 4)))]; exact night_r hI (by omega), (FrW.up (FrW.up (FrW.up (FrW.trans (FrW.up hGf) hfG1))))⟩
    · refine q_iconst C 0 dX4_night_66 ?_
      refine q_iret C dX4_night_67 ?_
      exact ⟨by rw [(night_0 hI (by omega)).1]; exact (night_0 hI (by omega)).2, by rw [(night_0 hI (by omega)).1]; exact hW, (FrW.up hGf)⟩
  · refine q_aload_n C 0 dX4_night_12 rfl ?_
    refine q_get (T := TX4) (i := 0) C kd110 (by decide) rfl uws4 (by decide) wd_865 rfl dX4_night_13 ?_
    refine q_sipush C 128 dX4_night_16 (by decide) ?_
    refine q_iload_n C 2 dX4_night_19 rfl ?_
    refine q_iadd C dX4_night_20 ?_
    refine q_dup2 C dX4_night_21 rfl rfl ?_
    refine q_iald C kd111 ⟨by omega, by rw [ln111]; omega⟩ dX4_night_22 ?_
    refine q_top (z' := r (128 + i)) (by rw [hG]; exact wnI_at (by omega)) ?_
    have qwt := hI.wt (d := i) (by omega) (by omega)
    refine q_aload_n C 0 dX4_night_23 rfl ?_
    refine q_get (T := TX4) (i := 0) C kd110 (by decide) rfl uws4 (by decide) wd_865 rfl dX4_night_24 ?_
    refine q_sipush C 128 dX4_night_27 (by decide) ?_
    refine q_iload_n C 2 dX4_night_30 rfl ?_
    refine q_iadd C dX4_night_31 ?_
    refine q_iald C kd111 ⟨by omega, by rw [ln111]; omega⟩ dX4_night_32 ?_
    refine q_top (z' := r (128 + i)) (by rw [hG]; exact wnI_at (by omega)) ?_
    have qwt := hI.wt (d := i) (by omega) (by omega)
    refine q_if_le C 40 dX4_night_33 ⟨by omega, by omega⟩  (by decide) (fun h33 => ?_) (fun h33 => ?_)
    · refine q_iconst C 0 dX4_night_40 ?_
      refine q_isub C dX4_night_41 ?_
      refine q_iast C kd111 ⟨by omega, by rw [ln111]; omega⟩ dX4_night_42 ?_
      refine q_iinc (lv' := [(2, .int (iI (i + 1))), (0, .ref (adr w 110)), (1, .int (iI (py r)))]) C 2 dX4_night_43 rfl (by decide) rfl ?_
      refine q_goto C 7 dX4_night_46 (by decide) ?_
      refine q_lv (lv' := [(0, .ref (adr w 110)), (1, .int (iI (py r))), (2, .int (iI (i + 1)))]) [1, 2, 0] rfl ?_
      exact ih7 (i + 1) (up G 111 (128 + i) ((r (128 + i)) - 0)) (⟨by omega, by omega, by rw [ru_r hG rfl]; first | exact wnI_t hi0 (by omega) | exact wnI_f (by omega), FrW.up hGf⟩) (by omega)
    · refine q_iconst C 1 dX4_night_36 ?_
      refine q_goto C 41 dX4_night_37 (by decide) ?_
      refine q_isub C dX4_night_41 ?_
      refine q_iast C kd111 ⟨by omega, by rw [ln111]; omega⟩ dX4_night_42 ?_
      refine q_iinc (lv' := [(2, .int (iI (i + 1))), (0, .ref (adr w 110)), (1, .int (iI (py r)))]) C 2 dX4_night_43 rfl (by decide) rfl ?_
      refine q_goto C 7 dX4_night_46 (by decide) ?_
      refine q_lv (lv' := [(0, .ref (adr w 110)), (1, .int (iI (py r))), (2, .int (iI (i + 1)))]) [1, 2, 0] rfl ?_
      exact ih7 (i + 1) (up G 111 (128 + i) ((r (128 + i)) - 1)) (⟨by omega, by omega, by rw [ru_r hG rfl]; first | exact wnI_t hi0 (by omega) | exact wnI_f (by omega), FrW.up hGf⟩) (by omega)

set_option maxRecDepth 100000 in
set_option maxHeartbeats 4000000 in
theorem k_X4_nights (l : Launch) {w : WP} {F : FF} {r : Rw} {x : Int} (hr : F 111 = r) (hI : Iv r) (hx : inR x) : Con l yX4_nights cX4_nights 4 (some .int) 9 w [.ref (adr w 110), .int (iI x)] F (QI w (fun z F' => z = rbs (ngs r x.toNat) - rbs r ∧ F' 111 = ngs r x.toNat ∧ FrW F F')) := by
  refine Con.mk (lv := [(0, .ref (adr w 110)), (1, .int (iI x))]) (by decide) (Nat.le_of_ble_eq_true rfl) rfl ?_
  intro pg ev s0 mi be me co C hz
  refine q_iconst C 0 dX4_nights_0 ?_
  refine q_istore_n (lv' := [(2, .int (iI 0)), (0, .ref (adr w 110)), (1, .int (iI x))]) C dX4_nights_1 (by decide) rfl ?_
  refine q_iconst C 0 dX4_nights_2 ?_
  refine q_istore_n (lv' := [(3, .int (iI 0)), (2, .int (iI 0)), (0, .ref (adr w 110)), (1, .int (iI x))]) C dX4_nights_3 (by decide) rfl ?_
  refine q_lv (lv' := [(0, .ref (adr w 110)), (1, .int (iI x)), (2, .int (iI 0)), (3, .int (iI 0))]) [2, 3, 1, 0] rfl ?_
  refine wf3 (P := fun (i : Int) (n : Int) (G : FF) => Wq pg l ev _ s0 mi _ be me co _ w _ _ _ 4 [(0, .ref (adr w 110)), (1, .int (iI x)), (2, .int (iI n)), (3, .int (iI i))] [] G) (I := fun (i : Int) (n : Int) (G : FF) => 0 ≤ i ∧ (i = 0 ∨ i ≤ x) ∧ n = rbs (ngs r i.toNat) - rbs r ∧ G 111 = ngs r i.toNat ∧ FrW F G) (μ := fun (i : Int) (n : Int) (G : FF) => (x - i).toNat) ?_ 0 0 F (⟨by omega, by omega, by show 0 = rbs r - rbs r; omega, hr, FrW.refl⟩)
  intro i n G hI' ih4
  (try dsimp only at hI'); (try dsimp only at ih4); (try dsimp only)
  obtain ⟨hi0, hi1, hn, hG, hGf⟩ := hI'
  have hIs := (ngs_iv hI i.toNat).1
  refine q_iload_n C 3 dX4_nights_4 rfl ?_
  refine q_iload_n C 1 dX4_nights_5 rfl ?_
  refine q_icmp_ge C 22 dX4_nights_6 ⟨by omega, by omega⟩ ⟨by omega, by omega⟩ (by decide) (fun h6 => ?_) (fun h6 => ?_)
  · refine q_iload_n C 2 dX4_nights_22 rfl ?_
    refine q_iret C dX4_nights_23 ?_
    exact ⟨by rw [show x.toNat = i.toNat by omega]; exact hn, by rw [show x.toNat = i.toNat by omega]; exact hG, hGf⟩
  · refine q_iload_n C 2 dX4_nights_9 rfl ?_
    refine q_aload_n C 0 dX4_nights_10 rfl ?_
    refine q_cI (q_runV (As := []) (rest := [.int (iI n)]) C (k_X4_night (F := G) l hG hIs) kd110 (by decide) rfl wd_1044 wd_1043 wd_40 wd_81 wd_1041 nd_X4_night rfl (by decide) ⟨Nat.zero_le _, Nat.zero_le _⟩ rfl (Nat.le_of_ble_eq_true rfl) dX4_nights_11) ?_
    rintro z G1 ⟨rfl, hEG1, hfG1⟩
    refine q_iadd C dX4_nights_14 ?_
    refine q_istore_n (lv' := [(2, .int (iI (n + (rbs (ng (ngs r i.toNat)) - rbs (ngs r i.toNat))))), (0, .ref (adr w 110)), (1, .int (iI x)), (3, .int (iI i))]) C dX4_nights_15 (by decide) rfl ?_
    refine q_iinc (lv' := [(3, .int (iI (i + 1))), (2, .int (iI (n + (rbs (ng (ngs r i.toNat)) - rbs (ngs r i.toNat))))), (0, .ref (adr w 110)), (1, .int (iI x))]) C 3 dX4_nights_16 rfl (by decide) rfl ?_
    refine q_goto C 4 dX4_nights_19 (by decide) ?_
    refine q_lv (lv' := [(0, .ref (adr w 110)), (1, .int (iI x)), (2, .int (iI (n + (rbs (ng (ngs r i.toNat)) - rbs (ngs r i.toNat))))), (3, .int (iI (i + 1)))]) [2, 3, 1, 0] rfl ?_
    exact ih4 (i + 1) (n + (rbs (ng (ngs r i.toNat)) - rbs (ngs r i.toNat))) G1 (⟨by omega, by omega, by rw [ngs_i hi0]; omega, by rw [ngs_i hi0]; exact hEG1, FrW.trans hGf hfG1⟩) (by omega)

set_option maxRecDepth 100000 in
set_option maxHeartbeats 4000000 in
theorem k_X4_putAside (l : Launch) {w : WP} {F : FF}  : Con l yX4_putAside cX4_putAside 2 none 0 w [.ref (adr w 110)] F (QV w (fun F' => F' = cpF F 111 115)) := by
  refine Con.mk (lv := [(0, .ref (adr w 110))]) (by decide) (Nat.le_of_ble_eq_true rfl) rfl ?_
  intro pg ev s0 mi be me co C hz
  refine q_iconst C 0 dX4_putAside_0 ?_
  refine q_istore_n (lv' := [(1, .int (iI 0)), (0, .ref (adr w 110))]) C dX4_putAside_1 (by decide) rfl ?_
  refine q_lv (lv' := [(0, .ref (adr w 110)), (1, .int (iI 0))]) [1, 0] rfl ?_
  refine wf2 (P := fun (i : Int) (G : FF) => Wq pg l ev _ s0 mi _ be me co _ w _ _ _ 2 [(0, .ref (adr w 110)), (1, .int (iI i))] [] G) (I := fun (i : Int) (G : FF) => 0 ≤ i ∧ i ≤ 182 ∧ G = fun k j => if k = 115 ∧ 0 ≤ j ∧ j < i then F 111 j else F k j) (μ := fun (i : Int) (G : FF) => (182 - i).toNat) ?_ 0 F (⟨by omega, by omega, by funext k j; rw [if_neg (by omega)]⟩)
  intro i G hI' ih2
  (try dsimp only at hI'); (try dsimp only at ih2); (try dsimp only)
  obtain ⟨hi0, hi1, hG⟩ := hI'
  refine q_iload_n C 1 dX4_putAside_2 rfl ?_
  refine q_sipush C 182 dX4_putAside_3 (by decide) ?_
  refine q_icmp_ge C 27 dX4_putAside_6 ⟨by omega, by omega⟩ ⟨by decide, by decide⟩ (by decide) (fun h6 => ?_) (fun h6 => ?_)
  · refine q_vret C dX4_putAside_27 ?_
    rw [hG]; exact cp_end (a := 111) (b := 115) rfl (by rw [ln111]; omega) hz
  · refine q_aload_n C 0 dX4_putAside_9 rfl ?_
    refine q_get (T := TX4) (i := 5) C kd110 (by decide) rfl uws4 (by decide) wd_870 rfl dX4_putAside_10 ?_
    refine q_iload_n C 1 dX4_putAside_13 rfl ?_
    refine q_aload_n C 0 dX4_putAside_14 rfl ?_
    refine q_get (T := TX4) (i := 0) C kd110 (by decide) rfl uws4 (by decide) wd_865 rfl dX4_putAside_15 ?_
    refine q_iload_n C 1 dX4_putAside_18 rfl ?_
    refine q_iald C kd111 ⟨by omega, by rw [ln111]; omega⟩ dX4_putAside_19 ?_
    refine q_iast C kd115 ⟨by omega, by rw [ln115]; omega⟩ dX4_putAside_20 ?_
    refine q_iinc (lv' := [(1, .int (iI (i + 1))), (0, .ref (adr w 110))]) C 1 dX4_putAside_21 rfl (by decide) rfl ?_
    refine q_goto C 2 dX4_putAside_24 (by decide) ?_
    refine q_lv (lv' := [(0, .ref (adr w 110)), (1, .int (iI (i + 1)))]) [1, 0] rfl ?_
    exact ih2 (i + 1) (up G 115 i (G 111 i)) (⟨by omega, by omega, by rw [hG]; exact cp_step (a := 111) (b := 115) rfl ⟨by omega, by rw [ln111]; omega⟩⟩) (by omega)

set_option maxRecDepth 100000 in
set_option maxHeartbeats 4000000 in
theorem k_X4_putBack (l : Launch) {w : WP} {F : FF}  : Con l yX4_putBack cX4_putBack 2 none 0 w [.ref (adr w 110)] F (QV w (fun F' => F' = cpF F 115 111)) := by
  refine Con.mk (lv := [(0, .ref (adr w 110))]) (by decide) (Nat.le_of_ble_eq_true rfl) rfl ?_
  intro pg ev s0 mi be me co C hz
  refine q_iconst C 0 dX4_putBack_0 ?_
  refine q_istore_n (lv' := [(1, .int (iI 0)), (0, .ref (adr w 110))]) C dX4_putBack_1 (by decide) rfl ?_
  refine q_lv (lv' := [(0, .ref (adr w 110)), (1, .int (iI 0))]) [1, 0] rfl ?_
  refine wf2 (P := fun (i : Int) (G : FF) => Wq pg l ev _ s0 mi _ be me co _ w _ _ _ 2 [(0, .ref (adr w 110)), (1, .int (iI i))] [] G) (I := fun (i : Int) (G : FF) => 0 ≤ i ∧ i ≤ 182 ∧ G = fun k j => if k = 111 ∧ 0 ≤ j ∧ j < i then F 115 j else F k j) (μ := fun (i : Int) (G : FF) => (182 - i).toNat) ?_ 0 F (⟨by omega, by omega, by funext k j; rw [if_neg (by omega)]⟩)
  intro i G hI' ih2
  (try dsimp only at hI'); (try dsimp only at ih2); (try dsimp only)
  obtain ⟨hi0, hi1, hG⟩ := hI'
  refine q_iload_n C 1 dX4_putBack_2 rfl ?_
  refine q_sipush C 182 dX4_putBack_3 (by decide) ?_
  refine q_icmp_ge C 27 dX4_putBack_6 ⟨by omega, by omega⟩ ⟨by decide, by decide⟩ (by decide) (fun h6 => ?_) (fun h6 => ?_)
  · refine q_vret C dX4_putBack_27 ?_
    rw [hG]; exact cp_end (a := 115) (b := 111) rfl (by rw [ln115]; omega) hz
  · refine q_aload_n C 0 dX4_putBack_9 rfl ?_
    refine q_get (T := TX4) (i := 0) C kd110 (by decide) rfl uws4 (by decide) wd_865 rfl dX4_putBack_10 ?_
    refine q_iload_n C 1 dX4_putBack_13 rfl ?_
    refine q_aload_n C 0 dX4_putBack_14 rfl ?_
    refine q_get (T := TX4) (i := 5) C kd110 (by decide) rfl uws4 (by decide) wd_870 rfl dX4_putBack_15 ?_
    refine q_iload_n C 1 dX4_putBack_18 rfl ?_
    refine q_iald C kd115 ⟨by omega, by rw [ln115]; omega⟩ dX4_putBack_19 ?_
    refine q_iast C kd111 ⟨by omega, by rw [ln111]; omega⟩ dX4_putBack_20 ?_
    refine q_iinc (lv' := [(1, .int (iI (i + 1))), (0, .ref (adr w 110))]) C 1 dX4_putBack_21 rfl (by decide) rfl ?_
    refine q_goto C 2 dX4_putBack_24 (by decide) ?_
    refine q_lv (lv' := [(0, .ref (adr w 110)), (1, .int (iI (i + 1)))]) [1, 0] rfl ?_
    exact ih2 (i + 1) (up G 111 i (G 115 i)) (⟨by omega, by omega, by rw [hG]; exact cp_step (a := 115) (b := 111) rfl ⟨by omega, by rw [ln115]; omega⟩⟩) (by omega)

set_option maxRecDepth 100000 in
set_option maxHeartbeats 4000000 in
theorem k_X4_worthWith (l : Launch) {w : WP} {F : FF} {r : Rw} {x y : Int} (hr : F 111 = r) (hI : Iv r) (hx : 0 ≤ x ∧ x < 40) (hh : home r x = -1) (hy : 0 ≤ y ∧ y < 16) (hs : r y < 6) : Con l yX4_worthWith cX4_worthWith 4 (some .int) 6 w [.ref (adr w 110), .int (iI x), .int (iI y)] F (QI w (fun z F' => z = dw (ins r x y (r y)) (y / 4) ∧ F' 111 = r ∧ FrA F F')) := by
  refine Con.mk (lv := [(0, .ref (adr w 110)), (1, .int (iI x)), (2, .int (iI y))]) (by decide) (Nat.le_of_ble_eq_true rfl) rfl ?_
  intro pg ev s0 mi be me co C hz
  refine q_aload_n C 0 dX4_worthWith_0 rfl ?_
  refine q_cV (q_runV (As := []) (rest := []) C (k_X4_putAside (F := F) l) kd110 (by decide) rfl wd_1234 wd_1233 wd_69 wd_81 wd_1231 nd_X4_putAside rfl (by decide) ⟨Nat.zero_le _, Nat.zero_le _⟩ rfl (Nat.le_of_ble_eq_true rfl) dX4_worthWith_1) ?_
  rintro F9 hF9
  subst hF9
  refine q_aload_n C 0 dX4_worthWith_4 rfl ?_
  refine q_iload_n C 1 dX4_worthWith_5 rfl ?_
  refine q_iload_n C 2 dX4_worthWith_6 rfl ?_
  refine q_aload_n C 0 dX4_worthWith_7 rfl ?_
  refine q_get (T := TX4) (i := 0) C kd110 (by decide) rfl uws4 (by decide) wd_865 rfl dX4_worthWith_8 ?_
  refine q_iconst C 0 dX4_worthWith_11 ?_
  refine q_iload_n C 2 dX4_worthWith_12 rfl ?_
  refine q_iadd C dX4_worthWith_13 ?_
  refine q_iald C kd111 ⟨by omega, by rw [ln111]; omega⟩ dX4_worthWith_14 ?_
  refine q_top (z' := r y) (by rw [(cpa_r hr), Int.zero_add]) ?_
  have q_0 := hI.sz (l := y) (by omega) (by omega)
  refine q_cV (q_runV (As := [.int (iI x), .int (iI y), .int (iI (r y))]) (rest := []) C (k_X4_insert (F := (cpF F 111 115)) l (cpa_r hr) hI (x := x) (y := y) (p := r y) ⟨by omega, by omega⟩ (by first | assumption | omega) ⟨by omega, by omega⟩ ⟨by omega, by omega⟩ (by omega)) kd110 (by decide) rfl wd_977 wd_976 wd_30 wd_81 wd_974 nd_X4_insert rfl (by decide) ⟨Nat.zero_le _, Nat.zero_le _⟩ rfl (Nat.le_of_ble_eq_true rfl) dX4_worthWith_15) ?_
  rintro G2 ⟨hEG2, hfG2⟩
  have hIG2 := ins_iv hI (x := x) (y := y) (q := r y) ⟨by omega, by omega⟩ (by first | assumption | omega) ⟨by omega, by omega⟩ ⟨by omega, by omega⟩ (by omega)
  refine q_aload_n C 0 dX4_worthWith_18 rfl ?_
  refine q_iload_n C 2 dX4_worthWith_19 rfl ?_
  refine q_iconst C 4 dX4_worthWith_20 ?_
  refine q_idiv C dX4_worthWith_21 ⟨by omega, by omega⟩ ⟨by decide, by decide⟩ ?_
  refine q_cI (q_runV (As := [.int (iI (y / 4))]) (rest := []) C (k_X4_doorWorth l hEG2 hIG2 (d := y / 4) ⟨by omega, by omega⟩) kd110 (by decide) rfl wd_1060 wd_1059 wd_44 wd_81 wd_1057 nd_X4_doorWorth rfl (by decide) ⟨Nat.zero_le _, Nat.zero_le _⟩ rfl (Nat.le_of_ble_eq_true rfl) dX4_worthWith_22) ?_
  rintro z F' ⟨rfl, rfl⟩
  have q22 := dw_range hIG2 (d := y / 4) (by omega) (by omega)
  refine q_istore_n (lv' := [(3, .int (iI (dw (ins r x y (r y)) (y / 4)))), (0, .ref (adr w 110)), (1, .int (iI x)), (2, .int (iI y))]) C dX4_worthWith_25 (by decide) rfl ?_
  refine q_aload_n C 1 dX4_worthWith_26 rfl ?_
  refine q_cV (q_runV (As := []) (rest := []) C (k_X4_putBack (F := G2) l) kd110 (by decide) rfl wd_1238 wd_1237 wd_70 wd_81 wd_1235 nd_X4_putBack rfl (by decide) ⟨Nat.zero_le _, Nat.zero_le _⟩ rfl (Nat.le_of_ble_eq_true rfl) dX4_worthWith_27) ?_
  rintro F9 hF9
  subst hF9
  refine q_iload_n C 0 dX4_worthWith_30 rfl ?_
  refine q_iret C dX4_worthWith_31 ?_
  exact ⟨rfl, pb_r hr (FrW.trans FrW.refl hfG2), pb_f (FrW.trans FrW.refl hfG2)⟩

set_option maxRecDepth 100000 in
set_option maxHeartbeats 4000000 in
theorem k_X4_bestFor (l : Launch) {w : WP} {F : FF} {r : Rw} {y : Int} (hr : F 111 = r) (hI : Iv r) (hl : 0 ≤ y ∧ y < 16) : Con l yX4_bestFor cX4_bestFor 6 (some .int) 7 w [.ref (adr w 110), .int (iI y)] F (QI w (fun z F' => z = bf r y ∧ F' 111 = r ∧ FrA F F')) := by
  refine Con.mk (lv := [(0, .ref (adr w 110)), (1, .int (iI y))]) (by decide) (Nat.le_of_ble_eq_true rfl) rfl ?_
  intro pg ev s0 mi be me co C hz
  refine q_iconst C (-1) dX4_bestFor_0 ?_
  refine q_istore_n (lv' := [(2, .int (iI (-1))), (0, .ref (adr w 110)), (1, .int (iI y))]) C dX4_bestFor_1 (by decide) rfl ?_
  refine q_iconst C (-1) dX4_bestFor_2 ?_
  refine q_istore_n (lv' := [(3, .int (iI (-1))), (2, .int (iI (-1))), (0, .ref (adr w 110)), (1, .int (iI y))]) C dX4_bestFor_3 (by decide) rfl ?_
  refine q_iconst C 0 dX4_bestFor_4 ?_
  refine q_istore (lv' := [(4, .int (iI 0)), (3, .int (iI (-1))), (2, .int (iI (-1))), (0, .ref (adr w 110)), (1, .int (iI y))]) C dX4_bestFor_5 (by decide) rfl ?_
  refine q_lv (lv' := [(0, .ref (adr w 110)), (1, .int (iI y)), (2, .int (iI (-1))), (3, .int (iI (-1))), (4, .int (iI 0))]) [3, 4, 2, 1, 0] rfl ?_
  refine wf4 (P := fun (i : Int) (b : Int) (t : Int) (G : FF) => Wq pg l ev _ s0 mi _ be me co _ w _ _ _ 7 [(0, .ref (adr w 110)), (1, .int (iI y)), (2, .int (iI b)), (3, .int (iI t)), (4, .int (iI i))] [] G) (I := fun (i : Int) (b : Int) (t : Int) (G : FF) => 0 ≤ i ∧ i ≤ 40 ∧ b = bfI r y i ∧ (b = -1 ∧ t = -1 ∨ 0 ≤ b ∧ b < 40 ∧ t = bfK r y + bfV r y b) ∧ -1 ≤ t ∧ t ≤ 128 ∧ G 111 = r ∧ FrA F G) (μ := fun (i : Int) (b : Int) (t : Int) (G : FF) => (40 - i).toNat) ?_ 0 (-1) (-1) F (⟨by omega, by omega, rfl, Or.inl ⟨rfl, rfl⟩, by omega, by omega, hr, FrA.refl⟩)
  intro i b t G hI' ih7
  (try dsimp only at hI'); (try dsimp only at ih7); (try dsimp only)
  obtain ⟨hi0, hi1, hb, hbt, ht0, ht1, hG, hGf⟩ := hI'
  refine q_iload C 4 dX4_bestFor_7 rfl ?_
  refine q_bipush C 40 dX4_bestFor_9 (by decide) ?_
  refine q_icmp_ge C 83 dX4_bestFor_11 ⟨by omega, by omega⟩ ⟨by decide, by decide⟩ (by decide) (fun h11 => ?_) (fun h11 => ?_)
  · refine q_iload_n C 2 dX4_bestFor_83 rfl ?_
    refine q_iret C dX4_bestFor_84 ?_
    exact ⟨by rw [hb]; exact bf_eq (by omega), hG, hGf⟩
  · refine q_aload_n C 0 dX4_bestFor_14 rfl ?_
    refine q_iload C 4 dX4_bestFor_15 rfl ?_
    refine q_cI (q_runV (As := [.int (iI i)]) (rest := []) C (k_X4_lineOfWord l hG hI (x := i) ⟨by omega, by omega⟩) kd110 (by decide) rfl wd_944 wd_943 wd_24 wd_81 wd_941 nd_X4_lineOfWord rfl (by decide) ⟨Nat.zero_le _, Nat.zero_le _⟩ rfl (Nat.le_of_ble_eq_true rfl) dX4_bestFor_17) ?_
    rintro z F' ⟨rfl, rfl⟩
    have q17 := home_range r i
    refine q_iconst C (-1) dX4_bestFor_20 ?_
    refine q_icmp_ne C 77 dX4_bestFor_21 ⟨by omega, by omega⟩ ⟨by decide, by decide⟩ (by decide) (fun h21 => ?_) (fun h21 => ?_)
    · refine q_iinc (lv' := [(4, .int (iI (i + 1))), (0, .ref (adr w 110)), (1, .int (iI y)), (2, .int (iI b)), (3, .int (iI t))]) C 4 dX4_bestFor_77 rfl (by decide) rfl ?_
      refine q_goto C 7 dX4_bestFor_80 (by decide) ?_
      refine q_lv (lv' := [(0, .ref (adr w 110)), (1, .int (iI y)), (2, .int (iI b)), (3, .int (iI t)), (4, .int (iI (i + 1)))]) [1, 2, 3, 4, 0] rfl ?_
      exact ih7 (i + 1) b t G (⟨by omega, by omega, by rw [bfI_s hi0, if_neg (by omega)]; exact hb, by omega, by omega, by omega, hG, hGf⟩) (by omega)
    · refine q_aload_n C 0 dX4_bestFor_24 rfl ?_
      refine q_iload C 4 dX4_bestFor_25 rfl ?_
      refine q_iload_n C 1 dX4_bestFor_27 rfl ?_
      refine q_aload_n C 0 dX4_bestFor_28 rfl ?_
      refine q_get (T := TX4) (i := 0) C kd110 (by decide) rfl uws4 (by decide) wd_865 rfl dX4_bestFor_29 ?_
      refine q_iconst C 0 dX4_bestFor_32 ?_
      refine q_iload_n C 1 dX4_bestFor_33 rfl ?_
      refine q_iadd C dX4_bestFor_34 ?_
      refine q_iald C kd111 ⟨by omega, by rw [ln111]; omega⟩ dX4_bestFor_35 ?_
      refine q_top (z' := r y) (by rw [hG, Int.zero_add]) ?_
      have q_0 := hI.sz (l := y) (by omega) (by omega)
      refine q_cI (q_runV (As := [.int (iI i), .int (iI y), .int (iI (r y))]) (rest := []) C (k_X4_reason l hG hI (x := i) (y := y) (p := r y) ⟨by omega, by omega⟩ ⟨by omega, by omega⟩ ⟨by omega, by omega⟩) kd110 (by decide) rfl wd_956 wd_955 wd_27 wd_81 wd_953 nd_X4_reason rfl (by decide) ⟨Nat.zero_le _, Nat.zero_le _⟩ rfl (Nat.le_of_ble_eq_true rfl) dX4_bestFor_36) ?_
      rintro z F' ⟨rfl, rfl⟩
      have q36 := rea_range r i y (r y)
      refine q_if_ne C 77 dX4_bestFor_39 ⟨by omega, by omega⟩  (by decide) (fun h39 => ?_) (fun h39 => ?_)
      · refine q_iinc (lv' := [(4, .int (iI (i + 1))), (0, .ref (adr w 110)), (1, .int (iI y)), (2, .int (iI b)), (3, .int (iI t))]) C 4 dX4_bestFor_77 rfl (by decide) rfl ?_
        refine q_goto C 7 dX4_bestFor_80 (by decide) ?_
        refine q_lv (lv' := [(0, .ref (adr w 110)), (1, .int (iI y)), (2, .int (iI b)), (3, .int (iI t)), (4, .int (iI (i + 1)))]) [1, 2, 3, 4, 0] rfl ?_
        exact ih7 (i + 1) b t G (⟨by omega, by omega, by rw [bfI_s hi0, if_neg (by omega)]; exact hb, by omega, by omega, by omega, hG, hGf⟩) (by omega)
      · have qlt := rea_lt hI (l := y) ⟨by omega, by omega⟩ (by assumption)
        refine q_aload_n C 0 dX4_bestFor_42 rfl ?_
        refine q_iload C 4 dX4_bestFor_43 rfl ?_
        refine q_iload_n C 1 dX4_bestFor_45 rfl ?_
        refine q_cI (q_runV (As := [.int (iI i), .int (iI y)]) (rest := []) C (k_X4_worthWith (F := G) l hG hI (x := i) (y := y) ⟨by omega, by omega⟩ (by assumption) ⟨by omega, by omega⟩ (by omega)) kd110 (by decide) rfl wd_1230 wd_1229 wd_68 wd_81 wd_1227 nd_X4_worthWith rfl (by decide) ⟨Nat.zero_le _, Nat.zero_le _⟩ rfl (Nat.le_of_ble_eq_true rfl) dX4_bestFor_46) ?_
        rintro z G2 ⟨rfl, hEG2, hfG2⟩
        have qw0 := dw_range (ins_iv hI (x := i) (y := y) (q := r y) ⟨by omega, by omega⟩ (by assumption) ⟨by omega, by omega⟩ ⟨by omega, by omega⟩ (by omega)) (d := y / 4) (by omega) (by omega)
        have qw1 := dw_ins hI (x := i) (y := y) ⟨by omega, by omega⟩ (by assumption) ⟨by omega, by omega⟩ (by omega)
        refine q_istore (lv' := [(5, .int (iI (dw (ins r i y (r y)) (y / 4)))), (0, .ref (adr w 110)), (1, .int (iI y)), (2, .int (iI b)), (3, .int (iI t)), (4, .int (iI i))]) C dX4_bestFor_49 (by decide) rfl ?_
        refine q_iload C 0 dX4_bestFor_51 rfl ?_
        refine q_iload_n C 4 dX4_bestFor_53 rfl ?_
        refine q_icmp_le C 62 dX4_bestFor_54 ⟨by omega, by omega⟩ ⟨by omega, by omega⟩ (by decide) (fun h54 => ?_) (fun h54 => ?_)
        · refine q_iload_n C 3 dX4_bestFor_62 rfl ?_
          refine q_istore_n (lv' := [(2, .int (iI b)), (5, .int (iI (dw (ins r i y (r y)) (y / 4)))), (0, .ref (adr w 110)), (1, .int (iI y)), (3, .int (iI t)), (4, .int (iI i))]) C dX4_bestFor_63 (by decide) rfl ?_
          refine q_iload C 1 dX4_bestFor_64 rfl ?_
          refine q_iload_n C 4 dX4_bestFor_66 rfl ?_
          refine q_icmp_le C 75 dX4_bestFor_67 ⟨by omega, by omega⟩ ⟨by omega, by omega⟩ (by decide) (fun h67 => ?_) (fun h67 => ?_)
          · refine q_iload_n C 4 dX4_bestFor_75 rfl ?_
            refine q_istore_n (lv' := [(3, .int (iI t)), (2, .int (iI b)), (5, .int (iI (dw (ins r i y (r y)) (y / 4)))), (0, .ref (adr w 110)), (1, .int (iI y)), (4, .int (iI i))]) C dX4_bestFor_76 (by decide) rfl ?_
            refine q_iinc (lv' := [(4, .int (iI (i + 1))), (3, .int (iI t)), (2, .int (iI b)), (5, .int (iI (dw (ins r i y (r y)) (y / 4)))), (0, .ref (adr w 110)), (1, .int (iI y))]) C 5 dX4_bestFor_77 rfl (by decide) rfl ?_
            refine q_goto C 7 dX4_bestFor_80 (by decide) ?_
            refine q_lv (lv' := [(0, .ref (adr w 110)), (1, .int (iI y)), (2, .int (iI b)), (3, .int (iI t)), (4, .int (iI (i + 1)))]) [4, 5, 2, 1, 0] rfl ?_
            exact ih7 (i + 1) b t G2 (⟨by omega, by omega, by first | (exfalso; omega) | (rw [bfI_s hi0, ← hb, if_pos ⟨by assumption, by assumption, by omega⟩]; done) | (rw [bfI_s hi0, ← hb, if_neg (by omega)]; done), by omega, by omega, by omega, hEG2, (FrA.trans hGf hfG2)⟩) (by omega)
          · refine q_iload C 1 dX4_bestFor_70 rfl ?_
            refine q_goto C 76 dX4_bestFor_72 (by decide) ?_
            refine q_istore_n (lv' := [(3, .int (iI (dw (ins r i y (r y)) (y / 4)))), (2, .int (iI b)), (5, .int (iI (dw (ins r i y (r y)) (y / 4)))), (0, .ref (adr w 110)), (1, .int (iI y)), (4, .int (iI i))]) C dX4_bestFor_76 (by decide) rfl ?_
            refine q_iinc (lv' := [(4, .int (iI (i + 1))), (3, .int (iI (dw (ins r i y (r y)) (y / 4)))), (2, .int (iI b)), (5, .int (iI (dw (ins r i y (r y)) (y / 4)))), (0, .ref (adr w 110)), (1, .int (iI y))]) C 5 dX4_bestFor_77 rfl (by decide) rfl ?_
            refine q_goto C 7 dX4_bestFor_80 (by decide) ?_
            refine q_lv (lv' := [(0, .ref (adr w 110)), (1, .int (iI y)), (2, .int (iI b)), (3, .int (iI (dw (ins r i y (r y)) (y / 4)))), (4, .int (iI (i + 1)))]) [4, 5, 2, 1, 0] rfl ?_
            exact ih7 (i + 1) b (dw (ins r i y (r y)) (y / 4)) G2 (⟨by omega, by omega, by first | (exfalso; omega) | (rw [bfI_s hi0, ← hb, if_pos ⟨by assumption, by assumption, by omega⟩]; done) | (rw [bfI_s hi0, ← hb, if_neg (by omega)]; done), by omega, by omega, by omega, hEG2, (FrA.trans hGf hfG2)⟩) (by omega)
        · refine q_iload C 5 dX4_bestFor_57 rfl ?_
          refine q_goto C 63 dX4_bestFor_59 (by decide) ?_
          refine q_istore_n (lv' := [(2, .int (iI i)), (5, .int (iI (dw (ins r i y (r y)) (y / 4)))), (0, .ref (adr w 110)), (1, .int (iI y)), (3, .int (iI t)), (4, .int (iI i))]) C dX4_bestFor_63 (by decide) rfl ?_
          refine q_iload C 1 dX4_bestFor_64 rfl ?_
          refine q_iload_n C 4 dX4_bestFor_66 rfl ?_
          refine q_icmp_le C 75 dX4_bestFor_67 ⟨by omega, by omega⟩ ⟨by omega, by omega⟩ (by decide) (fun h67 => ?_) (fun h67 => ?_)
          · refine q_iload_n C 4 dX4_bestFor_75 rfl ?_
            refine q_istore_n (lv' := [(3, .int (iI t)), (2, .int (iI i)), (5, .int (iI (dw (ins r i y (r y)) (y / 4)))), (0, .ref (adr w 110)), (1, .int (iI y)), (4, .int (iI i))]) C dX4_bestFor_76 (by decide) rfl ?_
            refine q_iinc (lv' := [(4, .int (iI (i + 1))), (3, .int (iI t)), (2, .int (iI i)), (5, .int (iI (dw (ins r i y (r y)) (y / 4)))), (0, .ref (adr w 110)), (1, .int (iI y))]) C 5 dX4_bestFor_77 rfl (by decide) rfl ?_
            refine q_goto C 7 dX4_bestFor_80 (by decide) ?_
            refine q_lv (lv' := [(0, .ref (adr w 110)), (1, .int (iI y)), (2, .int (iI i)), (3, .int (iI t)), (4, .int (iI (i + 1)))]) [4, 5, 2, 1, 0] rfl ?_
            exact ih7 (i + 1) i t G2 (⟨by omega, by omega, by first | (exfalso; omega) | (rw [bfI_s hi0, ← hb, if_pos ⟨by assumption, by assumption, by omega⟩]; done) | (rw [bfI_s hi0, ← hb, if_neg (by omega)]; done), by omega, by omega, by omega, hEG2, (FrA.trans hGf hfG2)⟩) (by omega)
          · refine q_iload C 1 dX4_bestFor_70 rfl ?_
            refine q_goto C 76 dX4_bestFor_72 (by decide) ?_
            refine q_istore_n (lv' := [(3, .int (iI (dw (ins r i y (r y)) (y / 4)))), (2, .int (iI i)), (5, .int (iI (dw (ins r i y (r y)) (y / 4)))), (0, .ref (adr w 110)), (1, .int (iI y)), (4, .int (iI i))]) C dX4_bestFor_76 (by decide) rfl ?_
            refine q_iinc (lv' := [(4, .int (iI (i + 1))), (3, .int (iI (dw (ins r i y (r y)) (y / 4)))), (2, .int (iI i)), (5, .int (iI (dw (ins r i y (r y)) (y / 4)))), (0, .ref (adr w 110)), (1, .int (iI y))]) C 5 dX4_bestFor_77 rfl (by decide) rfl ?_
            refine q_goto C 7 dX4_bestFor_80 (by decide) ?_
            refine q_lv (lv' := [(0, .ref (adr w 110)), (1, .int (iI y)), (2, .int (iI i)), (3, .int (iI (dw (ins r i y (r y)) (y / 4)))), (4, .int (iI (i + 1)))]) [4, 5, 2, 1, 0] rfl ?_
            exact ih7 (i + 1) i (dw (ins r i y (r y)) (y / 4)) G2 (⟨by omega, by omega, by first | (exfalso; omega) | (rw [bfI_s hi0, ← hb, if_pos ⟨by assumption, by assumption, by omega⟩]; done) | (rw [bfI_s hi0, ← hb, if_neg (by omega)]; done), by omega, by omega, by omega, hEG2, (FrA.trans hGf hfG2)⟩) (by omega)

set_option maxRecDepth 100000 in
set_option maxHeartbeats 4000000 in
theorem k_X4_worthBehind (l : Launch) {w : WP} {F : FF} {r : Rw} {x d : Int} (hr : F 111 = r) (hI : Iv r) (hx : 0 ≤ x ∧ x ≤ 1000) (hd : 0 ≤ d ∧ d < 4) : Con l yX4_worthBehind cX4_worthBehind 5 (some .int) 10 w [.ref (adr w 110), .int (iI x), .int (iI d)] F (QI w (fun z F' => z = dw (ngs r x.toNat) d ∧ F' 111 = r ∧ FrA F F')) := by
  refine Con.mk (lv := [(0, .ref (adr w 110)), (1, .int (iI x)), (2, .int (iI d))]) (by decide) (Nat.le_of_ble_eq_true rfl) rfl ?_
  intro pg ev s0 mi be me co C hz
  refine q_aload_n C 0 dX4_worthBehind_0 rfl ?_
  refine q_cV (q_runV (As := []) (rest := []) C (k_X4_putAside (F := F) l) kd110 (by decide) rfl wd_1234 wd_1233 wd_69 wd_81 wd_1231 nd_X4_putAside rfl (by decide) ⟨Nat.zero_le _, Nat.zero_le _⟩ rfl (Nat.le_of_ble_eq_true rfl) dX4_worthBehind_1) ?_
  rintro F9 hF9
  subst hF9
  refine q_aload_n C 0 dX4_worthBehind_4 rfl ?_
  refine q_iload_n C 1 dX4_worthBehind_5 rfl ?_
  refine q_cI (q_runV (As := [.int (iI x)]) (rest := []) C (k_X4_nights (F := (cpF F 111 115)) l (cpa_r hr) hI (x := x) ⟨by omega, by omega⟩) kd110 (by decide) rfl wd_1040 wd_1039 wd_39 wd_81 wd_1037 nd_X4_nights rfl (by decide) ⟨Nat.zero_le _, Nat.zero_le _⟩ rfl (Nat.le_of_ble_eq_true rfl) dX4_worthBehind_6) ?_
  rintro z G1 ⟨rfl, hEG1, hfG1⟩
  have hIG1 := (ngs_iv hI (x : Int).toNat).1
  refine q_istore_n (lv' := [(3, .int (iI (rbs (ngs r (x : Int).toNat) - rbs r))), (0, .ref (adr w 110)), (1, .int (iI x)), (2, .int (iI d))]) C dX4_worthBehind_9 (by decide) rfl ?_
  refine q_aload_n C 1 dX4_worthBehind_10 rfl ?_
  refine q_iload_n C 3 dX4_worthBehind_11 rfl ?_
  refine q_cI (q_runV (As := [.int (iI d)]) (rest := []) C (k_X4_doorWorth l hEG1 hIG1 (d := d) ⟨by omega, by omega⟩) kd110 (by decide) rfl wd_1060 wd_1059 wd_44 wd_81 wd_1057 nd_X4_doorWorth rfl (by decide) ⟨Nat.zero_le _, Nat.zero_le _⟩ rfl (Nat.le_of_ble_eq_true rfl) dX4_worthBehind_12) ?_
  rintro z F' ⟨rfl, rfl⟩
  have q12 := dw_range hIG1 (d := d) (by omega) (by omega)
  refine q_istore (lv' := [(4, .int (iI (dw (ngs r (x : Int).toNat) d))), (3, .int (iI (rbs (ngs r (x : Int).toNat) - rbs r))), (0, .ref (adr w 110)), (1, .int (iI x)), (2, .int (iI d))]) C dX4_worthBehind_15 (by decide) rfl ?_
  refine q_aload_n C 2 dX4_worthBehind_17 rfl ?_
  refine q_cV (q_runV (As := []) (rest := []) C (k_X4_putBack (F := G1) l) kd110 (by decide) rfl wd_1238 wd_1237 wd_70 wd_81 wd_1235 nd_X4_putBack rfl (by decide) ⟨Nat.zero_le _, Nat.zero_le _⟩ rfl (Nat.le_of_ble_eq_true rfl) dX4_worthBehind_18) ?_
  rintro F9 hF9
  subst hF9
  refine q_iload C 0 dX4_worthBehind_21 rfl ?_
  refine q_iret C dX4_worthBehind_23 ?_
  exact ⟨rfl, pb_r hr (FrW.trans FrW.refl hfG1), pb_f (FrW.trans FrW.refl hfG1)⟩

set_option maxRecDepth 100000 in
set_option maxHeartbeats 4000000 in
theorem k_X4_save (l : Launch) {w : WP} {F : FF} {r : Rw} {n : Int} {sv : Int → Rw} (hr : F 111 = r) (hI : Iv r) (hS : SI F n sv) : Con l yX4_save cX4_save 2 none 0 w [.ref (adr w 110)] F (QV w (fun F' => SI F' (if n = 6 then 6 else n + 1) (psh n sv r) ∧ F' 111 = r ∧ FrS F F')) := by
  refine Con.mk (lv := [(0, .ref (adr w 110))]) (by decide) (Nat.le_of_ble_eq_true rfl) rfl ?_
  intro pg ev s0 mi be me co C hz
  have hn := hS.2.1
  refine q_aload_n C 0 dX4_save_0 rfl ?_
  refine q_get (T := TX4) (i := 2) C kd110 (by decide) rfl uws4 (by decide) wd_867 rfl dX4_save_1 ?_
  refine q_top (z' := n) (by rw [hS.1]) ?_
  refine q_bipush C 6 dX4_save_4 (by decide) ?_
  refine q_icmp_ne C 50 dX4_save_6 ⟨by omega, by omega⟩ ⟨by decide, by decide⟩ (by decide) (fun h6 => ?_) (fun h6 => ?_)
  · refine q_iconst C 0 dX4_save_50 ?_
    refine q_istore_n (lv' := [(1, .int (iI 0)), (0, .ref (adr w 110))]) C dX4_save_51 (by decide) rfl ?_
    refine q_lv (lv' := [(0, .ref (adr w 110)), (1, .int (iI 0))]) [1, 0] rfl ?_
    refine wf2 (P := fun (j : Int) (H : FF) => Wq pg l ev _ s0 mi _ be me co _ w _ _ _ 52 [(0, .ref (adr w 110)), (1, .int (iI j))] [] H) (I := fun (j : Int) (H : FF) => 0 ≤ j ∧ j ≤ 182 ∧ H 110 2 = n ∧ H 112 = cpS (F 112) n r j ∧ (∀ k, k ≠ 110 → k ≠ 112 → H k = F k) ∧ (∀ i, i ≠ 2 → H 110 i = F 110 i)) (μ := fun (j : Int) (H : FF) => (182 - j).toNat) ?_ 0 F (⟨by omega, by omega, hS.1, cpS_0, fun k _ _ => rfl, fun i _ => rfl⟩)
    intro j H hI' ih52
    (try dsimp only at hI'); (try dsimp only at ih52); (try dsimp only)
    obtain ⟨hj0, hj1, hHn, hHc, hHf, hHg⟩ := hI'
    refine q_iload_n C 1 dX4_save_52 rfl ?_
    refine q_sipush C 182 dX4_save_53 (by decide) ?_
    refine q_icmp_ge C 86 dX4_save_56 ⟨by omega, by omega⟩ ⟨by decide, by decide⟩ (by decide) (fun h56 => ?_) (fun h56 => ?_)
    · refine q_aload_n C 0 dX4_save_86 rfl ?_
      refine q_dup C dX4_save_87 rfl ?_
      refine q_get (T := TX4) (i := 2) C kd110 (by decide) rfl uws4 (by decide) wd_867 rfl dX4_save_88 ?_
      refine q_top (z' := n) (by rw [hHn]) ?_
      refine q_iconst C 1 dX4_save_91 ?_
      refine q_iadd C dX4_save_92 ?_
      refine q_put (T := TX4) (tyX := tyX4) (i := 2) (j := 2) (z := (n + 1)) (ty := .int) C rfl kd110 (by decide) rfl uws4 tyX4_ok nmX4 (by decide) (kd_ln.2.2.2.2 kd110) wd_867 rfl rfl rfl rfl (fsS_4_2 w _ _ _) (Nat.le_of_ble_eq_true rfl) dX4_save_93 ?_
      refine q_vret C dX4_save_96 ?_
      exact SI_push hr hI hS hHc hHf hHg (by omega) (Or.inl ⟨rfl, by omega⟩)
    · refine q_aload_n C 0 dX4_save_59 rfl ?_
      refine q_get (T := TX4) (i := 1) C kd110 (by decide) rfl uws4 (by decide) wd_866 rfl dX4_save_60 ?_
      refine q_sipush C 182 dX4_save_63 (by decide) ?_
      refine q_aload_n C 0 dX4_save_66 rfl ?_
      refine q_get (T := TX4) (i := 2) C kd110 (by decide) rfl uws4 (by decide) wd_867 rfl dX4_save_67 ?_
      refine q_top (z' := n) (by rw [hHn]) ?_
      refine q_imul C dX4_save_70 ?_
      refine q_iload_n C 1 dX4_save_71 rfl ?_
      refine q_iadd C dX4_save_72 ?_
      refine q_aload_n C 0 dX4_save_73 rfl ?_
      refine q_get (T := TX4) (i := 0) C kd110 (by decide) rfl uws4 (by decide) wd_865 rfl dX4_save_74 ?_
      refine q_iload_n C 1 dX4_save_77 rfl ?_
      refine q_iald C kd111 ⟨by omega, by rw [ln111]; omega⟩ dX4_save_78 ?_
      refine q_top (z' := r (j)) (by rw [hHf 111 (by decide) (by decide), hr]) ?_
      refine q_iast C kd112 ⟨by omega, by rw [ln112]; omega⟩ dX4_save_79 ?_
      refine q_iinc (lv' := [(1, .int (iI (j + 1))), (0, .ref (adr w 110))]) C 1 dX4_save_80 rfl (by decide) rfl ?_
      refine q_goto C 52 dX4_save_83 (by decide) ?_
      refine q_lv (lv' := [(0, .ref (adr w 110)), (1, .int (iI (j + 1)))]) [1, 0] rfl ?_
      exact ih52 (j + 1) (up H 112 ((182 * n) + j) (r (j))) (⟨by omega, by omega, by rw [up_k (by decide)]; exact hHn, by rw [ru_a, hHc]; exact cpS_s (by omega), fun k a c => by rw [up_k c]; exact hHf k a c, fun i a => by rw [up_k (by decide)]; exact hHg i a⟩) (by omega)
  · refine q_iconst C 0 dX4_save_9 ?_
    refine q_istore_n (lv' := [(1, .int (iI 0)), (0, .ref (adr w 110))]) C dX4_save_10 (by decide) rfl ?_
    refine q_lv (lv' := [(0, .ref (adr w 110)), (1, .int (iI 0))]) [1, 0] rfl ?_
    refine wf2 (P := fun (k : Int) (G : FF) => Wq pg l ev _ s0 mi _ be me co _ w _ _ _ 11 [(0, .ref (adr w 110)), (1, .int (iI k))] [] G) (I := fun (k : Int) (G : FF) => 0 ≤ k ∧ k ≤ 910 ∧ G 112 = shS (F 112) k ∧ (∀ q, q ≠ 112 → G q = F q)) (μ := fun (k : Int) (G : FF) => (910 - k).toNat) ?_ 0 F (⟨by omega, by omega, shS_0, fun q _ => rfl⟩)
    intro k G hI' ih11
    (try dsimp only at hI'); (try dsimp only at ih11); (try dsimp only)
    obtain ⟨hk0, hk1, hG, hGf⟩ := hI'
    refine q_iload_n C 1 dX4_save_11 rfl ?_
    refine q_sipush C 910 dX4_save_12 (by decide) ?_
    refine q_icmp_ge C 40 dX4_save_15 ⟨by omega, by omega⟩ ⟨by decide, by decide⟩ (by decide) (fun h15 => ?_) (fun h15 => ?_)
    · refine q_aload_n C 0 dX4_save_40 rfl ?_
      refine q_dup C dX4_save_41 rfl ?_
      refine q_get (T := TX4) (i := 2) C kd110 (by decide) rfl uws4 (by decide) wd_867 rfl dX4_save_42 ?_
      refine q_top (z' := n) (by rw [hGf 110 (by decide), hS.1]) ?_
      refine q_iconst C 1 dX4_save_45 ?_
      refine q_isub C dX4_save_46 ?_
      refine q_put (T := TX4) (tyX := tyX4) (i := 2) (j := 2) (z := (n - 1)) (ty := .int) C rfl kd110 (by decide) rfl uws4 tyX4_ok nmX4 (by decide) (kd_ln.2.2.2.2 kd110) wd_867 rfl rfl rfl rfl (fsS_4_2 w _ _ _) (Nat.le_of_ble_eq_true rfl) dX4_save_47 ?_
      refine q_iconst C 0 dX4_save_50 ?_
      refine q_istore_n (lv' := [(1, .int (iI 0)), (0, .ref (adr w 110))]) C dX4_save_51 (by decide) rfl ?_
      refine q_lv (lv' := [(0, .ref (adr w 110)), (1, .int (iI 0))]) [1, 0] rfl ?_
      refine wf2 (P := fun (j : Int) (H : FF) => Wq pg l ev _ s0 mi _ be me co _ w _ _ _ 52 [(0, .ref (adr w 110)), (1, .int (iI j))] [] H) (I := fun (j : Int) (H : FF) => 0 ≤ j ∧ j ≤ 182 ∧ H 110 2 = (n - 1) ∧ H 112 = cpS (shS (F 112) 910) (n - 1) r j ∧ (∀ k, k ≠ 110 → k ≠ 112 → H k = F k) ∧ (∀ i, i ≠ 2 → H 110 i = F 110 i)) (μ := fun (j : Int) (H : FF) => (182 - j).toNat) ?_ 0 (up G 110 2 (n - 1)) (⟨by omega, by omega, by rw [up_eq], by rw [up_k (by decide), hG, show k = 910 by omega]; exact cpS_0, fun q a c => by rw [up_k a]; exact hGf q c, fun i a => by rw [up_j a, hGf 110 (by decide)]⟩)
      intro j H hI' ih52
      (try dsimp only at hI'); (try dsimp only at ih52); (try dsimp only)
      obtain ⟨hj0, hj1, hHn, hHc, hHf, hHg⟩ := hI'
      refine q_iload_n C 1 dX4_save_52 rfl ?_
      refine q_sipush C 182 dX4_save_53 (by decide) ?_
      refine q_icmp_ge C 86 dX4_save_56 ⟨by omega, by omega⟩ ⟨by decide, by decide⟩ (by decide) (fun h56 => ?_) (fun h56 => ?_)
      · refine q_aload_n C 0 dX4_save_86 rfl ?_
        refine q_dup C dX4_save_87 rfl ?_
        refine q_get (T := TX4) (i := 2) C kd110 (by decide) rfl uws4 (by decide) wd_867 rfl dX4_save_88 ?_
        refine q_top (z' := n - 1) (by rw [hHn]) ?_
        refine q_iconst C 1 dX4_save_91 ?_
        refine q_iadd C dX4_save_92 ?_
        refine q_put (T := TX4) (tyX := tyX4) (i := 2) (j := 2) (z := ((n - 1) + 1)) (ty := .int) C rfl kd110 (by decide) rfl uws4 tyX4_ok nmX4 (by decide) (kd_ln.2.2.2.2 kd110) wd_867 rfl rfl rfl rfl (fsS_4_2 w _ _ _) (Nat.le_of_ble_eq_true rfl) dX4_save_93 ?_
        refine q_vret C dX4_save_96 ?_
        exact SI_push hr hI hS hHc hHf hHg (by omega) (Or.inr ⟨rfl, rfl, by omega⟩)
      · refine q_aload_n C 0 dX4_save_59 rfl ?_
        refine q_get (T := TX4) (i := 1) C kd110 (by decide) rfl uws4 (by decide) wd_866 rfl dX4_save_60 ?_
        refine q_sipush C 182 dX4_save_63 (by decide) ?_
        refine q_aload_n C 0 dX4_save_66 rfl ?_
        refine q_get (T := TX4) (i := 2) C kd110 (by decide) rfl uws4 (by decide) wd_867 rfl dX4_save_67 ?_
        refine q_top (z' := n - 1) (by rw [hHn]) ?_
        refine q_imul C dX4_save_70 ?_
        refine q_iload_n C 1 dX4_save_71 rfl ?_
        refine q_iadd C dX4_save_72 ?_
        refine q_aload_n C 0 dX4_save_73 rfl ?_
        refine q_get (T := TX4) (i := 0) C kd110 (by decide) rfl uws4 (by decide) wd_865 rfl dX4_save_74 ?_
        refine q_iload_n C 1 dX4_save_77 rfl ?_
        refine q_iald C kd111 ⟨by omega, by rw [ln111]; omega⟩ dX4_save_78 ?_
        refine q_top (z' := r (j)) (by rw [hHf 111 (by decide) (by decide), hr]) ?_
        refine q_iast C kd112 ⟨by omega, by rw [ln112]; omega⟩ dX4_save_79 ?_
        refine q_iinc (lv' := [(1, .int (iI (j + 1))), (0, .ref (adr w 110))]) C 1 dX4_save_80 rfl (by decide) rfl ?_
        refine q_goto C 52 dX4_save_83 (by decide) ?_
        refine q_lv (lv' := [(0, .ref (adr w 110)), (1, .int (iI (j + 1)))]) [1, 0] rfl ?_
        exact ih52 (j + 1) (up H 112 ((182 * (n - 1)) + j) (r (j))) (⟨by omega, by omega, by rw [up_k (by decide)]; exact hHn, by rw [ru_a, hHc]; exact cpS_s (by omega), fun k a c => by rw [up_k c]; exact hHf k a c, fun i a => by rw [up_k (by decide)]; exact hHg i a⟩) (by omega)
    · refine q_aload_n C 0 dX4_save_18 rfl ?_
      refine q_get (T := TX4) (i := 1) C kd110 (by decide) rfl uws4 (by decide) wd_866 rfl dX4_save_19 ?_
      refine q_iload_n C 1 dX4_save_22 rfl ?_
      refine q_aload_n C 0 dX4_save_23 rfl ?_
      refine q_get (T := TX4) (i := 1) C kd110 (by decide) rfl uws4 (by decide) wd_866 rfl dX4_save_24 ?_
      refine q_iload_n C 1 dX4_save_27 rfl ?_
      refine q_sipush C 182 dX4_save_28 (by decide) ?_
      refine q_iadd C dX4_save_31 ?_
      refine q_iald C kd112 ⟨by omega, by rw [ln112]; omega⟩ dX4_save_32 ?_
      refine q_top (z' := F 112 (k + 182)) (by rw [hG]; exact shS_at) ?_
      refine q_iast C kd112 ⟨by omega, by rw [ln112]; omega⟩ dX4_save_33 ?_
      refine q_iinc (lv' := [(1, .int (iI (k + 1))), (0, .ref (adr w 110))]) C 1 dX4_save_34 rfl (by decide) rfl ?_
      refine q_goto C 11 dX4_save_37 (by decide) ?_
      refine q_lv (lv' := [(0, .ref (adr w 110)), (1, .int (iI (k + 1)))]) [1, 0] rfl ?_
      exact ih11 (k + 1) (up G 112 k (F 112 (k + 182))) (⟨by omega, by omega, by rw [ru_a, hG]; exact shS_s hk0, fun q a => by rw [up_k a]; exact hGf q a⟩) (by omega)
