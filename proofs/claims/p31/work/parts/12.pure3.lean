/-! what follows of Iv -/
section IVF
variable {r : Rw}
theorem Iv.sz (h : Iv r) {l : Int} (h0 : 0 ≤ l) (h1 : l < 16) : 0 ≤ r l ∧ r l ≤ 6 := h.1 l h0 h1
theorem Iv.wd (h : Iv r) {l p : Int} (h0 : 0 ≤ l) (h1 : l < 16) (h2 : 0 ≤ p) (h3 : p < r l) : 0 ≤ wa r l p ∧ wa r l p < 40 := h.2.1 l p h0 h1 h2 h3
theorem Iv.inj (h : Iv r) {l p l' p' : Int} (h0 : 0 ≤ l) (h1 : l < 16) (h2 : 0 ≤ p) (h3 : p < r l) (g0 : 0 ≤ l') (g1 : l' < 16) (g2 : 0 ≤ p') (g3 : p' < r l') (e : wa r l p = wa r l' p') : l = l' ∧ p = p' := h.2.2.1 l p l' p' h0 h1 h2 h3 g0 g1 g2 g3 e
theorem Iv.ze (h : Iv r) {l p : Int} (h0 : 0 ≤ l) (h1 : l < 16) (h2 : r l ≤ p) (h3 : p < 6) : wa r l p = 0 := h.2.2.2.1 l p h0 h1 h2 h3
theorem Iv.ld (h : Iv r) {l : Int} (h0 : 0 ≤ l) (h1 : l < 16) : 0 ≤ r (112 + l) ∧ r (112 + l) ≤ 16 := h.2.2.2.2.1 l h0 h1
theorem Iv.lend (h : Iv r) {l : Int} (h0 : 0 ≤ l) (h1 : l < 16) (h2 : 0 < r (112 + l)) : 0 < r l ∧ 0 < r (r (112 + l) - 1) ∧ (r (112 + l) - 1) / 4 ≠ l / 4 ∧ r (112 + (r (112 + l) - 1)) = 0 := h.2.2.2.2.2.1 l h0 h1 h2
theorem Iv.one (h : Iv r) {l l' : Int} (h0 : 0 ≤ l) (h1 : l < 16) (g0 : 0 ≤ l') (g1 : l' < 16) (e : r (112 + l) = r (112 + l')) (h2 : 0 < r (112 + l)) : l = l' := h.2.2.2.2.2.2.1 l l' h0 h1 g0 g1 e h2
theorem Iv.wt (h : Iv r) {d : Int} (h0 : 0 ≤ d) (h1 : d < 4) : 0 ≤ r (128 + d) ∧ r (128 + d) ≤ 9 := h.2.2.2.2.2.2.2.1 d h0 h1
theorem Iv.se (h : Iv r) : 0 ≤ r 176 ∧ r 176 ≤ 1 ∧ 0 ≤ r 177 ∧ r 177 ≤ 200 ∧ 0 ≤ r 178 ∧ r 178 ≤ 9 := h.2.2.2.2.2.2.2.2.1
theorem Iv.cn (h : Iv r) : cnt r = bg r := h.2.2.2.2.2.2.2.2.2.1
theorem Iv.zr (h : Iv r) {j : Int} (hj : ¬ (0 ≤ j ∧ j < 182)) : r j = 0 := h.2.2.2.2.2.2.2.2.2.2 j hj
theorem Iv.room (h : Iv r) {l p : Int} (h0 : 0 ≤ l) (h1 : l < 16) (h2 : 0 ≤ p) (h3 : p < r l) : p < 6 := by
  have := (h.sz h0 h1).2
  omega
theorem pl_range (h : Iv r) {l x : Int} (h0 : 0 ≤ l) (h1 : l < 16) : -1 ≤ pl r l x ∧ pl r l x < r l := by
  exact fs_range _ (h.sz h0 h1).1
theorem pl_is (h : Iv r) {l p x : Int} (h0 : 0 ≤ l) (h1 : l < 16) (h2 : 0 ≤ p) (h3 : p < r l) (e : wa r l p = x) : pl r l x = p := by
  refine fs_is h2 h3 (by simp [e]) (fun i i0 i1 => ?_)
  simp only [decide_eq_false_iff_not]
  intro e2
  have := (h.inj h0 h1 i0 (by omega) h0 h1 h2 h3 (e2.trans e.symm)).2
  omega
theorem pl_at (h : Iv r) {l x : Int} (h0 : 0 ≤ l) (h1 : l < 16) (hp : pl r l x ≠ -1) : 0 ≤ pl r l x ∧ pl r l x < r l ∧ wa r l (pl r l x) = x := by
  rcases fs_spec (fun p => decide (wa r l p = x)) (h.sz h0 h1).1 with ⟨a, -⟩ | ⟨a, b, c, -⟩
  · exact absurd a hp
  · exact ⟨a, b, of_decide_eq_true c⟩
theorem home_range (r : Rw) (x : Int) : -1 ≤ home r x ∧ home r x < 16 := fs_range _ (by omega)
theorem home_is (h : Iv r) {l p x : Int} (h0 : 0 ≤ l) (h1 : l < 16) (h2 : 0 ≤ p) (h3 : p < r l) (e : wa r l p = x) : home r x = l := by
  refine fs_is h0 h1 ?_ (fun i i0 i1 => ?_)
  · simp only [decide_eq_true_eq]
    rw [pl_is h h0 h1 h2 h3 e]; omega
  · simp only [decide_eq_false_iff_not, Decidable.not_not]
    rcases Decidable.em (pl r i x = -1) with q | q
    · exact q
    · obtain ⟨a, b, c⟩ := pl_at h i0 (by omega) q
      have := (h.inj i0 (by omega) a b h0 h1 h2 h3 (c.trans e.symm)).1
      omega
theorem home_at (h : Iv r) {x : Int} (hx : home r x ≠ -1) : 0 ≤ home r x ∧ home r x < 16 ∧ 0 ≤ plc r x ∧ plc r x < r (home r x) ∧ wa r (home r x) (plc r x) = x := by
  rcases fs_spec (fun l => decide (pl r l x ≠ -1)) (n := 16) (by omega) with ⟨a, -⟩ | ⟨a, b, c, -⟩
  · exact absurd a hx
  · have := of_decide_eq_true c
    obtain ⟨d1, d2, d3⟩ := pl_at h a b this
    have e : plc r x = pl r (home r x) x := by unfold plc; rw [if_neg hx]
    rw [e]
    exact ⟨a, b, d1, d2, d3⟩
theorem home_no (h : Iv r) {x : Int} (hx : home r x = -1) {l p : Int} (h0 : 0 ≤ l) (h1 : l < 16) (h2 : 0 ≤ p) (h3 : p < r l) : wa r l p ≠ x := by
  intro e
  have := home_is h h0 h1 h2 h3 e
  omega
theorem home_none (h : Iv r) {x : Int} (hx : ∀ l p, 0 ≤ l → l < 16 → 0 ≤ p → p < r l → wa r l p ≠ x) : home r x = -1 := by
  rcases Decidable.em (home r x = -1) with q | q
  · exact q
  · obtain ⟨a, b, c, d, e⟩ := home_at h q
    exact absurd e (hx _ _ a b c d)
theorem plc_range (h : Iv r) {x : Int} : -1 ≤ plc r x ∧ plc r x < 6 := by
  rcases Decidable.em (home r x = -1) with q | q
  · unfold plc; rw [if_pos q]; omega
  · obtain ⟨a, b, c, d, e⟩ := home_at h q
    have := (h.sz a b).2
    omega
theorem bor_range (r : Rw) (l : Int) : -1 ≤ bor r l ∧ bor r l < 16 := fs_range _ (by omega)
theorem bor_is (h : Iv r) {l o : Int} (h0 : 0 ≤ l) (g0 : 0 ≤ o) (g1 : o < 16) (e : r (112 + o) = l + 1) : bor r l = o := by
  refine fs_is g0 g1 (by simp [e]) (fun i i0 i1 => ?_)
  simp only [decide_eq_false_iff_not]
  intro e2
  have := h.one i0 (by omega) g0 g1 (e2.trans e.symm) (by omega)
  omega
theorem bor_at {l : Int} (hb : bor r l ≠ -1) : 0 ≤ bor r l ∧ bor r l < 16 ∧ r (112 + bor r l) = l + 1 := by
  rcases fs_spec (fun o => decide (r (112 + o) = l + 1)) (n := 16) (by omega) with ⟨a, -⟩ | ⟨a, b, c, -⟩
  · exact absurd a hb
  · exact ⟨a, b, of_decide_eq_true c⟩
theorem bor_no {l : Int} (hb : bor r l = -1) {o : Int} (g0 : 0 ≤ o) (g1 : o < 16) : r (112 + o) ≠ l + 1 := by
  rcases fs_spec (fun o => decide (r (112 + o) = l + 1)) (n := 16) (by omega) with ⟨-, a⟩ | ⟨a, -⟩
  · have := a o g0 g1
    simpa using this
  · unfold bor at hb; omega
theorem bo_bounds {f : Int → Int} {n : Int} (hn : 0 ≤ n) (h : ∀ p, 0 ≤ p → p < n → 0 ≤ f p) : 0 ≤ bo f n ∧ bo f n ≤ 3 * n := by
  refine ⟨sm_nn (fun i a b => ?_), sm_le hn (fun i a b => ?_)⟩
  · have := bt_pos (h i a b); omega
  · have := bt_pos (h i a b); omega
theorem LW_bounds {f : Int → Int} {n : Int} (hn : 0 ≤ n) (h : ∀ p, 0 ≤ p → p < n → 0 ≤ f p) : 0 ≤ LW f n ∧ LW f n ≤ 3 * n + 8 := by
  have := bo_bounds hn h
  unfold LW
  split <;> split <;> omega
theorem lw_bounds (h : Iv r) {l : Int} (h0 : 0 ≤ l) (h1 : l < 16) : 0 ≤ lw r l ∧ lw r l ≤ 26 := by
  have hs := h.sz h0 h1
  have := LW_bounds (f := wa r l) hs.1 (fun p a b => (h.wd h0 h1 a b).1)
  unfold lw; omega
theorem la_range (h : Iv r) {l : Int} (h0 : 0 ≤ l) (h1 : l < 16) : -1 ≤ la r l ∧ la r l < 40 := by
  unfold la
  have hs := h.sz h0 h1
  split
  · omega
  · have := h.wd h0 h1 (p := r l - 1) (by omega) (by omega); omega
/-- the line whose last word ends a line -/
def src (r : Rw) (l : Int) : Int := if 0 < r (112 + l) then r (112 + l) - 1 else l
theorem src_range (h : Iv r) {l : Int} (h0 : 0 ≤ l) (h1 : l < 16) : 0 ≤ src r l ∧ src r l < 16 := by
  have := h.ld h0 h1
  unfold src; split <;> omega
theorem src_words (h : Iv r) {l : Int} (h0 : 0 ≤ l) (h1 : l < 16) : 0 < r (src r l) ↔ 0 < r l := by
  unfold src
  split
  · rename_i q
    have := h.lend h0 h1 q
    constructor <;> intro <;> omega
  · exact Iff.rfl
theorem le_eq (h : Iv r) {l : Int} (h0 : 0 ≤ l) (h1 : l < 16) : le r l = if r (src r l) = 0 then -1 else en (wa r (src r l) (r (src r l) - 1)) := by
  have e := src_words h h0 h1
  have hs := h.sz h0 h1
  have hr := src_range h h0 h1
  have hs2 := h.sz hr.1 hr.2
  show (if r l = 0 then -1 else en (la r (src r l))) = _
  by_cases q : r l = 0
  · rw [if_pos q, if_pos (by omega)]
  · rw [if_neg q, if_neg (by omega)]
    unfold la
    rw [if_neg (by omega)]
theorem le_range (h : Iv r) {l : Int} (h0 : 0 ≤ l) (h1 : l < 16) : -1 ≤ le r l ∧ le r l < 5 := by
  rw [le_eq h h0 h1]
  split
  · omega
  · have hr := src_range h h0 h1
    have hs2 := h.sz hr.1 hr.2
    have := en_pos (h.wd hr.1 hr.2 (p := r (src r l) - 1) (by omega) (by omega)).1
    omega
theorem eqv_range (a b : Int) : 0 ≤ eqv a b ∧ eqv a b ≤ 1 := by unfold eqv; split <;> omega
theorem eqv_comm (a b : Int) : eqv a b = eqv b a := by
  unfold eqv
  by_cases q : a = b
  · subst q; rfl
  · rw [if_neg (by omega), if_neg (by omega)]
theorem rhE_range (r : Rw) (l e : Int) : 0 ≤ rhE r l e ∧ rhE r l e ≤ 4 := by
  unfold rhE
  refine ⟨sm_nn (fun i a b => ?_), ?_⟩
  · split
    · exact (eqv_range _ _).1
    · omega
  · have := sm_le (n := 4) (c := 1) (f := fun i => if 4 * (l / 4) + i ≠ l then eqv e (le r (4 * (l / 4) + i)) else 0) (by omega) (fun i a b => by
      split
      · exact (eqv_range _ _).2
      · omega)
    omega
theorem prs_range (r : Rw) (d : Int) : 0 ≤ prs r d ∧ prs r d ≤ 6 := by
  unfold prs
  have h1 := eqv_range (le r (4 * d + 1)) (le r (4 * d))
  have h2 := eqv_range (le r (4 * d + 2)) (le r (4 * d))
  have h3 := eqv_range (le r (4 * d + 2)) (le r (4 * d + 1))
  have h4 := eqv_range (le r (4 * d + 3)) (le r (4 * d))
  have h5 := eqv_range (le r (4 * d + 3)) (le r (4 * d + 1))
  have h6 := eqv_range (le r (4 * d + 3)) (le r (4 * d + 2))
  omega
theorem dw_range (h : Iv r) {d : Int} (h0 : 0 ≤ d) (h1 : d < 4) : 0 ≤ dw r d ∧ dw r d ≤ 128 := by
  unfold dw
  have := prs_range r d
  have a0 := lw_bounds h (l := 4 * d + 0) (by omega) (by omega)
  have a1 := lw_bounds h (l := 4 * d + 1) (by omega) (by omega)
  have a2 := lw_bounds h (l := 4 * d + 2) (by omega) (by omega)
  have a3 := lw_bounds h (l := 4 * d + 3) (by omega) (by omega)
  rw [sm_4]
  omega
theorem dwo_range (h : Iv r) {d : Int} (h0 : 0 ≤ d) (h1 : d < 4) : 0 ≤ dwo r d ∧ dwo r d ≤ 24 := by
  unfold dwo
  have a0 := h.sz (l := 4 * d + 0) (by omega) (by omega)
  have a1 := h.sz (l := 4 * d + 1) (by omega) (by omega)
  have a2 := h.sz (l := 4 * d + 2) (by omega) (by omega)
  have a3 := h.sz (l := 4 * d + 3) (by omega) (by omega)
  rw [sm_4]
  omega
theorem tgN_range (r : Rw) : ∀ n : Nat, -1 ≤ tgN r n ∧ tgN r n < n
  | 0 => by show (-1 : Int) ≤ -1 ∧ (-1 : Int) < 0; omega
  | n + 1 => by
    have := tgN_range r n
    show -1 ≤ (if _ then _ else _) ∧ (if _ then _ else _) < _
    split <;> omega
theorem tg_range (r : Rw) : -1 ≤ tg r ∧ tg r < 4 := by
  have := tgN_range r 4
  unfold tg; split <;> omega
theorem tgN_words {r : Rw} : ∀ n : Nat, tgN r n ≠ -1 → 0 < dwo r (tgN r n) ∧ r (128 + tgN r n) = 0
  | 0, h => absurd rfl h
  | n + 1, h => by
    have ih := tgN_words (r := r) n
    have e : tgN r (n + 1) = if 0 < dwo r n ∧ r (128 + n) = 0 ∧ (tgN r n = -1 ∨ dw r (tgN r n) < dw r n) then (n : Int) else tgN r n := rfl
    rw [e] at h ⊢
    split
    · rename_i q; exact ⟨q.1, q.2.1⟩
    · rename_i q; rw [if_neg q] at h; exact ih h
theorem tg_words (h : tg r ≠ -1) : 0 ≤ tg r ∧ tg r < 4 ∧ 0 < dwo r (tg r) := by
  have hr := tg_range r
  unfold tg at h hr ⊢
  split
  · rename_i q
    have := tgN_words 4 q.1
    rw [if_pos q] at hr
    have h2 := tgN_range r 4
    exact ⟨by omega, by omega, this.1⟩
  · rename_i q; rw [if_neg q] at h; exact absurd rfl h
end IVF
