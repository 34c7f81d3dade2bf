/-! a word comes on a line: what the row says then -/
section INS
variable {r : Rw} {x y q : Int}
theorem ins_sz (hy : 0 ≤ y ∧ y < 16) (hq : 0 ≤ q ∧ q ≤ r y) {l : Int} (h0 : 0 ≤ l) (h1 : l < 16) : ins r x y q l = if l = y then r y + 1 else r l := by
  unfold ins
  by_cases e : l = y
  · rw [if_pos e, if_pos e]
  · rw [if_neg e, if_neg e]
    by_cases a : 16 + 6 * y + q < l ∧ l ≤ 16 + 6 * y + r y
    · omega
    · rw [if_neg a]
      by_cases c : l = 16 + 6 * y + q
      · omega
      · rw [if_neg c]
        by_cases d : l = 112 + y
        · omega
        · rw [if_neg d, if_neg (by omega)]
theorem ins_wa (hy : 0 ≤ y ∧ y < 16) (hq : 0 ≤ q ∧ q ≤ r y) (hs : r y < 6) {l p : Int} (h0 : 0 ≤ l) (h1 : l < 16) (h2 : 0 ≤ p) (h3 : p < 6) :
    wa (ins r x y q) l p = if l = y then (if p < q then wa r y p else if p = q then x else if p ≤ r y then wa r y (p - 1) else wa r y p) else wa r l p := by
  unfold wa ins
  rw [if_neg (show ¬ 16 + 6 * l + p = y by omega)]
  by_cases e : l = y
  · subst e
    rw [if_pos rfl]
    by_cases a : p < q
    · rw [if_pos a, if_neg (by omega), if_neg (by omega), if_neg (by omega), if_neg (by omega)]
    · rw [if_neg a]
      by_cases c : p = q
      · rw [if_pos c, if_neg (by omega), if_pos (by omega)]
      · rw [if_neg c]
        by_cases d : p ≤ r l
        · rw [if_pos d, if_pos (by omega)]
          congr 1; omega
        · rw [if_neg d, if_neg (by omega), if_neg (by omega), if_neg (by omega), if_neg (by omega)]
  · rw [if_neg e, if_neg (by omega), if_neg (by omega), if_neg (by omega), if_neg (by omega)]
theorem ins_ld (hy : 0 ≤ y ∧ y < 16) (hq : 0 ≤ q ∧ q ≤ r y) (hs : r y < 6) {l : Int} (h0 : 0 ≤ l) (h1 : l < 16) : ins r x y q (112 + l) = if l = y then 0 else if r (112 + l) = y + 1 ∧ q = r y then 0 else r (112 + l) := by
  unfold ins
  rw [if_neg (by omega), if_neg (by omega), if_neg (by omega)]
  by_cases e : l = y
  · rw [if_pos e, if_pos (by omega)]
  · rw [if_neg e, if_neg (by omega)]
    by_cases a : r (112 + l) = y + 1 ∧ q = r y
    · rw [if_pos a, if_pos ⟨by omega, by omega, a⟩]
    · rw [if_neg a, if_neg (fun h => a h.2.2)]
theorem ins_hi (hy : 0 ≤ y ∧ y < 16) (hq : 0 ≤ q ∧ q ≤ r y) (hs : r y < 6) {j : Int} (hj : ¬ (0 ≤ j ∧ j < 128)) : ins r x y q j = r j := by
  unfold ins
  rw [if_neg (by omega), if_neg (by omega), if_neg (by omega), if_neg (by omega), if_neg (by omega)]
/-- where a place of the line was before -/
theorem ins_back (hI : Iv r) (hx : home r x = -1) (hy : 0 ≤ y ∧ y < 16) (hq : 0 ≤ q ∧ q ≤ r y) (hs : r y < 6) {l p : Int} (h0 : 0 ≤ l) (h1 : l < 16) (h2 : 0 ≤ p) (h3 : p < ins r x y q l) :
    (l = y ∧ p = q ∧ wa (ins r x y q) l p = x) ∨ (¬ (l = y ∧ p = q) ∧ ∃ p', 0 ≤ p' ∧ p' < r l ∧ wa (ins r x y q) l p = wa r l p' ∧ (l = y → q < p → p' = p - 1) ∧ (¬ (l = y ∧ q < p) → p' = p) ∧ wa r l p' ≠ x) := by
  rw [ins_sz hy hq h0 h1] at h3
  have hsl := hI.sz h0 h1
  by_cases e : l = y
  · subst e
    rw [if_pos rfl] at h3
    rw [ins_wa hy hq hs h0 h1 h2 (by omega), if_pos rfl]
    by_cases a : p < q
    · rw [if_pos a]
      exact Or.inr ⟨by omega, p, h2, by omega, rfl, by omega, fun _ => rfl, home_no hI hx h0 h1 h2 (by omega)⟩
    · rw [if_neg a]
      by_cases c : p = q
      · rw [if_pos c]; exact Or.inl ⟨rfl, c, rfl⟩
      · rw [if_neg c, if_pos (by omega)]
        exact Or.inr ⟨by omega, p - 1, by omega, by omega, rfl, fun _ _ => rfl, fun h => absurd ⟨rfl, by omega⟩ h, home_no hI hx h0 h1 (by omega) (by omega)⟩
  · rw [if_neg e] at h3
    rw [ins_wa hy hq hs h0 h1 h2 (by omega), if_neg e]
    exact Or.inr ⟨by omega, p, h2, h3, rfl, fun h => absurd h e, fun _ => rfl, home_no hI hx h0 h1 h2 h3⟩
theorem ins_iv0 (hI : Iv r) (hx0 : 0 ≤ x ∧ x < 40) (hx : home r x = -1) (hy : 0 ≤ y ∧ y < 16) (hq : 0 ≤ q ∧ q ≤ r y) (hs : r y < 6) :
  (∀ l p, 0 ≤ l → l < 16 → 0 ≤ p → p < ins r x y q l → 0 ≤ wa (ins r x y q) l p ∧ wa (ins r x y q) l p < 40) ∧
  (∀ l p l' p', 0 ≤ l → l < 16 → 0 ≤ p → p < ins r x y q l → 0 ≤ l' → l' < 16 → 0 ≤ p' → p' < ins r x y q l' → wa (ins r x y q) l p = wa (ins r x y q) l' p' → l = l' ∧ p = p') := by
  constructor
  · intro l p h0 h1 h2 h3
    rcases ins_back hI hx hy hq hs h0 h1 h2 h3 with ⟨-, -, e⟩ | ⟨-, p', a, c, e, -⟩
    · rw [e]; exact hx0
    · rw [e]; exact hI.wd h0 h1 a c
  · intro l p l' p' h0 h1 h2 h3 g0 g1 g2 g3 e
    rcases ins_back hI hx hy hq hs h0 h1 h2 h3 with ⟨a1, a2, a3⟩ | ⟨a1, u, a2, a3, a4, a5, a6, a7⟩
    · rcases ins_back hI hx hy hq hs g0 g1 g2 g3 with ⟨b1, b2, b3⟩ | ⟨b1, v, b2, b3, b4, b5, b6, b7⟩
      · exact ⟨a1.trans b1.symm, a2.trans b2.symm⟩
      · rw [a3, b4] at e; exact absurd e.symm b7
    · rcases ins_back hI hx hy hq hs g0 g1 g2 g3 with ⟨b1, b2, b3⟩ | ⟨b1, v, b2, b3, b4, b5, b6, b7⟩
      · rw [a4, b3] at e; exact absurd e a7
      · rw [a4, b4] at e
        obtain ⟨c1, c2⟩ := hI.inj h0 h1 a2 a3 g0 g1 b2 b3 e
        refine ⟨c1, ?_⟩
        subst c1
        by_cases s1 : l = y ∧ q < p
        · have := a5 s1.1 s1.2
          by_cases s2 : l = y ∧ q < p'
          · have := b5 s2.1 s2.2; omega
          · have := b6 s2; omega
        · have := a6 s1
          by_cases s2 : l = y ∧ q < p'
          · have := b5 s2.1 s2.2; omega
          · have := b6 s2; omega
/-- the words' lines, by what is on the lines alone -/
theorem home_of {s : Rw} (hsz : ∀ l, 0 ≤ l → l < 16 → 0 ≤ s l) (hinj : ∀ l p l' p', 0 ≤ l → l < 16 → 0 ≤ p → p < s l → 0 ≤ l' → l' < 16 → 0 ≤ p' → p' < s l' → wa s l p = wa s l' p' → l = l' ∧ p = p') {x l p : Int} (h0 : 0 ≤ l) (h1 : l < 16) (h2 : 0 ≤ p) (h3 : p < s l) (e : wa s l p = x) : home s x = l := by
  refine fs_is h0 h1 ?_ (fun i i0 i1 => ?_)
  · simp only [decide_eq_true_eq]
    have : pl s l x = p := fs_is h2 h3 (by simp [e]) (fun j j0 j1 => by
      simp only [decide_eq_false_iff_not]
      intro e2
      have := (hinj l j l p h0 h1 j0 (by omega) h0 h1 h2 h3 (e2.trans e.symm)).2
      omega)
    rw [this]; omega
  · simp only [decide_eq_false_iff_not, Decidable.not_not]
    refine fs_no (hsz i i0 (by omega)) (fun j j0 j1 => ?_)
    simp only [decide_eq_false_iff_not]
    intro e2
    have := (hinj i j l p i0 (by omega) j0 j1 h0 h1 h2 h3 (e2.trans e.symm)).1
    omega
theorem home_of_none {s : Rw} (hsz : ∀ l, 0 ≤ l → l < 16 → 0 ≤ s l) {x : Int} (h : ∀ l p, 0 ≤ l → l < 16 → 0 ≤ p → p < s l → wa s l p ≠ x) : home s x = -1 := by
  refine fs_no (by omega) (fun i i0 i1 => ?_)
  simp only [decide_eq_false_iff_not, Decidable.not_not]
  refine fs_no (hsz i i0 i1) (fun j j0 j1 => ?_)
  simp only [decide_eq_false_iff_not]
  exact h i j i0 i1 j0 j1
theorem ins_home (hI : Iv r) (hx0 : 0 ≤ x ∧ x < 40) (hx : home r x = -1) (hy : 0 ≤ y ∧ y < 16) (hq : 0 ≤ q ∧ q ≤ r y) (hs : r y < 6) (x' : Int) : home (ins r x y q) x' = if x' = x then y else home r x' := by
  have hsz : ∀ l, 0 ≤ l → l < 16 → 0 ≤ ins r x y q l := fun l a c => by
    rw [ins_sz hy hq a c]; have := hI.sz a c; split <;> omega
  have hj := (ins_iv0 hI hx0 hx hy hq hs).2
  by_cases e : x' = x
  · rw [if_pos e]
    refine home_of hsz hj hy.1 hy.2 hq.1 ?_ ?_ (p := q)
    · rw [ins_sz hy hq hy.1 hy.2, if_pos rfl]; omega
    · rw [ins_wa hy hq hs hy.1 hy.2 hq.1 (by omega), if_pos rfl, if_neg (by omega), if_pos rfl, e]
  · rw [if_neg e]
    by_cases h : home r x' = -1
    · rw [h]
      refine home_of_none hsz (fun l p h0 h1 h2 h3 => ?_)
      rcases ins_back hI hx hy hq hs h0 h1 h2 h3 with ⟨-, -, a⟩ | ⟨-, p', a, c, d, -⟩
      · rw [a]; exact Ne.symm e
      · rw [d]; exact home_no hI h h0 h1 a c
    · obtain ⟨a, c, d, f, g⟩ := home_at hI h
      have hf := hI.sz a c
      by_cases k : home r x' = y ∧ q ≤ plc r x'
      · refine home_of hsz hj a c (p := plc r x' + 1) (by omega) ?_ ?_
        · rw [ins_sz hy hq a c, if_pos k.1, ← k.1]; omega
        · rw [ins_wa hy hq hs a c (by omega) (by rw [k.1] at f; omega), if_pos k.1, if_neg (by omega), if_neg (by omega), if_pos (by rw [k.1] at f; omega), show plc r x' + 1 - 1 = plc r x' by omega, ← k.1]; exact g
      · refine home_of hsz hj a c (p := plc r x') d ?_ ?_
        · rw [ins_sz hy hq a c]; split
          · rename_i u; rw [← u]; omega
          · exact f
        · rw [ins_wa hy hq hs a c d (by omega)]
          split
          · rename_i u
            rw [if_pos (by omega), ← u]; exact g
          · exact g
theorem ins_iv (hI : Iv r) (hx0 : 0 ≤ x ∧ x < 40) (hx : home r x = -1) (hy : 0 ≤ y ∧ y < 16) (hq : 0 ≤ q ∧ q ≤ r y) (hs : r y < 6) : Iv (ins r x y q) := by
  obtain ⟨i1, i2⟩ := ins_iv0 hI hx0 hx hy hq hs
  have hsy := hI.sz hy.1 hy.2
  refine ⟨?_, i1, i2, ?_, ?_, ?_, ?_, ?_, ?_, ?_, ?_⟩
  · intro l h0 h1
    have := hI.sz h0 h1
    rw [ins_sz hy hq h0 h1]; split <;> omega
  · intro l p h0 h1 h2 h3
    rw [ins_sz hy hq h0 h1] at h2
    have hsl := hI.sz h0 h1
    by_cases e : l = y
    · subst e
      rw [if_pos rfl] at h2
      rw [ins_wa hy hq hs h0 h1 (by omega) h3, if_pos rfl, if_neg (by omega), if_neg (by omega), if_neg (by omega)]
      exact hI.ze h0 h1 (by omega) h3
    · rw [if_neg e] at h2
      rw [ins_wa hy hq hs h0 h1 (by omega) h3, if_neg e]
      exact hI.ze h0 h1 h2 h3
  · intro l h0 h1
    have := hI.ld h0 h1
    rw [ins_ld hy hq hs h0 h1]; split <;> (try split) <;> omega
  · intro l h0 h1 h2
    have hld := hI.ld h0 h1
    rw [ins_ld hy hq hs h0 h1] at h2 ⊢
    by_cases e : l = y
    · rw [if_pos e] at h2; omega
    · rw [if_neg e] at h2 ⊢
      by_cases a : r (112 + l) = y + 1 ∧ q = r y
      · rw [if_pos a] at h2; omega
      · rw [if_neg a] at h2 ⊢
        obtain ⟨c1, c2, c3, c4⟩ := hI.lend h0 h1 h2
        have hs2 := hI.sz (l := r (112 + l) - 1) (by omega) (by omega)
        refine ⟨by rw [ins_sz hy hq h0 h1, if_neg e]; exact c1, ?_, c3, ?_⟩
        · rw [ins_sz hy hq (by omega) (by omega)]; split
          · omega
          · exact c2
        · rw [ins_ld hy hq hs (by omega) (by omega), c4]
          split
          · rfl
          · split <;> rfl
  · intro l l' h0 h1 g0 g1 e h2
    rw [ins_ld hy hq hs h0 h1] at e h2
    rw [ins_ld hy hq hs g0 g1] at e
    by_cases e1 : l = y
    · rw [if_pos e1] at h2; omega
    · rw [if_neg e1] at e h2
      by_cases a1 : r (112 + l) = y + 1 ∧ q = r y
      · rw [if_pos a1] at h2; omega
      · rw [if_neg a1] at e h2
        by_cases e2 : l' = y
        · rw [if_pos e2] at e; omega
        · rw [if_neg e2] at e
          by_cases a2 : r (112 + l') = y + 1 ∧ q = r y
          · rw [if_pos a2] at e; omega
          · rw [if_neg a2] at e
            exact hI.one h0 h1 g0 g1 e h2
  · intro d h0 h1
    rw [ins_hi hy hq hs (by omega)]; exact hI.wt h0 h1
  · rw [ins_hi hy hq hs (by omega), ins_hi hy hq hs (by omega), ins_hi hy hq hs (by omega)]; exact hI.se
  · have hc := hI.cn
    have hh := ins_home hI hx0 hx hy hq hs
    have e1 : cnt (ins r x y q) = cnt r - 1 := by
      unfold cnt
      rw [sm_upd (f := fun x => if home r x = -1 then 1 else 0) (k := x) (fun i _ _ ne => by rw [hh i, if_neg ne]) hx0.1 hx0.2, hh x, if_pos rfl, if_pos hx, if_neg (by omega)]
      omega
    have e2 : bg (ins r x y q) = bg r - 1 := by
      unfold bg
      rw [sm_upd (f := fun l => r l) (g := fun l => ins r x y q l) (k := y) (fun i a c ne => by rw [ins_sz hy hq a c, if_neg ne]) hy.1 hy.2, ins_sz hy hq hy.1 hy.2, if_pos rfl]
      omega
    rw [e1, e2, hc]
  · intro j hj
    rw [ins_hi hy hq hs (by omega)]; exact hI.zr hj
end INS
