/-! a word goes off a line -/
section REM
variable {r : Rw} {y q : Int}
theorem rem_sz (hI : Iv r) (hy : 0 ≤ y ∧ y < 16) (hq : 0 ≤ q ∧ q < r y) {l : Int} (h0 : 0 ≤ l) (h1 : l < 16) : rem r y q l = if l = y then r y - 1 else r l := by
  have hs := hI.sz hy.1 hy.2
  unfold rem
  by_cases e : l = y
  · rw [if_pos e, if_pos e]
  · rw [if_neg e, if_neg e, if_neg (by omega), if_neg (by omega), if_neg (by omega), if_neg (by omega)]
theorem rem_wa (hI : Iv r) (hy : 0 ≤ y ∧ y < 16) (hq : 0 ≤ q ∧ q < r y) {l p : Int} (h0 : 0 ≤ l) (h1 : l < 16) (h2 : 0 ≤ p) (h3 : p < 6) :
    wa (rem r y q) l p = if l = y then (if p < q then wa r y p else if p < r y - 1 then wa r y (p + 1) else 0) else wa r l p := by
  have hs := hI.sz hy.1 hy.2
  by_cases e : l = y
  · subst e
    rw [if_pos rfl]
    by_cases a : p < q
    · unfold wa rem
      rw [if_pos a, if_neg (by omega), if_neg (by omega), if_neg (by omega), if_neg (by omega), if_neg (by omega)]
    · rw [if_neg a]
      by_cases c : p < r l - 1
      · unfold wa rem
        rw [if_pos c, if_neg (by omega), if_pos (by omega)]
        congr 1; omega
      · rw [if_neg c]
        by_cases d : p = r l - 1
        · unfold wa rem
          rw [if_neg (by omega), if_neg (by omega), if_pos (by omega)]
        · have hz := hI.ze h0 h1 (p := p) (by omega) h3
          unfold wa at hz
          unfold wa rem
          rw [if_neg (by omega), if_neg (by omega), if_neg (by omega), if_neg (by omega), if_neg (by omega)]
          exact hz
  · rw [if_neg e]
    unfold wa rem
    rw [if_neg (by omega), if_neg (by omega), if_neg (by omega), if_neg (by omega), if_neg (by omega)]
theorem rem_ld (hI : Iv r) (hy : 0 ≤ y ∧ y < 16) (hq : 0 ≤ q ∧ q < r y) {l : Int} (h0 : 0 ≤ l) (h1 : l < 16) : rem r y q (112 + l) = if l = y then 0 else if r (112 + l) = y + 1 ∧ q = r y - 1 then 0 else r (112 + l) := by
  have hs := hI.sz hy.1 hy.2
  unfold rem
  rw [if_neg (by omega), if_neg (by omega), if_neg (by omega)]
  by_cases e : l = y
  · rw [if_pos e, if_pos (by omega)]
  · rw [if_neg e, if_neg (by omega)]
    by_cases a : r (112 + l) = y + 1 ∧ q = r y - 1
    · rw [if_pos a, if_pos ⟨by omega, by omega, a⟩]
    · rw [if_neg a, if_neg (fun h => a h.2.2)]
theorem rem_hi (hI : Iv r) (hy : 0 ≤ y ∧ y < 16) (hq : 0 ≤ q ∧ q < r y) {j : Int} (hj : ¬ (0 ≤ j ∧ j < 128)) : rem r y q j = r j := by
  have hs := hI.sz hy.1 hy.2
  unfold rem
  rw [if_neg (by omega), if_neg (by omega), if_neg (by omega), if_neg (by omega), if_neg (by omega)]
theorem rem_back (hI : Iv r) (hy : 0 ≤ y ∧ y < 16) (hq : 0 ≤ q ∧ q < r y) {l p : Int} (h0 : 0 ≤ l) (h1 : l < 16) (h2 : 0 ≤ p) (h3 : p < rem r y q l) :
    ∃ p', 0 ≤ p' ∧ p' < r l ∧ wa (rem r y q) l p = wa r l p' ∧ (l = y ∧ q ≤ p → p' = p + 1) ∧ (¬ (l = y ∧ q ≤ p) → p' = p) ∧ ¬ (l = y ∧ p' = q) := by
  rw [rem_sz hI hy hq h0 h1] at h3
  have hsl := hI.sz h0 h1
  by_cases e : l = y
  · subst e
    rw [if_pos rfl] at h3
    rw [rem_wa hI hy hq h0 h1 h2 (by omega), if_pos rfl]
    by_cases a : p < q
    · rw [if_pos a]
      exact ⟨p, h2, by omega, rfl, by omega, fun _ => rfl, by omega⟩
    · rw [if_neg a, if_pos h3]
      exact ⟨p + 1, by omega, by omega, rfl, fun _ => rfl, by omega, by omega⟩
  · rw [if_neg e] at h3
    rw [rem_wa hI hy hq h0 h1 h2 (by omega), if_neg e]
    exact ⟨p, h2, h3, rfl, by omega, fun _ => rfl, by omega⟩
theorem rem_inj (hI : Iv r) (hy : 0 ≤ y ∧ y < 16) (hq : 0 ≤ q ∧ q < r y) : ∀ l p l' p', 0 ≤ l → l < 16 → 0 ≤ p → p < rem r y q l → 0 ≤ l' → l' < 16 → 0 ≤ p' → p' < rem r y q l' → wa (rem r y q) l p = wa (rem r y q) l' p' → l = l' ∧ p = p' := by
  intro l p l' p' h0 h1 h2 h3 g0 g1 g2 g3 e
  obtain ⟨u, a1, a2, a3, a4, a5, a6⟩ := rem_back hI hy hq h0 h1 h2 h3
  obtain ⟨v, b1, b2, b3, b4, b5, b6⟩ := rem_back hI hy hq g0 g1 g2 g3
  rw [a3, b3] at e
  obtain ⟨c1, c2⟩ := hI.inj h0 h1 a1 a2 g0 g1 b1 b2 e
  refine ⟨c1, ?_⟩
  subst c1
  by_cases s1 : l = y ∧ q ≤ p
  · have := a4 s1
    by_cases s2 : l = y ∧ q ≤ p'
    · have := b4 s2; omega
    · have := b5 s2; omega
  · have := a5 s1
    by_cases s2 : l = y ∧ q ≤ p'
    · have := b4 s2; omega
    · have := b5 s2; omega
theorem rem_home (hI : Iv r) (hy : 0 ≤ y ∧ y < 16) (hq : 0 ≤ q ∧ q < r y) (x' : Int) : home (rem r y q) x' = if x' = wa r y q then -1 else home r x' := by
  have hsz : ∀ l, 0 ≤ l → l < 16 → 0 ≤ rem r y q l := fun l a c => by
    rw [rem_sz hI hy hq a c]; have := hI.sz a c; split <;> omega
  have hj := rem_inj hI hy hq
  have hsy := hI.sz hy.1 hy.2
  by_cases e : x' = wa r y q
  · rw [if_pos e]
    refine home_of_none hsz (fun l p h0 h1 h2 h3 => ?_)
    obtain ⟨u, a1, a2, a3, a4, a5, a6⟩ := rem_back hI hy hq h0 h1 h2 h3
    rw [a3, e]
    intro h
    obtain ⟨c1, c2⟩ := hI.inj h0 h1 a1 a2 hy.1 hy.2 hq.1 hq.2 h
    exact a6 ⟨c1, c2⟩
  · rw [if_neg e]
    by_cases h : home r x' = -1
    · rw [h]
      refine home_of_none hsz (fun l p h0 h1 h2 h3 => ?_)
      obtain ⟨u, a1, a2, a3, -⟩ := rem_back hI hy hq h0 h1 h2 h3
      rw [a3]; exact home_no hI h h0 h1 a1 a2
    · obtain ⟨a, c, d, f, g⟩ := home_at hI h
      have hf := hI.sz a c
      by_cases k : home r x' = y ∧ q ≤ plc r x'
      · have kq : q ≠ plc r x' := by
          intro u; apply e; rw [u, ← k.1]; exact g.symm
        refine home_of hsz hj a c (p := plc r x' - 1) (by omega) ?_ ?_
        · rw [rem_sz hI hy hq a c, if_pos k.1, ← k.1]; omega
        · rw [rem_wa hI hy hq a c (by omega) (by omega), if_pos k.1, if_neg (by omega), if_pos (by rw [k.1] at f; omega), show plc r x' - 1 + 1 = plc r x' by omega, ← k.1]; exact g
      · refine home_of hsz hj a c (p := plc r x') d ?_ ?_
        · rw [rem_sz hI hy hq a c]; split
          · rename_i u; omega
          · exact f
        · rw [rem_wa hI hy hq a c d (by omega)]
          split
          · rename_i u
            rw [if_pos (by omega), ← u]; exact g
          · exact g
theorem rem_iv (hI : Iv r) (hy : 0 ≤ y ∧ y < 16) (hq : 0 ≤ q ∧ q < r y) : Iv (rem r y q) := by
  have hsy := hI.sz hy.1 hy.2
  have hw := hI.wd hy.1 hy.2 hq.1 hq.2
  refine ⟨?_, ?_, rem_inj hI hy hq, ?_, ?_, ?_, ?_, ?_, ?_, ?_, ?_⟩
  · intro l h0 h1
    have := hI.sz h0 h1
    rw [rem_sz hI hy hq h0 h1]; split <;> omega
  · intro l p h0 h1 h2 h3
    obtain ⟨u, a1, a2, a3, -⟩ := rem_back hI hy hq h0 h1 h2 h3
    rw [a3]; exact hI.wd h0 h1 a1 a2
  · intro l p h0 h1 h2 h3
    rw [rem_sz hI hy hq h0 h1] at h2
    have hsl := hI.sz h0 h1
    by_cases e : l = y
    · subst e
      rw [if_pos rfl] at h2
      rw [rem_wa hI hy hq h0 h1 (by omega) h3, if_pos rfl, if_neg (by omega), if_neg (by omega)]
    · rw [if_neg e] at h2
      rw [rem_wa hI hy hq h0 h1 (by omega) h3, if_neg e]
      exact hI.ze h0 h1 h2 h3
  · intro l h0 h1
    have := hI.ld h0 h1
    rw [rem_ld hI hy hq h0 h1]; split <;> (try split) <;> omega
  · intro l h0 h1 h2
    have hld := hI.ld h0 h1
    rw [rem_ld hI hy hq h0 h1] at h2 ⊢
    by_cases e : l = y
    · rw [if_pos e] at h2; omega
    · rw [if_neg e] at h2 ⊢
      by_cases a : r (112 + l) = y + 1 ∧ q = r y - 1
      · rw [if_pos a] at h2; omega
      · rw [if_neg a] at h2 ⊢
        obtain ⟨c1, c2, c3, c4⟩ := hI.lend h0 h1 h2
        have hs2 := hI.sz (l := r (112 + l) - 1) (by omega) (by omega)
        refine ⟨by rw [rem_sz hI hy hq h0 h1, if_neg e]; exact c1, ?_, c3, ?_⟩
        · rw [rem_sz hI hy hq (by omega) (by omega)]; split
          · rename_i u; rw [u] at c2; omega
          · exact c2
        · rw [rem_ld hI hy hq (by omega) (by omega), c4]
          split
          · rfl
          · split <;> rfl
  · intro l l' h0 h1 g0 g1 e h2
    rw [rem_ld hI hy hq h0 h1] at e h2
    rw [rem_ld hI hy hq g0 g1] at e
    by_cases e1 : l = y
    · rw [if_pos e1] at h2; omega
    · rw [if_neg e1] at e h2
      by_cases a1 : r (112 + l) = y + 1 ∧ q = r y - 1
      · rw [if_pos a1] at h2; omega
      · rw [if_neg a1] at e h2
        by_cases e2 : l' = y
        · rw [if_pos e2] at e; omega
        · rw [if_neg e2] at e
          by_cases a2 : r (112 + l') = y + 1 ∧ q = r y - 1
          · rw [if_pos a2] at e; omega
          · rw [if_neg a2] at e
            exact hI.one h0 h1 g0 g1 e h2
  · intro d h0 h1
    rw [rem_hi hI hy hq (by omega)]; exact hI.wt h0 h1
  · rw [rem_hi hI hy hq (by omega), rem_hi hI hy hq (by omega), rem_hi hI hy hq (by omega)]; exact hI.se
  · have hc := hI.cn
    have hh := rem_home hI hy hq
    have hx : home r (wa r y q) = y := home_is hI hy.1 hy.2 hq.1 hq.2 rfl
    have e1 : cnt (rem r y q) = cnt r + 1 := by
      unfold cnt
      rw [sm_upd (f := fun x => if home r x = -1 then 1 else 0) (k := wa r y q) (fun i _ _ ne => by rw [hh i, if_neg ne]) hw.1 hw.2, hh (wa r y q), if_pos rfl, if_pos rfl, hx, if_neg (by omega)]
      omega
    have e2 : bg (rem r y q) = bg r + 1 := by
      unfold bg
      rw [sm_upd (f := fun l => r l) (g := fun l => rem r y q l) (k := y) (fun i a c ne => by rw [rem_sz hI hy hq a c, if_neg ne]) hy.1 hy.2, rem_sz hI hy hq hy.1 hy.2, if_pos rfl]
      omega
    rw [e1, e2, hc]
  · intro j hj
    rw [rem_hi hI hy hq (by omega)]; exact hI.zr hj
end REM
