/-! an emptied door; what the thief takes; copies -/
def clr (r : Rw) (d : Int) : Rw := fun j =>
  if 4 * d ≤ j ∧ j < 4 * d + 4 then 0 else if 16 + 24 * d ≤ j ∧ j < 40 + 24 * d then 0 else if 112 + 4 * d ≤ j ∧ j < 116 + 4 * d then 0
  else if 112 ≤ j ∧ j < 128 ∧ 4 * d + 1 ≤ r j ∧ r j ≤ 4 * d + 4 then 0 else r j
theorem clr_rem {r : Rw} {y q d : Int} (hI : Iv r) (hy : 0 ≤ y ∧ y < 16) (hq : 0 ≤ q ∧ q < r y) (hd : y / 4 = d) : clr (rem r y q) d = clr r d := by
  have hs := hI.sz hy.1 hy.2
  funext j
  unfold clr
  by_cases a : 4 * d ≤ j ∧ j < 4 * d + 4
  · rw [if_pos a, if_pos a]
  · rw [if_neg a, if_neg a]
    by_cases b : 16 + 24 * d ≤ j ∧ j < 40 + 24 * d
    · rw [if_pos b, if_pos b]
    · rw [if_neg b, if_neg b]
      by_cases c : 112 + 4 * d ≤ j ∧ j < 116 + 4 * d
      · rw [if_pos c, if_pos c]
      · rw [if_neg c, if_neg c]
        have e : rem r y q j = if 112 ≤ j ∧ j < 128 ∧ r j = y + 1 ∧ q = r y - 1 then 0 else r j := by
          unfold rem
          rw [if_neg (by omega), if_neg (by omega), if_neg (by omega), if_neg (by omega)]
        rw [e]
        by_cases k : 112 ≤ j ∧ j < 128 ∧ r j = y + 1 ∧ q = r y - 1
        · rw [if_pos k, if_neg (by omega), if_pos (by omega)]
        · rw [if_neg k]
theorem clr_self {r : Rw} {d : Int} (hI : Iv r) (hd : 0 ≤ d ∧ d < 4) (h : ∀ l, 4 * d ≤ l → l < 4 * d + 4 → r l = 0) : clr r d = r := by
  funext j
  unfold clr
  by_cases a : 4 * d ≤ j ∧ j < 4 * d + 4
  · rw [if_pos a, h j a.1 a.2]
  · rw [if_neg a]
    by_cases b : 16 + 24 * d ≤ j ∧ j < 40 + 24 * d
    · rw [if_pos b]
      have h2 := h ((j - 16) / 6) (by omega) (by omega)
      have := hI.ze (l := (j - 16) / 6) (p := (j - 16) % 6) (by omega) (by omega) (by omega) (by omega)
      unfold wa at this
      rw [show 16 + 6 * ((j - 16) / 6) + (j - 16) % 6 = j by omega] at this
      exact this.symm
    · rw [if_neg b]
      by_cases c : 112 + 4 * d ≤ j ∧ j < 116 + 4 * d
      · rw [if_pos c]
        have h1 := hI.ld (l := j - 112) (by omega) (by omega)
        have h2 := h (j - 112) (by omega) (by omega)
        rw [show 112 + (j - 112) = j by omega] at h1
        by_cases k : 0 < r j
        · have := (hI.lend (l := j - 112) (by omega) (by omega) (by rw [show 112 + (j - 112) = j by omega]; exact k)).1
          omega
        · omega
      · rw [if_neg c]
        by_cases k : 112 ≤ j ∧ j < 128 ∧ 4 * d + 1 ≤ r j ∧ r j ≤ 4 * d + 4
        · have h1 := (hI.lend (l := j - 112) (by omega) (by omega) (by rw [show 112 + (j - 112) = j by omega]; omega)).2.1
          rw [show 112 + (j - 112) = j by omega] at h1
          have h2 := h (r j - 1) (by omega) (by omega)
          omega
        · rw [if_neg k]
theorem door_empty {r : Rw} {d : Int} (hI : Iv r) (hd : 0 ≤ d ∧ d < 4) (h : ∀ x, 0 ≤ x → x < 40 → home r x = -1 ∨ home r x / 4 ≠ d) : ∀ l, 4 * d ≤ l → l < 4 * d + 4 → r l = 0 := by
  intro l a b
  have hs := hI.sz (l := l) (by omega) (by omega)
  by_cases k : r l = 0
  · exact k
  · have hw := hI.wd (l := l) (p := 0) (by omega) (by omega) (by omega) (by omega)
    have hh := home_is hI (l := l) (p := 0) (by omega) (by omega) (by omega) (by omega) rfl
    rcases h _ hw.1 hw.2 with e | e
    · omega
    · rw [hh] at e; omega
theorem dwo_rem {r : Rw} {y q d : Int} (hI : Iv r) (hy : 0 ≤ y ∧ y < 16) (hq : 0 ≤ q ∧ q < r y) (hd : y / 4 = d) : dwo (rem r y q) d = dwo r d - 1 := by
  unfold dwo
  rw [sm_upd (f := fun i => r (4 * d + i)) (g := fun i => rem r y q (4 * d + i)) (k := y - 4 * d) (fun i a c ne => by rw [rem_sz hI hy hq (by omega) (by omega), if_neg (by omega)]) (by omega) (by omega), rem_sz hI hy hq (by omega) (by omega), if_pos (by omega), show 4 * d + (y - 4 * d) = y by omega]
  omega
theorem dwo_0 {r : Rw} {d : Int} (h : ∀ l, 4 * d ≤ l → l < 4 * d + 4 → r l = 0) : dwo r d = 0 := by
  unfold dwo
  rw [sm_4, h _ (by omega) (by omega), h _ (by omega) (by omega), h _ (by omega) (by omega), h _ (by omega) (by omega)]; rfl
theorem dwo_pos {r : Rw} {d : Int} (h : 0 < dwo r d) : ∃ l, 4 * d ≤ l ∧ l < 4 * d + 4 ∧ r l ≠ 0 := by
  by_cases q : ∀ l, 4 * d ≤ l → l < 4 * d + 4 → r l = 0
  · rw [dwo_0 q] at h; omega
  · simp only [Classical.not_forall] at q
    obtain ⟨l, a, b, c⟩ := q
    exact ⟨l, a, b, c⟩
theorem pinN_on {r : Rw} {l b : Int} : ∀ n : Nat, (pinN r l b n = b ∧ (b = -1 → n = 0)) ∨ (∃ p : Int, 0 ≤ p ∧ p < n ∧ pinN r l b n = wa r l p)
  | 0 => Or.inl ⟨rfl, fun _ => rfl⟩
  | n + 1 => by
    have e : pinN r l b (n + 1) = if pinN r l b n = -1 ∨ bt (pinN r l b n) < bt (wa r l n) then wa r l n else pinN r l b n := rfl
    rw [e]
    by_cases k : pinN r l b n = -1 ∨ bt (pinN r l b n) < bt (wa r l n)
    · rw [if_pos k]; exact Or.inr ⟨n, by omega, by omega, rfl⟩
    · rw [if_neg k]
      rcases pinN_on (r := r) (l := l) (b := b) n with ⟨h1, h2⟩ | ⟨p, a, c, d⟩
      · exact Or.inl ⟨h1, fun q => by exfalso; apply k; left; rw [h1, q]⟩
      · exact Or.inr ⟨p, a, by omega, d⟩
theorem ponN_on {r : Rw} {d : Int} (hI : Iv r) (hd : 0 ≤ d ∧ d < 4) : ∀ n : Nat, n ≤ 4 → (ponN r d n = -1 ∧ ∀ l, 4 * d + 3 - n < l → l ≤ 4 * d + 3 → r l = 0) ∨ (∃ l p : Int, 4 * d + 3 - n < l ∧ l ≤ 4 * d + 3 ∧ 0 ≤ p ∧ p < r l ∧ ponN r d n = wa r l p)
  | 0, _ => Or.inl ⟨rfl, fun l a b => by omega⟩
  | n + 1, h => by
    have e : ponN r d (n + 1) = pinN r (4 * d + 3 - n) (ponN r d n) (r (4 * d + 3 - n)).toNat := rfl
    have hs := hI.sz (l := 4 * d + 3 - n) (by omega) (by omega)
    rw [e]
    rcases pinN_on (r := r) (l := 4 * d + 3 - n) (b := ponN r d n) (r (4 * d + 3 - n)).toNat with ⟨h1, h2⟩ | ⟨p, a, c, f⟩
    · rcases ponN_on hI hd n (by omega) with ⟨g1, g2⟩ | ⟨l, p, g1, g2, g3, g4, g5⟩
      · left
        refine ⟨by rw [h1, g1], fun l a b => ?_⟩
        by_cases k : l = 4 * d + 3 - n
        · have := h2 g1; rw [k]; omega
        · exact g2 l (by omega) b
      · right
        exact ⟨l, p, by omega, g2, g3, g4, by rw [h1, g5]⟩
    · right
      exact ⟨4 * d + 3 - n, p, by omega, by omega, a, by omega, f⟩
theorem pon_on {r : Rw} {d : Int} (hI : Iv r) (hd : 0 ≤ d ∧ d < 4) (h : 0 < dwo r d) : 0 ≤ pon r d ∧ pon r d < 40 ∧ home r (pon r d) ≠ -1 ∧ home r (pon r d) / 4 = d := by
  rcases ponN_on hI hd 4 (by omega) with ⟨h1, h2⟩ | ⟨l, p, g1, g2, g3, g4, g5⟩
  · obtain ⟨l, a, b, c⟩ := dwo_pos h
    exact absurd (h2 l (by omega) (by omega)) c
  · have e : pon r d = wa r l p := g5
    have hw := hI.wd (l := l) (p := p) (by omega) (by omega) g3 g4
    have hh := home_is hI (l := l) (p := p) (by omega) (by omega) g3 g4 rfl
    rw [e, hh]
    refine ⟨hw.1, hw.2, by omega, by omega⟩
theorem pinN_congr {r s : Rw} {l b : Int} {n : Nat} (h : ∀ p, 0 ≤ p → p < n → wa s l p = wa r l p) : pinN s l b n = pinN r l b n := by
  induction n with
  | zero => rfl
  | succ n ih =>
    have e := ih (fun p a c => h p a (by omega))
    show (if pinN s l b n = -1 ∨ bt (pinN s l b n) < bt (wa s l n) then wa s l n else pinN s l b n) = _
    rw [e, h n (by omega) (by omega)]; rfl
theorem pon_congr {r s : Rw} {d : Int} (hI : Iv r) (hd : 0 ≤ d ∧ d < 4) (h : ∀ j, 0 ≤ j → j < 112 → s j = r j) : pon s d = pon r d := by
  have : ∀ n : Nat, n ≤ 4 → ponN s d n = ponN r d n := by
    intro n
    induction n with
    | zero => exact fun _ => rfl
    | succ n ih =>
      intro hn
      have hs := hI.sz (l := 4 * d + 3 - n) (by omega) (by omega)
      show pinN s (4 * d + 3 - n) (ponN s d n) (s (4 * d + 3 - n)).toNat = pinN r (4 * d + 3 - n) (ponN r d n) (r (4 * d + 3 - n)).toNat
      rw [ih (by omega), h (4 * d + 3 - n) (by omega) (by omega)]
      exact pinN_congr (fun p a c => h _ (by omega) (by omega))
  exact this 4 (by omega)
theorem ng_iv {r : Rw} (hI : Iv r) : Iv (wn r) ∧ (tg r ≠ -1 → 0 ≤ tg r ∧ tg r < 4 ∧ 0 ≤ pon (wn r) (tg r) ∧ pon (wn r) (tg r) < 40 ∧ home (wn r) (pon (wn r) (tg r)) ≠ -1 ∧ home (wn r) (pon (wn r) (tg r)) / 4 = tg r ∧ pon (wn r) (tg r) = pon r (tg r)) := by
  have hw := wn_iv hI
  refine ⟨hw.1, fun h => ?_⟩
  obtain ⟨a, b, c⟩ := tg_words h
  have e := pon_congr (s := wn r) hI ⟨a, b⟩ (fun j _ q => wn_lo r (by omega))
  have p := pon_on hI ⟨a, b⟩ c
  rw [e, hw.2.1]
  exact ⟨a, b, p.1, p.2.1, p.2.2.1, p.2.2.2, rfl⟩
def wnG (F : FF) (b : Nat) (i : Int) : FF := fun k j => if k = b + 7 ∧ 0 ≤ j ∧ j < i ∧ 0 < F (b+7) j then F (b+7) j - 1 else F k j
theorem wnG_0 {F : FF} {b : Nat} : F = wnG F b 0 := by
  funext k j; unfold wnG; rw [if_neg (by omega)]
theorem wnG_t {F : FF} {b : Nat} {i : Int} (h0 : 0 ≤ i) (h : 0 < F (b+7) i) : up (wnG F b i) (b+7) i (wnG F b i (b+7) i - 1) = wnG F b (i + 1) := by
  funext k j
  unfold up wnG
  by_cases e : k = b + 7 ∧ j = i
  · obtain ⟨rfl, rfl⟩ := e
    rw [if_pos ⟨rfl, rfl⟩, if_neg (by omega), if_pos ⟨rfl, h0, by omega, h⟩]
  · rw [if_neg e]
    by_cases c : k = b + 7 ∧ 0 ≤ j ∧ j < i ∧ 0 < F (b+7) j
    · rw [if_pos c, if_pos ⟨c.1, c.2.1, by omega, c.2.2.2⟩]
    · rw [if_neg c, if_neg (fun q => c ⟨q.1, q.2.1, by omega, q.2.2.2⟩)]
theorem wnG_f {F : FF} {b : Nat} {i : Int} (h : ¬ 0 < F (b+7) i) : wnG F b i = wnG F b (i + 1) := by
  funext k j
  unfold wnG
  by_cases c : k = b + 7 ∧ 0 ≤ j ∧ j < i ∧ 0 < F (b+7) j
  · rw [if_pos c, if_pos ⟨c.1, c.2.1, by omega, c.2.2.2⟩]
  · rw [if_neg c, if_neg (fun q => c ⟨q.1, q.2.1, by
      by_cases k : j = i
      · rw [k] at q; exact absurd q.2.2.2 h
      · omega, q.2.2.2⟩)]
theorem wnG_i {F : FF} {b : Nat} {i : Int} : wnG F b i (b+7) i = F (b+7) i := by unfold wnG; rw [if_neg (by omega)]
theorem wnG_k {F : FF} {b k : Nat} {i : Int} (h : k ≠ b + 7) : wnG F b i k = F k := by
  funext j; unfold wnG; rw [if_neg (fun q => h q.1)]
theorem wnG_7 {F : FF} {b : Nat} {j : Int} (h0 : 0 ≤ j) (h1 : j < 4) : wnG F b 4 (b+7) j = if 0 < F (b+7) j then F (b+7) j - 1 else F (b+7) j := by
  unfold wnG
  by_cases c : 0 < F (b+7) j
  · rw [if_pos ⟨rfl, h0, h1, c⟩, if_pos c]
  · rw [if_neg (fun q => c q.2.2.2), if_neg c]
theorem cpF_at {F : FF} {a b : Nat} : cpF F a b b = F a := by funext j; exact if_pos rfl
theorem cpF_k {F : FF} {a b k : Nat} (h : k ≠ b) : cpF F a b k = F k := by funext j; exact if_neg h
theorem BI_cp {F F' : FF} {b o : Nat} {r : Rw} (hB : BI F o r) (h : ∀ i, 1 ≤ i → i ≤ 9 → F' (b + i) = F (o + i)) (h9 : F' b 9 = F o 9) (h10 : F' b 10 = F o 10) (h11 : F' b 11 = F o 11) (h12 : F' b 12 = F o 12) : BI F' b r := by
  unfold BI
  rw [h 1 (by omega) (by omega), h 2 (by omega) (by omega), h 3 (by omega) (by omega), h 4 (by omega) (by omega), h 5 (by omega) (by omega), h 6 (by omega) (by omega), h 7 (by omega) (by omega), h 8 (by omega) (by omega), h 9 (by omega) (by omega), h9, h10, h11, h12]
  exact hB
theorem IsB.apart {b o : Nat} (h : IsB b) (g : IsB o) (n : b ≠ o) : b + 9 < o ∨ o + 9 < b := by
  have : ∀ b ∈ [1, 11, 23, 33, 43, 53, 63, 73, 90, 100], ∀ o ∈ [1, 11, 23, 33, 43, 53, 63, 73, 90, 100], b ≠ o → b + 9 < o ∨ o + 9 < b := by decide
  exact this b h o g n
theorem BI.keep {F F' : FF} {b : Nat} {r : Rw} (hB : BI F b r) (h : ∀ k, b ≤ k → k ≤ b + 9 → F' k = F k) : BI F' b r :=
  BI_cp hB (fun i a c => h _ (by omega) (by omega)) (by rw [h b (by omega) (by omega)]) (by rw [h b (by omega) (by omega)]) (by rw [h b (by omega) (by omega)]) (by rw [h b (by omega) (by omega)])
theorem BI.fr {F F' : FF} {b o : Nat} {r : Rw} (hB : BI F b r) (hb : IsB b) (ho : IsB o) (n : b ≠ o) (h : Fr F F' o) : BI F' b r :=
  hB.keep (fun k a c => h k (by have := hb.apart ho n; omega))
