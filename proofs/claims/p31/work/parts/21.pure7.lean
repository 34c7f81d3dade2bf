/-! loans, settings, nights, copies: the row behind them -/
/-- rows that agree up to the loans say the same of lines and words -/
theorem iv_same {r s : Rw} (hI : Iv r) (h : ∀ j, 0 ≤ j → j < 112 → s j = r j) : (∀ x, home s x = home r x) ∧ (∀ x, plc s x = plc r x) ∧ cnt s = cnt r ∧ bg s = bg r ∧ (∀ l p, 0 ≤ l → l < 16 → 0 ≤ p → p < 6 → wa s l p = wa r l p) := by
  have hw : ∀ l p, 0 ≤ l → l < 16 → 0 ≤ p → p < 6 → wa s l p = wa r l p := fun l p a b c d => h _ (by omega) (by omega)
  have hp : ∀ l x, 0 ≤ l → l < 16 → pl s l x = pl r l x := by
    intro l x a b
    have hs := hI.sz a b
    unfold pl
    rw [h l (by omega) (by omega)]
    exact fs_congr hs.1 (fun i i0 i1 => by rw [hw l i a b i0 (by omega)])
  have hh : ∀ x, home s x = home r x := fun x => fs_congr (by omega) (fun i i0 i1 => by rw [hp i x i0 i1])
  refine ⟨hh, fun x => ?_, ?_, ?_, hw⟩
  · unfold plc
    rw [hh x]
    have hr := home_range r x
    split
    · rfl
    · exact hp _ x (by omega) (by omega)
  · exact sm_congr (fun i _ _ => by rw [hh i])
  · unfold bg
    rw [sm_congr (f := fun l => s l) (g := fun l => r l) (fun i a b => h i a (by omega))]
def lnd (r : Rw) (x z : Int) : Rw := fun j => if j = 112 + x then z + 1 else r j
def brb (r : Rw) (x : Int) : Rw := fun j => if j = 112 + x then 0 else r j
theorem lnd_iv {r : Rw} {x z : Int} (hI : Iv r) (hx : 0 ≤ x ∧ x < 16) (hz : 0 ≤ z ∧ z < 16) (hd : x / 4 ≠ z / 4) (h1 : 0 < r x) (h2 : 0 < r z) (h3 : r (112 + x) = 0) (h4 : bor r x = -1) (h5 : r (112 + z) = 0) (h6 : bor r z = -1) : Iv (lnd r x z) := by
  have hlo : ∀ j, 0 ≤ j → j < 112 → lnd r x z j = r j := fun j a b => if_neg (by omega)
  have hl : ∀ l, lnd r x z (112 + l) = if l = x then z + 1 else r (112 + l) := by
    intro l; unfold lnd
    by_cases e : l = x
    · rw [if_pos e, if_pos (by omega)]
    · rw [if_neg e, if_neg (by omega)]
  obtain ⟨e1, e2, e3, e4, e5⟩ := iv_same hI hlo
  refine ⟨?_, ?_, ?_, ?_, ?_, ?_, ?_, ?_, ?_, ?_, ?_⟩
  · intro l a b; rw [hlo l (by omega) (by omega)]; exact hI.sz a b
  · intro l p a b c d
    rw [hlo l (by omega) (by omega)] at d
    have := hI.sz a b
    rw [e5 l p a b c (by omega)]; exact hI.wd a b c d
  · intro l p l' p' a b c d a' b' c' d' e
    rw [hlo l (by omega) (by omega)] at d
    rw [hlo l' (by omega) (by omega)] at d'
    have := hI.sz a b
    have := hI.sz a' b'
    rw [e5 l p a b c (by omega), e5 l' p' a' b' c' (by omega)] at e
    exact hI.inj a b c d a' b' c' d' e
  · intro l p a b c d
    rw [hlo l (by omega) (by omega)] at c
    have := hI.sz a b
    rw [e5 l p a b (by omega) d]; exact hI.ze a b c d
  · intro l a b
    have := hI.ld a b
    rw [hl l]; split <;> omega
  · intro l a b c
    rw [hl l] at c ⊢
    by_cases e : l = x
    · subst e
      rw [if_pos rfl, hlo l (by omega) (by omega), show z + 1 - 1 = z by omega, hlo z (by omega) (by omega), hl z, if_neg (by intro q; subst q; exact hd rfl)]
      exact ⟨h1, h2, fun q => hd q.symm, h5⟩
    · rw [if_neg e] at c ⊢
      have hld := hI.ld a b
      obtain ⟨c1, c2, c3, c4⟩ := hI.lend a b c
      rw [hlo l (by omega) (by omega), hlo _ (by omega) (by omega), hl]
      refine ⟨c1, c2, c3, ?_⟩
      rw [if_neg (fun q => bor_no h4 a b (by omega))]; exact c4
  · intro l l' a b a' b' e c
    rw [hl l] at e c
    rw [hl l'] at e
    by_cases q : l = x
    · rw [if_pos q] at e
      by_cases q' : l' = x
      · omega
      · rw [if_neg q'] at e
        exact absurd e.symm (bor_no h6 a' b')
    · rw [if_neg q] at e c
      by_cases q' : l' = x
      · rw [if_pos q'] at e
        exact absurd e (bor_no h6 a b)
      · rw [if_neg q'] at e
        exact hI.one a b a' b' e c
  · intro d a b
    have : lnd r x z (128 + d) = r (128 + d) := if_neg (by omega)
    rw [this]; exact hI.wt a b
  · have h6 : lnd r x z 176 = r 176 := if_neg (by omega)
    have h7 : lnd r x z 177 = r 177 := if_neg (by omega)
    have h8 : lnd r x z 178 = r 178 := if_neg (by omega)
    rw [h6, h7, h8]; exact hI.se
  · rw [e3, e4]; exact hI.cn
  · intro j hj
    have : lnd r x z j = r j := if_neg (by omega)
    rw [this]; exact hI.zr hj
theorem BI_lnd {F : FF} {b : Nat} {r : Rw} {x z : Int} (hB : BI F b r) (hx : 0 ≤ x ∧ x < 16) (hz : 0 ≤ z ∧ z < 16) (hd : x / 4 ≠ z / 4) (h1 : 0 < r x) (h2 : 0 < r z) (h3 : r (112 + x) = 0) (h4 : bor r x = -1) (h5 : r (112 + z) = 0) (h6 : bor r z = -1) :
    BI (up (up F (b+4) x z) (b+5) z x) b (lnd r x z) := by
  have hI := hB.iv
  have hIv := lnd_iv hI hx hz hd h1 h2 h3 h4 h5 h6
  have hlo : ∀ j, 0 ≤ j → j < 112 → lnd r x z j = r j := fun j a b => if_neg (by omega)
  have hhi : ∀ j, 128 ≤ j → lnd r x z j = r j := fun j a => if_neg (by omega)
  have hl : ∀ l, lnd r x z (112 + l) = if l = x then z + 1 else r (112 + l) := by
    intro l; unfold lnd
    by_cases e : l = x
    · rw [if_pos e, if_pos (by omega)]
    · rw [if_neg e, if_neg (by omega)]
  obtain ⟨e1, e2, e3, e4, e5⟩ := iv_same hI hlo
  refine ⟨?_, ?_, ?_, ?_, ?_, ?_, ?_, ?_, ?_, ?_, ?_, ?_, ?_, hIv⟩
  · intro x' a c; rw [up_k (by omega), up_k (by omega), e1]; exact hB.h1 a c
  · intro l p a c d e
    rw [up_k (by omega), up_k (by omega), hlo l (by omega) (by omega), e5 l p a c d e]; exact hB.h2 a c d e
  · intro l a c; rw [up_k (by omega), up_k (by omega), hlo l (by omega) (by omega)]; exact hB.h3 a c
  · intro l a c
    rw [up_k (by omega), hl l]
    by_cases e : l = x
    · rw [e, up_eq, if_pos rfl]; omega
    · rw [up_j e, if_neg e]; exact hB.h4 a c
  · intro l a c
    by_cases e : l = z
    · rw [e, up_eq]
      refine (fs_is hx.1 hx.2 ?_ (fun i i0 i1 => ?_)).symm
      · rw [hl, if_pos rfl]; simp
      · rw [hl, if_neg (by omega)]
        simp only [decide_eq_false_iff_not]
        exact bor_no h6 i0 (by omega)
    · rw [up_j e, up_k (by omega), hB.h5 a c]
      refine (fs_congr (by omega) (fun i i0 i1 => ?_)).symm
      rw [hl]
      by_cases k : i = x
      · subst k
        rw [if_pos rfl, h3, decide_eq_false (by omega), decide_eq_false (by omega)]
      · rw [if_neg k]
  · intro x' a c; rw [up_k (by omega), up_k (by omega), hhi _ (by omega)]; exact hB.h6 a c
  · intro x' a c; rw [up_k (by omega), up_k (by omega), hhi _ (by omega)]; exact hB.h7 a c
  · intro x' a c; rw [up_k (by omega), up_k (by omega), hhi _ (by omega)]; exact hB.h8 a c
  · intro x' a c; rw [up_k (by omega), up_k (by omega), hhi _ (by omega)]; exact hB.h9 a c
  · rw [up_k (by omega), up_k (by omega), hhi _ (by omega)]; exact hB.nt
  · rw [up_k (by omega), up_k (by omega), hhi _ (by omega), hhi _ (by omega), hhi _ (by omega), hhi _ (by omega)]; exact hB.st
  · rw [up_k (by omega), up_k (by omega), hhi _ (by omega)]; exact hB.sh
  · rw [up_k (by omega), up_k (by omega), hhi _ (by omega)]; exact hB.rf
theorem brb_iv {r : Rw} {x : Int} (hI : Iv r) (hx : 0 ≤ x ∧ x < 16) : Iv (brb r x) := by
  have hlo : ∀ j, 0 ≤ j → j < 112 → brb r x j = r j := fun j a b => if_neg (by omega)
  have hl : ∀ l, brb r x (112 + l) = if l = x then 0 else r (112 + l) := by
    intro l; unfold brb
    by_cases e : l = x
    · rw [if_pos e, if_pos (by omega)]
    · rw [if_neg e, if_neg (by omega)]
  obtain ⟨e1, e2, e3, e4, e5⟩ := iv_same hI hlo
  refine ⟨?_, ?_, ?_, ?_, ?_, ?_, ?_, ?_, ?_, ?_, ?_⟩
  · intro l a b; rw [hlo l (by omega) (by omega)]; exact hI.sz a b
  · intro l p a b c d
    rw [hlo l (by omega) (by omega)] at d
    have := hI.sz a b
    rw [e5 l p a b c (by omega)]; exact hI.wd a b c d
  · intro l p l' p' a b c d a' b' c' d' e
    rw [hlo l (by omega) (by omega)] at d
    rw [hlo l' (by omega) (by omega)] at d'
    have := hI.sz a b
    have := hI.sz a' b'
    rw [e5 l p a b c (by omega), e5 l' p' a' b' c' (by omega)] at e
    exact hI.inj a b c d a' b' c' d' e
  · intro l p a b c d
    rw [hlo l (by omega) (by omega)] at c
    have := hI.sz a b
    rw [e5 l p a b (by omega) d]; exact hI.ze a b c d
  · intro l a b
    have := hI.ld a b
    rw [hl l]; split <;> omega
  · intro l a b c
    rw [hl l] at c ⊢
    by_cases e : l = x
    · rw [if_pos e] at c; omega
    · rw [if_neg e] at c ⊢
      have hld := hI.ld a b
      obtain ⟨c1, c2, c3, c4⟩ := hI.lend a b c
      rw [hlo l (by omega) (by omega), hlo _ (by omega) (by omega), hl]
      refine ⟨c1, c2, c3, ?_⟩
      split
      · rfl
      · exact c4
  · intro l l' a b a' b' e c
    rw [hl l] at e c
    rw [hl l'] at e
    by_cases q : l = x
    · rw [if_pos q] at c; omega
    · rw [if_neg q] at e c
      by_cases q' : l' = x
      · rw [if_pos q'] at e; omega
      · rw [if_neg q'] at e
        exact hI.one a b a' b' e c
  · intro d a b
    have : brb r x (128 + d) = r (128 + d) := if_neg (by omega)
    rw [this]; exact hI.wt a b
  · have h6 : brb r x 176 = r 176 := if_neg (by omega)
    have h7 : brb r x 177 = r 177 := if_neg (by omega)
    have h8 : brb r x 178 = r 178 := if_neg (by omega)
    rw [h6, h7, h8]; exact hI.se
  · rw [e3, e4]; exact hI.cn
  · intro j hj
    have : brb r x j = r j := if_neg (by omega)
    rw [this]; exact hI.zr hj
theorem BI_brb {F : FF} {b : Nat} {r : Rw} {x : Int} (hb : IsB b) (hB : BI F b r) (hx : 0 ≤ x ∧ x < 16) : BI (elF F b x) b (brb r x) := by
  have hI := hB.iv
  have hIv := brb_iv hI hx
  have hlo : ∀ j, 0 ≤ j → j < 112 → brb r x j = r j := fun j a b => if_neg (by omega)
  have hhi : ∀ j, 128 ≤ j → brb r x j = r j := fun j a => if_neg (by omega)
  have hl : ∀ l, brb r x (112 + l) = if l = x then 0 else r (112 + l) := by
    intro l; unfold brb
    by_cases e : l = x
    · rw [if_pos e, if_pos (by omega)]
    · rw [if_neg e, if_neg (by omega)]
  obtain ⟨e1, e2, e3, e4, e5⟩ := iv_same hI hlo
  obtain ⟨n4, n5⟩ := loans_el (f := 0) (r' := brb r x) (L := False) hb hI hx (fun l a c => hB.h4 a c) (fun l a c => hB.h5 a c) (fun l a c => by
    rw [hl l]
    exact ⟨fun e => if_pos e, fun _ _ h => h.elim, fun e _ => if_neg e⟩) (Or.inl ⟨rfl, id⟩)
  have ee : elo F b x 0 = elF F b x := by unfold elo; rw [if_pos rfl]
  rw [ee] at n4 n5
  refine ⟨?_, ?_, ?_, n4, n5, ?_, ?_, ?_, ?_, ?_, ?_, ?_, ?_, hIv⟩
  · intro x' a c; rw [elF_k (by omega) (by omega), e1]; exact hB.h1 a c
  · intro l p a c d e
    rw [elF_k (by omega) (by omega), hlo l (by omega) (by omega), e5 l p a c d e]; exact hB.h2 a c d e
  · intro l a c; rw [elF_k (by omega) (by omega), hlo l (by omega) (by omega)]; exact hB.h3 a c
  · intro x' a c; rw [elF_k (by omega) (by omega), hhi _ (by omega)]; exact hB.h6 a c
  · intro x' a c; rw [elF_k (by omega) (by omega), hhi _ (by omega)]; exact hB.h7 a c
  · intro x' a c; rw [elF_k (by omega) (by omega), hhi _ (by omega)]; exact hB.h8 a c
  · intro x' a c; rw [elF_k (by omega) (by omega), hhi _ (by omega)]; exact hB.h9 a c
  · rw [elF_k (by omega) (by omega), hhi _ (by omega)]; exact hB.nt
  · rw [elF_k (by omega) (by omega), hhi _ (by omega), hhi _ (by omega), hhi _ (by omega), hhi _ (by omega)]; exact hB.st
  · rw [elF_k (by omega) (by omega), hhi _ (by omega)]; exact hB.sh
  · rw [elF_k (by omega) (by omega), hhi _ (by omega)]; exact hB.rf
/-- rows that agree up to the watches say the same -/
theorem iv_hi {r s : Rw} (hI : Iv r) (h : ∀ j, 0 ≤ j → j < 128 → s j = r j) (hw : ∀ d, 0 ≤ d → d < 4 → 0 ≤ s (128 + d) ∧ s (128 + d) ≤ 9) (hs : 0 ≤ s 176 ∧ s 176 ≤ 1 ∧ 0 ≤ s 177 ∧ s 177 ≤ 200 ∧ 0 ≤ s 178 ∧ s 178 ≤ 9) (hz : ∀ j, ¬ (0 ≤ j ∧ j < 182) → s j = 0) :
    Iv s ∧ (∀ x, home s x = home r x) ∧ (∀ x, plc s x = plc r x) ∧ (∀ l, 0 ≤ l → l < 16 → bor s l = bor r l) ∧ (∀ l p, 0 ≤ l → l < 16 → 0 ≤ p → p < 6 → wa s l p = wa r l p) := by
  obtain ⟨e1, e2, e3, e4, e5⟩ := iv_same hI (fun j a b => h j a (by omega))
  refine ⟨⟨?_, ?_, ?_, ?_, ?_, ?_, ?_, hw, hs, ?_, hz⟩, e1, e2, fun l a b => fs_congr (by omega) (fun i i0 i1 => by rw [h (112 + i) (by omega) (by omega)]), e5⟩
  · intro l a b; rw [h l (by omega) (by omega)]; exact hI.sz a b
  · intro l p a b c d
    rw [h l (by omega) (by omega)] at d
    have := hI.sz a b
    rw [e5 l p a b c (by omega)]; exact hI.wd a b c d
  · intro l p l' p' a b c d a' b' c' d' e
    rw [h l (by omega) (by omega)] at d
    rw [h l' (by omega) (by omega)] at d'
    have := hI.sz a b
    have := hI.sz a' b'
    rw [e5 l p a b c (by omega), e5 l' p' a' b' c' (by omega)] at e
    exact hI.inj a b c d a' b' c' d' e
  · intro l p a b c d
    rw [h l (by omega) (by omega)] at c
    have := hI.sz a b
    rw [e5 l p a b (by omega) d]; exact hI.ze a b c d
  · intro l a b; rw [h _ (by omega) (by omega)]; exact hI.ld a b
  · intro l a b c
    have e1 := h (112 + l) (by omega) (by omega)
    rw [e1] at c ⊢
    have hld := hI.ld a b
    obtain ⟨c1, c2, c3, c4⟩ := hI.lend a b c
    rw [h l (by omega) (by omega), h _ (by omega) (by omega), h _ (by omega) (by omega)]
    exact ⟨c1, c2, c3, c4⟩
  · intro l l' a b a' b' e c
    rw [h _ (by omega) (by omega)] at e c
    rw [h _ (by omega) (by omega)] at e
    exact hI.one a b a' b' e c
  · rw [e3, e4]; exact hI.cn
/-- a Board whose lines and loans stay -/
theorem BI_hi {F F' : FF} {b : Nat} {r s : Rw} (hB : BI F b r) (h : ∀ j, 0 ≤ j → j < 128 → s j = r j) (hw : ∀ d, 0 ≤ d → d < 4 → 0 ≤ s (128 + d) ∧ s (128 + d) ≤ 9) (hs : 0 ≤ s 176 ∧ s 176 ≤ 1 ∧ 0 ≤ s 177 ∧ s 177 ≤ 200 ∧ 0 ≤ s 178 ∧ s 178 ≤ 9) (hz : ∀ j, ¬ (0 ≤ j ∧ j < 182) → s j = 0)
    (f1 : F' (b+1) = F (b+1)) (f2 : F' (b+2) = F (b+2)) (f3 : F' (b+3) = F (b+3)) (f4 : F' (b+4) = F (b+4)) (f5 : F' (b+5) = F (b+5))
    (f6 : ∀ x, 0 ≤ x → x < 40 → F' (b+6) x = s (136 + x)) (f7 : ∀ d, 0 ≤ d → d < 4 → F' (b+7) d = s (128 + d)) (f8 : ∀ d, 0 ≤ d → d < 4 → F' (b+8) d = s (132 + d)) (f9 : ∀ k, 0 ≤ k → k < 3 → F' (b+9) k = s (176 + k))
    (g1 : F' b 9 = s 179) (g2 : F' b 10 = s 132 + s 133 + s 134 + s 135) (g3 : F' b 11 = s 180) (g4 : F' b 12 = s 181) : BI F' b s := by
  obtain ⟨i1, i2, i3, i4, i5⟩ := iv_hi hB.iv h hw hs hz
  refine ⟨?_, ?_, ?_, ?_, ?_, f6, f7, f8, f9, g1, g2, g3, g4, i1⟩
  · intro x a c; rw [f1, i2]; exact hB.h1 a c
  · intro l p a c d e; rw [f2, h l (by omega) (by omega), i5 l p a c d e]; exact hB.h2 a c d e
  · intro l a c; rw [f3, h l (by omega) (by omega)]; exact hB.h3 a c
  · intro l a c; rw [f4, h _ (by omega) (by omega)]; exact hB.h4 a c
  · intro l a c; rw [f5, i4 l a c]; exact hB.h5 a c
def setr (r : Rw) (k v : Int) : Rw := fun j => if j = 176 + k then v else r j
def mostS (k : Int) : Int := if k = 0 then 1 else if k = 1 then 200 else 9
theorem BI_set {F : FF} {b : Nat} {r : Rw} {k v : Int} (hB : BI F b r) (hk : 0 ≤ k ∧ k < 3) (hv : 0 ≤ v ∧ v ≤ mostS k) : BI (up F (b+9) k v) b (setr r k v) := by
  have hI := hB.iv
  have hlo : ∀ j, j < 176 → setr r k v j = r j := fun j a => if_neg (by omega)
  have hhi : ∀ j, 179 ≤ j → setr r k v j = r j := fun j a => if_neg (by omega)
  have hs : ∀ i, setr r k v (176 + i) = if i = k then v else r (176 + i) := by
    intro i; unfold setr
    by_cases e : i = k
    · rw [if_pos e, if_pos (by omega)]
    · rw [if_neg e, if_neg (by omega)]
  have hse := hI.se
  refine BI_hi hB (fun j a c => hlo j (by omega)) (fun d a c => by rw [hlo _ (by omega)]; exact hI.wt a c) ?_ (fun j hj => by
      by_cases q : j < 176
      · rw [hlo j q]; exact hI.zr hj
      · rw [hhi j (by omega)]; exact hI.zr hj)
    (up_k (by omega)) (up_k (by omega)) (up_k (by omega)) (up_k (by omega)) (up_k (by omega))
    (fun x a c => by rw [up_k (by omega), hlo _ (by omega)]; exact hB.h6 a c) (fun x a c => by rw [up_k (by omega), hlo _ (by omega)]; exact hB.h7 a c) (fun x a c => by rw [up_k (by omega), hlo _ (by omega)]; exact hB.h8 a c) (fun i a c => ?_)
    (by rw [up_k (by omega), hhi _ (by omega)]; exact hB.nt) (by rw [up_k (by omega), hlo _ (by omega), hlo _ (by omega), hlo _ (by omega), hlo _ (by omega)]; exact hB.st)
    (by rw [up_k (by omega), hhi _ (by omega)]; exact hB.sh) (by rw [up_k (by omega), hhi _ (by omega)]; exact hB.rf)
  · have h0 := hs 0
    have h1 := hs 1
    have h2 := hs 2
    rw [show (176 : Int) + 0 = 176 by omega] at h0
    rw [show (176 : Int) + 1 = 177 by omega] at h1
    rw [show (176 : Int) + 2 = 178 by omega] at h2
    rw [h0, h1, h2]
    unfold mostS at hv
    rcases (show k = 0 ∨ k = 1 ∨ k = 2 by omega) with e | e | e <;> subst e <;> simp at hv ⊢ <;> omega
  · rw [hs i]
    by_cases e : i = k
    · rw [if_pos e, e, up_eq]
    · rw [if_neg e, up_j e]; exact hB.h9 a c
/-- a night passes: one more, the watches a night fewer -/
def wn (r : Rw) : Rw := fun j => if j = 179 then r 179 + 1 else if 128 ≤ j ∧ j < 132 ∧ 0 < r j then r j - 1 else r j
/-- the theft of a word that is on a line -/
def stl (r : Rw) (x : Int) : Rw := fun j =>
  if j = 136 + x then r j + 1 else if j = 132 + home r x / 4 then r j + 1 else if j = 128 + home r x / 4 then r 178 else rem r (home r x) (plc r x) j
def ng (r : Rw) : Rw := if tg r = -1 then wn r else stl (wn r) (pon r (tg r))
def ngs (r : Rw) : Nat → Rw
  | 0 => r
  | n + 1 => ng (ngs r n)
def rbs (r : Rw) : Int := r 132 + r 133 + r 134 + r 135
theorem wn_lo (r : Rw) {j : Int} (h : j < 128) : wn r j = r j := by unfold wn; rw [if_neg (by omega), if_neg (by omega)]
theorem wn_hi (r : Rw) {j : Int} (h : 132 ≤ j) (h2 : j ≠ 179) : wn r j = r j := by unfold wn; rw [if_neg h2, if_neg (by omega)]
theorem wn_w (r : Rw) {d : Int} (h0 : 0 ≤ d) (h1 : d < 4) : wn r (128 + d) = if 0 < r (128 + d) then r (128 + d) - 1 else r (128 + d) := by
  unfold wn
  rw [if_neg (by omega)]
  by_cases q : 0 < r (128 + d)
  · rw [if_pos q, if_pos (by omega)]
  · rw [if_neg q, if_neg (by omega)]
theorem wn_iv {r : Rw} (hI : Iv r) : Iv (wn r) ∧ (∀ x, home (wn r) x = home r x) ∧ (∀ x, plc (wn r) x = plc r x) ∧ (∀ l, 0 ≤ l → l < 16 → bor (wn r) l = bor r l) ∧ (∀ l p, 0 ≤ l → l < 16 → 0 ≤ p → p < 6 → wa (wn r) l p = wa r l p) :=
  iv_hi hI (fun j a b => wn_lo r b) (fun d a b => by have := hI.wt a b; rw [wn_w r a b]; split <;> omega) (by rw [wn_hi r (by omega) (by omega), wn_hi r (by omega) (by omega), wn_hi r (by omega) (by omega)]; exact hI.se) (fun j hj => by
    by_cases q : j < 128
    · rw [wn_lo r q]; exact hI.zr hj
    · rw [wn_hi r (by omega) (by omega)]; exact hI.zr hj)
theorem BI_wn {F F' : FF} {b : Nat} {r : Rw} (hB : BI F b r) (h : ∀ k, b < k → k ≤ b + 9 → k ≠ b + 7 → F' k = F k) (h7 : ∀ d, 0 ≤ d → d < 4 → F' (b+7) d = if 0 < F (b+7) d then F (b+7) d - 1 else F (b+7) d) (h9 : F' b 9 = F b 9 + 1) (h10 : F' b 10 = F b 10) (h11 : F' b 11 = F b 11) (h12 : F' b 12 = F b 12) : BI F' b (wn r) := by
  have hI := hB.iv
  refine BI_hi hB (fun j a c => wn_lo r c) (fun d a c => (wn_iv hI).1.wt a c) (wn_iv hI).1.se (fun j hj => (wn_iv hI).1.zr hj)
    (h _ (by omega) (by omega) (by omega)) (h _ (by omega) (by omega) (by omega)) (h _ (by omega) (by omega) (by omega)) (h _ (by omega) (by omega) (by omega)) (h _ (by omega) (by omega) (by omega))
    (fun x a c => by rw [h _ (by omega) (by omega) (by omega), wn_hi r (by omega) (by omega)]; exact hB.h6 a c)
    (fun d a c => by rw [h7 d a c, hB.h7 a c, wn_w r a c])
    (fun x a c => by rw [h _ (by omega) (by omega) (by omega), wn_hi r (by omega) (by omega)]; exact hB.h8 a c)
    (fun x a c => by rw [h _ (by omega) (by omega) (by omega), wn_hi r (by omega) (by omega)]; exact hB.h9 a c)
    (by rw [h9, hB.nt]; rfl) (by rw [h10, hB.st, wn_hi r (by omega) (by omega), wn_hi r (by omega) (by omega), wn_hi r (by omega) (by omega), wn_hi r (by omega) (by omega)])
    (by rw [h11, wn_hi r (by omega) (by omega)]; exact hB.sh) (by rw [h12, wn_hi r (by omega) (by omega)]; exact hB.rf)
theorem stl_lo {r : Rw} {x : Int} (hx0 : 0 ≤ x) (hh : -1 ≤ home r x) {j : Int} (h : j < 127) : stl r x j = rem r (home r x) (plc r x) j := by
  unfold stl; rw [if_neg (by omega), if_neg (by omega), if_neg (by omega)]
theorem stl_127 {r : Rw} {x : Int} (hx0 : 0 ≤ x) (hh : 0 ≤ home r x) {j : Int} (h : j < 128) : stl r x j = rem r (home r x) (plc r x) j := by
  unfold stl; rw [if_neg (by omega), if_neg (by omega), if_neg (by omega)]
theorem BI_stl {F F' : FF} {b : Nat} {r : Rw} {x : Int} (hx0 : 0 ≤ x ∧ x < 40) (hx : home r x ≠ -1) (hI : Iv r) (hB : BI F b (rem r (home r x) (plc r x)))
    (h : ∀ k, b < k → k ≤ b + 9 → k ≠ b + 6 → k ≠ b + 7 → k ≠ b + 8 → F' k = F k) (h6 : ∀ i, F' (b+6) i = if i = x then F (b+6) x + 1 else F (b+6) i) (h8 : ∀ i, F' (b+8) i = if i = home r x / 4 then F (b+8) (home r x / 4) + 1 else F (b+8) i)
    (h7 : ∀ i, F' (b+7) i = if i = home r x / 4 then F (b+9) 2 else F (b+7) i) (h9 : F' b 9 = F b 9) (h10 : F' b 10 = F b 10 + 1) (h11 : F' b 11 = F b 11) (h12 : F' b 12 = F b 12) : BI F' b (stl r x) := by
  obtain ⟨y0, y1, q0, q1, hw⟩ := home_at hI hx
  have hR := fun j (hj : ¬ (0 ≤ j ∧ j < 128)) => rem_hi (r := r) (y := home r x) (q := plc r x) hI ⟨y0, y1⟩ ⟨q0, q1⟩ (j := j) hj
  have hse := hI.se
  have s6 : ∀ i, 0 ≤ i → i < 40 → stl r x (136 + i) = if i = x then r (136 + i) + 1 else r (136 + i) := by
    intro i a c; unfold stl
    by_cases e : i = x
    · rw [if_pos e, if_pos (by omega)]
    · rw [if_neg e, if_neg (by omega), if_neg (by omega), if_neg (by omega), hR _ (by omega)]
  have s8 : ∀ d, 0 ≤ d → d < 4 → stl r x (132 + d) = if d = home r x / 4 then r (132 + d) + 1 else r (132 + d) := by
    intro i a c; unfold stl
    by_cases e : i = home r x / 4
    · rw [if_pos e, if_neg (by omega), if_pos (by omega)]
    · rw [if_neg e, if_neg (by omega), if_neg (by omega), if_neg (by omega), hR _ (by omega)]
  have s7 : ∀ d, 0 ≤ d → d < 4 → stl r x (128 + d) = if d = home r x / 4 then r 178 else r (128 + d) := by
    intro i a c; unfold stl
    by_cases e : i = home r x / 4
    · rw [if_pos e, if_neg (by omega), if_neg (by omega), if_pos (by omega)]
    · rw [if_neg e, if_neg (by omega), if_neg (by omega), if_neg (by omega), hR _ (by omega)]
  have sh : ∀ j, 176 ≤ j → stl r x j = r j := by
    intro j a; unfold stl
    rw [if_neg (by omega), if_neg (by omega), if_neg (by omega), hR _ (by omega)]
  have sn : ∀ j, j < 0 → stl r x j = r j := by
    intro j a; unfold stl
    rw [if_neg (by omega), if_neg (by omega), if_neg (by omega), hR _ (by omega)]
  refine BI_hi hB (fun j a c => stl_127 hx0.1 y0 c) (fun d a c => by rw [s7 d a c]; have := hI.wt a c; split <;> omega) (by rw [sh _ (by omega), sh _ (by omega), sh _ (by omega)]; exact hse) (fun j hj => by
      by_cases q : j < 0
      · rw [sn j q]; exact hI.zr hj
      · rw [sh j (by omega)]; exact hI.zr hj)
    (h _ (by omega) (by omega) (by omega) (by omega) (by omega)) (h _ (by omega) (by omega) (by omega) (by omega) (by omega)) (h _ (by omega) (by omega) (by omega) (by omega) (by omega)) (h _ (by omega) (by omega) (by omega) (by omega) (by omega)) (h _ (by omega) (by omega) (by omega) (by omega) (by omega))
    (fun i a c => ?_) (fun i a c => ?_) (fun i a c => ?_) (fun i a c => ?_) ?_ ?_ ?_ ?_
  · rw [h6, s6 i a c]
    have e1 := hB.h6 hx0.1 hx0.2
    have e2 := hB.h6 a c
    rw [hR _ (by omega)] at e1 e2
    by_cases e : i = x
    · rw [if_pos e, if_pos e, e1, e]
    · rw [if_neg e, if_neg e, e2]
  · rw [h7, s7 i a c]
    have e1 := hB.h9 (x := 2) (by omega) (by omega)
    have e2 := hB.h7 a c
    rw [hR _ (by omega)] at e1 e2
    by_cases e : i = home r x / 4
    · rw [if_pos e, if_pos e, e1]; rfl
    · rw [if_neg e, if_neg e, e2]
  · rw [h8, s8 i a c]
    have e1 := hB.h8 (x := home r x / 4) (by omega) (by omega)
    have e2 := hB.h8 a c
    rw [hR _ (by omega)] at e1 e2
    by_cases e : i = home r x / 4
    · rw [if_pos e, if_pos e, e1, e]
    · rw [if_neg e, if_neg e, e2]
  · rw [h _ (by omega) (by omega) (by omega) (by omega) (by omega), sh _ (by omega)]
    have e2 := hB.h9 a c
    rw [hR _ (by omega)] at e2
    exact e2
  · have e := hB.nt
    rw [hR _ (by omega)] at e
    rw [h9, e, sh _ (by omega)]
  · have e := hB.st
    rw [hR _ (by omega), hR _ (by omega), hR _ (by omega), hR _ (by omega)] at e
    have t0 := s8 0 (by omega) (by omega)
    have t1 := s8 1 (by omega) (by omega)
    have t2 := s8 2 (by omega) (by omega)
    have t3 := s8 3 (by omega) (by omega)
    rw [show (132 : Int) + 0 = 132 by omega] at t0
    rw [show (132 : Int) + 1 = 133 by omega] at t1
    rw [show (132 : Int) + 2 = 134 by omega] at t2
    rw [show (132 : Int) + 3 = 135 by omega] at t3
    rw [h10, e, t0, t1, t2, t3]
    rcases (show home r x / 4 = 0 ∨ home r x / 4 = 1 ∨ home r x / 4 = 2 ∨ home r x / 4 = 3 by omega) with q | q | q | q <;> rw [q] <;> simp <;> omega
  · have e := hB.sh
    rw [hR _ (by omega)] at e
    rw [h11, e, sh _ (by omega)]
  · have e := hB.rf
    rw [hR _ (by omega)] at e
    rw [h12, e, sh _ (by omega)]
