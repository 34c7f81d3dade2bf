/-! the table behind the law's calls -/
theorem LwP.ge {w : WP} {a N : Nat} (h : LwP w a N) : 110 ≤ a := by
  have h1 : ∀ k, k < 110 → kd k ≠ 9 := by decide +kernel
  apply Classical.byContradiction
  intro g
  exact h1 a (by omega) h.1
theorem LwP.ex {w w' : WP} {a N : Nat} (h : LwP w a N) (hE : Ex w w') : LwP w' a N := ⟨h.1, by rw [hE.2.2.2.1]; exact Nat.lt_succ_of_lt h.2.1, h.2.2⟩
theorem CI.law {F F' : FF} {A : AS} (h : CI F A) (hf : ∀ k, k < 110 → F' k = F k) : CI F' A := h.keep (fun k a _ _ => hf k a)
def T4 (F : FF) (a b n t : Nat) (r : Rw) : Prop := TW F a r ∧ TL F b r ∧ TN F n r ∧ TT F t r
theorem T4.kC {F F' : FF} {a b n t : Nat} {r : Rw} (h : T4 F a b n t r) (ha : 110 ≤ a) (hb : 110 ≤ b) (hn : 110 ≤ n) (ht : 110 ≤ t) (hf : FrC F F') : T4 F' a b n t r :=
  ⟨h.1.k (hf a ha), h.2.1.k (hf b hb), h.2.2.1.k (hf n hn), h.2.2.2.k (hf t ht)⟩
theorem TA.t4 {F : FF} {a b n t : Nat} {r : Rw} (h : TA F a b n t r) : T4 F a b n t r := ⟨h.1, h.2.1, h.2.2.1, h.2.2.2.1⟩
theorem T4.ta {F : FF} {a b n t : Nat} {r : Rw} (h : T4 F a b n t r) (hI : Iv r) : TA F a b n t r := ⟨h.1, h.2.1, h.2.2.1, h.2.2.2, hI⟩
def ActQ (F' : FF) (a b n t : Nat) (A : AS) : Prop := ∃ N : AS, TA F' a b n t N.r ∧ CI F' N ∧ N.r 179 ≤ A.r 179 + 20
theorem ActQ.refl {F : FF} {a b n t : Nat} {A : AS} (h : TA F a b n t A.r) (hA : CI F A) : ActQ F a b n t A := ⟨A, h, hA, by omega⟩
theorem ActQ.mk {F F' : FF} {a b n t : Nat} {A N : AS} (h : T4 F a b n t N.r) (ha : 110 ≤ a) (hb : 110 ≤ b) (hn : 110 ≤ n) (ht : 110 ≤ t) (hJ : CJ F F' N) (hq : N.r 179 ≤ A.r 179 + 20) : ActQ F' a b n t A :=
  ⟨N, (h.kC ha hb hn ht hJ.2).ta hJ.1.b.iv, hJ.1, hq⟩
theorem T4_ch {G : FF} {a b n t : Nat} {r s : Rw} (hW : TW G a s) (hL : TL G b s) (hN : TN G n r) (hT : TT G t r) (hs : ∀ j, ¬ (0 ≤ j ∧ j < 128) → s j = r j) : T4 G a b n t s := by
  obtain ⟨⟨n0, n1, n2, n3, n4, n5⟩, n6⟩ := hN
  refine ⟨hW, hL, ⟨⟨?_, ?_, ?_, ?_, ?_, ?_⟩, fun d d0 d1 => ?_⟩, fun x x0 x1 => ?_⟩
  · rw [hs _ (by omega)]; exact n0
  · rw [hs _ (by omega)]; exact n1
  · rw [hs _ (by omega)]; exact n2
  · rw [hs _ (by omega)]; exact n3
  · rw [hs _ (by omega)]; exact n4
  · rw [hs _ (by omega)]; exact n5
  · rw [hs _ (by omega), hs _ (by omega)]; exact n6 d d0 d1
  · rw [hs _ (by omega)]; exact hT x x0 x1
theorem T4_pt {G : FF} {a b n t : Nat} {s : Rw} {z : Int} (h : T4 G a b n t s) (hI : Iv s) (ha : a ≠ n) (hb : b ≠ n) (ht : t ≠ n) (hz : z = s 180 + 1) : T4 (up G n 4 z) a b n t (pt s) := by
  obtain ⟨hW, hL, ⟨⟨n0, n1, n2, n3, n4, n5⟩, n6⟩, hT⟩ := h
  have e : ∀ j, j ≠ 180 → pt s j = s j := fun j h => if_neg h
  subst hz
  refine ⟨fun x x0 x1 => ?_, fun x x0 x1 => ?_, ⟨⟨?_, ?_, ?_, ?_, ?_, ?_⟩, fun d d0 d1 => ?_⟩, fun x x0 x1 => ?_⟩
  · rw [up_k ha, hW x x0 x1, whv_cg hI (fun j _ j1 => e j (by omega))]
  · rw [up_k hb, hL x x0 x1, e _ (by omega)]
  · rw [up_j (by omega), e _ (by omega)]; exact n0
  · rw [up_j (by omega), e _ (by omega)]; exact n1
  · rw [up_j (by omega), e _ (by omega)]; exact n2
  · rw [up_j (by omega), e _ (by omega)]; exact n3
  · rw [up_eq]; exact (if_pos rfl).symm
  · rw [up_j (by omega), e _ (by omega)]; exact n5
  · rw [up_j (by omega), up_j (by omega), e _ (by omega), e _ (by omega)]; exact n6 d d0 d1
  · rw [up_k ht, hT x x0 x1, e _ (by omega)]
theorem T4_rf {G : FF} {a b n t : Nat} {s : Rw} {z : Int} (h : T4 G a b n t s) (hI : Iv s) (ha : a ≠ n) (hb : b ≠ n) (ht : t ≠ n) (hz : z = s 181 + 1) : T4 (up G n 5 z) a b n t (rf s) := by
  obtain ⟨hW, hL, ⟨⟨n0, n1, n2, n3, n4, n5⟩, n6⟩, hT⟩ := h
  have e : ∀ j, j ≠ 181 → rf s j = s j := fun j h => if_neg h
  subst hz
  refine ⟨fun x x0 x1 => ?_, fun x x0 x1 => ?_, ⟨⟨?_, ?_, ?_, ?_, ?_, ?_⟩, fun d d0 d1 => ?_⟩, fun x x0 x1 => ?_⟩
  · rw [up_k ha, hW x x0 x1, whv_cg hI (fun j _ j1 => e j (by omega))]
  · rw [up_k hb, hL x x0 x1, e _ (by omega)]
  · rw [up_j (by omega), e _ (by omega)]; exact n0
  · rw [up_j (by omega), e _ (by omega)]; exact n1
  · rw [up_j (by omega), e _ (by omega)]; exact n2
  · rw [up_j (by omega), e _ (by omega)]; exact n3
  · rw [up_j (by omega), e _ (by omega)]; exact n4
  · rw [up_eq]; exact (if_pos rfl).symm
  · rw [up_j (by omega), up_j (by omega), e _ (by omega), e _ (by omega)]; exact n6 d d0 d1
  · rw [up_k ht, hT x x0 x1, e _ (by omega)]
theorem T4_lnd {F : FF} {a b n t : Nat} {r : Rw} {x y : Int} (h : T4 F a b n t r) (hI : Iv r) (ha : a ≠ b) (hn : n ≠ b) (ht : t ≠ b) (hx : 0 ≤ x ∧ x < 16) : T4 (up F b x y) a b n t (lnd r x y) := by
  obtain ⟨hW, hL, hN, hT⟩ := h
  have e : ∀ j, j ≠ 112 + x → lnd r x y j = r j := fun j h => if_neg h
  refine T4_ch (r := r) (fun j j0 j1 => ?_) (fun j j0 j1 => ?_) (hN.k (up_k hn)) (hT.k (up_k ht)) (fun j hj => e j (by omega))
  · rw [up_k ha, hW j j0 j1, whv_cg hI (fun i _ i1 => e i (by omega))]
  · by_cases g : j = x
    · rw [g, up_eq]
      show y = (if 112 + x = 112 + x then y + 1 else r (112 + x)) - 1
      rw [if_pos rfl]; omega
    · rw [up_j g, hL j j0 j1, e _ (by omega)]
theorem T4_brb {F : FF} {a b n t : Nat} {r : Rw} {x : Int} (h : T4 F a b n t r) (hI : Iv r) (ha : a ≠ b) (hn : n ≠ b) (ht : t ≠ b) (hx : 0 ≤ x ∧ x < 16) : T4 (up F b x (-1)) a b n t (brb r x) := by
  obtain ⟨hW, hL, hN, hT⟩ := h
  have e : ∀ j, j ≠ 112 + x → brb r x j = r j := fun j h => if_neg h
  refine T4_ch (r := r) (fun j j0 j1 => ?_) (fun j j0 j1 => ?_) (hN.k (up_k hn)) (hT.k (up_k ht)) (fun j hj => e j (by omega))
  · rw [up_k ha, hW j j0 j1, whv_cg hI (fun i _ i1 => e i (by omega))]
  · by_cases g : j = x
    · rw [g, up_eq]
      show -1 = (if 112 + x = 112 + x then 0 else r (112 + x)) - 1
      rw [if_pos rfl]; rfl
    · rw [up_j g, hL j j0 j1, e _ (by omega)]
theorem T4_set {F : FF} {a b n t : Nat} {r : Rw} {k v : Int} (h : T4 F a b n t r) (hI : Iv r) (ha : a ≠ n) (hb : b ≠ n) (ht : t ≠ n) (hk : 0 ≤ k ∧ k < 3) : T4 (up F n k v) a b n t (setr r k v) := by
  obtain ⟨hW, hL, ⟨⟨n0, n1, n2, n3, n4, n5⟩, n6⟩, hT⟩ := h
  have e : ∀ j, j ≠ 176 + k → setr r k v j = r j := fun j h => if_neg h
  have e2 : ∀ j, j = 176 + k → setr r k v j = v := fun j h => if_pos h
  refine ⟨fun x x0 x1 => ?_, fun x x0 x1 => ?_, ⟨⟨?_, ?_, ?_, ?_, ?_, ?_⟩, fun d d0 d1 => ?_⟩, fun x x0 x1 => ?_⟩
  · rw [up_k ha, hW x x0 x1, whv_cg hI (fun j _ j1 => e j (by omega))]
  · rw [up_k hb, hL x x0 x1, e _ (by omega)]
  · by_cases g : k = 0
    · rw [e2 _ (by omega), g, up_eq]
    · rw [up_j (by omega), e _ (by omega)]; exact n0
  · by_cases g : k = 1
    · rw [e2 _ (by omega), g, up_eq]
    · rw [up_j (by omega), e _ (by omega)]; exact n1
  · by_cases g : k = 2
    · rw [e2 _ (by omega), g, up_eq]
    · rw [up_j (by omega), e _ (by omega)]; exact n2
  · rw [up_j (by omega), e _ (by omega)]; exact n3
  · rw [up_j (by omega), e _ (by omega)]; exact n4
  · rw [up_j (by omega), e _ (by omega)]; exact n5
  · rw [up_j (by omega), up_j (by omega), e _ (by omega), e _ (by omega)]; exact n6 d d0 d1
  · rw [up_k ht, hT x x0 x1, e _ (by omega)]
theorem TN_3 {F : FF} {n : Nat} {r : Rw} {k : Int} (h : TN F n r) (hk : 0 ≤ k ∧ k < 3) : F n k = r (176 + k) := by
  obtain ⟨⟨n0, n1, n2, _⟩, _⟩ := h
  rcases (show k = 0 ∨ k = 1 ∨ k = 2 by omega) with e | e | e
  · rw [e]; exact n0
  · rw [e]; exact n1
  · rw [e]; exact n2
theorem bag_0 {r : Rw} (hI : Iv r) (h : ∀ x, 0 ≤ x → x < 40 → ¬ (home r x = -1 ↔ (1 : Int) = 1)) : bg r = 0 := by
  rw [← hI.cn]
  unfold cnt
  exact sm_z (fun i a b => if_neg (fun e => h i a b ⟨fun _ => rfl, fun _ => e⟩))
theorem bag_40 {r : Rw} (hI : Iv r) (h : ∀ x, 0 ≤ x → x < 40 → ¬ (home r x = -1 ↔ (0 : Int) = 1)) : bg r = 40 := by
  rw [← hI.cn]
  unfold cnt
  have e : sm (fun x => if home r x = -1 then 1 else 0) 40 = sm (fun _ => 1) 40 := sm_congr (fun i a b => by
    by_cases g : home r i = -1
    · exact if_pos g
    · exact absurd ⟨fun q => absurd q g, fun q => absurd q (by decide)⟩ (h i a b))
  rw [e]; rfl
theorem le_lnd {r : Rw} {x y : Int} (hx : 0 ≤ x ∧ x < 16) (hy : 0 ≤ y ∧ y < 16) (hw : 0 < r x) (hs : 0 ≤ r y ∧ r y ≤ 6) : le (lnd r x y) x = en (la r y) := by
  have e : ∀ j, j ≠ 112 + x → lnd r x y j = r j := fun j h => if_neg h
  have e2 : lnd r x y (112 + x) = y + 1 := if_pos rfl
  unfold le
  rw [e x (by omega), if_neg (by omega), e2, if_pos (by omega), show y + 1 - 1 = y by omega]
  unfold la wa
  rw [e y (by omega)]
  by_cases g : r y = 0
  · rw [if_pos g, if_pos g]
  · rw [if_neg g, if_neg g, e _ (by omega)]
theorem le_brb {r : Rw} {x : Int} (hx : 0 ≤ x ∧ x < 16) (hw : 0 < r x) (hs : 0 ≤ r x ∧ r x ≤ 6) : le (brb r x) x = en (la r x) := by
  have e : ∀ j, j ≠ 112 + x → brb r x j = r j := fun j h => if_neg h
  have e2 : brb r x (112 + x) = 0 := if_pos rfl
  unfold le
  rw [e x (by omega), if_neg (by omega), e2, if_neg (by omega)]
  unfold la wa
  rw [e x (by omega), if_neg (by omega), if_neg (by omega), e _ (by omega)]
theorem lnt_0 {r : Rw} (h : ∀ l, 0 ≤ l → l < 16 → ¬ 0 < r (112 + l)) : lnt r = 0 := sm_z (fun i a b => if_neg (h i a b))
theorem mostS_c (k : Int) : (k = 0 → mostS k = 1) ∧ (k = 1 → mostS k = 200) ∧ (k = 2 → mostS k = 9) := by
  refine ⟨fun e => ?_, fun e => ?_, fun e => ?_⟩ <;> subst e <;> decide
def srI (x c : Int) : Int := (iI x >>> (iI c &&& 31)).toInt
theorem srI_e (x c : Int) : iI x >>> (iI c &&& 31) = iI (srI x c) := (Int32.ofInt_toInt _).symm
/-- a door cleared word by word -/
theorem clr_end {r s : Rw} {d m i : Int} (hI : Iv s) (hd : 0 ≤ d ∧ d < 4) (hc : clr s d = clr r d) (hm : m = dwo r d - dwo s d) (hi : 40 ≤ i) (h : ∀ x, 0 ≤ x → x < i → home s x = -1 ∨ home s x / 4 ≠ d) : s = clr r d ∧ m = dwo r d := by
  have h0 := door_empty hI hd (fun x x0 x1 => h x x0 (by omega))
  refine ⟨by rw [← hc, clr_self hI hd h0], ?_⟩
  rw [hm, dwo_0 h0]; omega
theorem clr_step {r s : Rw} {d m i : Int} (hI : Iv s) (hi : 0 ≤ i ∧ i < 40) (hh : 0 ≤ home s i ∧ home s i / 4 = d) (hc : clr s d = clr r d) (hm : m = dwo r d - dwo s d) (h : ∀ x, 0 ≤ x → x < i → home s x = -1 ∨ home s x / 4 ≠ d) :
    Iv (rem s (home s i) (plc s i)) ∧ clr (rem s (home s i) (plc s i)) d = clr r d ∧ m + 1 = dwo r d - dwo (rem s (home s i) (plc s i)) d ∧ (∀ x, 0 ≤ x → x < i + 1 → home (rem s (home s i) (plc s i)) x = -1 ∨ home (rem s (home s i) (plc s i)) x / 4 ≠ d) ∧ ∀ j, ¬ (0 ≤ j ∧ j < 128) → rem s (home s i) (plc s i) j = s j := by
  obtain ⟨y0, y1, q0, q1, hw⟩ := home_at hI (x := i) (by omega)
  refine ⟨rem_iv hI ⟨y0, y1⟩ ⟨q0, q1⟩, by rw [clr_rem hI ⟨y0, y1⟩ ⟨q0, q1⟩ hh.2]; exact hc, by rw [dwo_rem hI ⟨y0, y1⟩ ⟨q0, q1⟩ hh.2]; omega, fun x x0 x1 => ?_, fun j hj => rem_hi hI ⟨y0, y1⟩ ⟨q0, q1⟩ hj⟩
  rw [rem_home hI ⟨y0, y1⟩ ⟨q0, q1⟩, hw]
  by_cases g : x = i
  · rw [if_pos g]; exact Or.inl rfl
  · rw [if_neg g]; exact h x x0 (by omega)
theorem clr_skip {s : Rw} {d i : Int} (hn : home s i = -1 ∨ home s i / 4 ≠ d) (h : ∀ x, 0 ≤ x → x < i → home s x = -1 ∨ home s x / 4 ≠ d) : ∀ x, 0 ≤ x → x < i + 1 → home s x = -1 ∨ home s x / 4 ≠ d := by
  intro x x0 x1
  by_cases g : x = i
  · rw [g]; exact hn
  · exact h x x0 (by omega)
/-- the first loan from a number on -/
def LD (r : Rw) (f j l : Int) : Prop := (l = -1 ∧ ∀ i, 0 ≤ i → i < j → ¬ 0 < r (112 + (f + i) % 16)) ∨ ((0 ≤ l ∧ l < 16) ∧ 0 < r (112 + l))
theorem LD_0 {r : Rw} {f : Int} : LD r f 0 (-1) := Or.inl ⟨rfl, fun i a b => by omega⟩
theorem LD_rng {r : Rw} {f j l : Int} (h : LD r f j l) : -1 ≤ l ∧ l < 16 := by rcases h with ⟨a, _⟩ | ⟨a, _⟩ <;> omega
theorem LD_no {r : Rw} {f j l : Int} (h : LD r f j l) (hl : l < 0) (hn : ¬ 0 < r (112 + (f + j) % 16)) : LD r f (j + 1) (-1) := by
  rcases h with ⟨a, b⟩ | ⟨a, b⟩
  · refine Or.inl ⟨rfl, fun i i0 i1 => ?_⟩
    by_cases g : i = j
    · rw [g]; exact hn
    · exact b i i0 (by omega)
  · omega
theorem LD_in {r : Rw} {f j : Int} (h : 0 < r (112 + (f + j) % 16)) : LD r f (j + 1) ((f + j) % 16) := Or.inr ⟨by omega, h⟩
theorem LD_none {r : Rw} {f j l : Int} (h : LD r f j l) (hf : 0 ≤ f ∧ f < 16) (hl : l < 0) (hj : 16 ≤ j) : lnt r = 0 := by
  rcases h with ⟨a, b⟩ | ⟨a, b⟩
  · refine lnt_0 (fun i i0 i1 => ?_)
    have := b ((i - f) % 16) (by omega) (by omega)
    rw [show (f + (i - f) % 16) % 16 = i by omega] at this
    exact this
  · omega
theorem LD_some {r : Rw} {f j l : Int} (h : LD r f j l) (hl : 0 ≤ l) : (0 ≤ l ∧ l < 16) ∧ 0 < r (112 + l) := h.resolve_left (fun q => by omega)
