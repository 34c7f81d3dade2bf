/-! raw changes of a Board's cells, and the Board behind them -/
def cl (F : FF) (a : Nat) (i : Int) : Int := if 0 ≤ i ∧ i < ln a then F a i else -1
def upc (F : FF) (a : Nat) (i v : Int) : FF := if 0 ≤ i ∧ i < ln a then up F a i v else F
def elF (F : FF) (b : Nat) (x : Int) : FF := upc (upc F (b+4) x (-1)) (b+5) (cl F (b+4) x) (-1)
def elo (F : FF) (b : Nat) (x f : Int) : FF := if f = 0 then elF F b x else elF (elF F b x) b (cl (elF F b x) (b+5) x)
def LR (F : FF) (b : Nat) : Prop := ∀ i, 0 ≤ i → i < 16 → -1 ≤ F (b+4) i ∧ F (b+4) i < 16 ∧ -1 ≤ F (b+5) i ∧ F (b+5) i < 16
def shG (F : FF) (b : Nat) (y i n : Int) : FF := fun k j => if k = b+2 ∧ 6*y+i < j ∧ j ≤ 6*y+n then F (b+2) (j-1) else F k j
def sgG (F : FF) (b : Nat) (y q i : Int) : FF := fun k j => if k = b+2 ∧ 6*y+q ≤ j ∧ j < 6*y+i then F (b+2) (j+1) else F k j
theorem up_eq {F : FF} {k : Nat} {i z : Int} : up F k i z k i = z := if_pos ⟨rfl, rfl⟩
theorem up_k {F : FF} {k k' : Nat} {i z : Int} (h : k' ≠ k) : up F k i z k' = F k' := by
  funext j; unfold up; rw [if_neg (fun q => h q.1)]
theorem up_j {F : FF} {k : Nat} {i j z : Int} (h : j ≠ i) : up F k i z k j = F k j := if_neg (fun q => h q.2)
theorem upc_k {F : FF} {k k' : Nat} {i z : Int} (h : k' ≠ k) : upc F k i z k' = F k' := by
  unfold upc; split
  · exact up_k h
  · rfl
theorem elF_k {F : FF} {b k : Nat} {x : Int} (h4 : k ≠ b+4) (h5 : k ≠ b+5) : elF F b x k = F k := by
  unfold elF; rw [upc_k h5, upc_k h4]
theorem elo_k {F : FF} {b k : Nat} {x f : Int} (h4 : k ≠ b+4) (h5 : k ≠ b+5) : elo F b x f k = F k := by
  unfold elo; split
  · exact elF_k h4 h5
  · rw [elF_k h4 h5, elF_k h4 h5]
theorem LR.up {F : FF} {b k : Nat} {i z : Int} (h : LR F b) (h4 : b+4 ≠ k) (h5 : b+5 ≠ k) : LR (up F k i z) b := by
  intro j a c; rw [up_k h4, up_k h5]; exact h j a c
theorem LR.sh {F : FF} {b : Nat} {y i n : Int} (h : LR F b) : LR (shG F b y i n) b := by
  intro j a c
  have e4 : shG F b y i n (b+4) j = F (b+4) j := if_neg (by omega)
  have e5 : shG F b y i n (b+5) j = F (b+5) j := if_neg (by omega)
  rw [e4, e5]; exact h j a c
theorem LR.sg {F : FF} {b : Nat} {y q i : Int} (h : LR F b) : LR (sgG F b y q i) b := by
  intro j a c
  have e4 : sgG F b y q i (b+4) j = F (b+4) j := if_neg (by omega)
  have e5 : sgG F b y q i (b+5) j = F (b+5) j := if_neg (by omega)
  rw [e4, e5]; exact h j a c
theorem LR.of {F : FF} {b : Nat} {r : Rw} (h : BI F b r) : LR F b := by
  intro j a c
  have h1 := h.iv.ld a c
  have h2 := bor_range r j
  rw [h.h4 a c, h.h5 a c]; omega
theorem cl4 {F : FF} {b : Nat} (hb : IsB b) (h : LR F b) (x : Int) : -1 ≤ cl F (b+4) x ∧ cl F (b+4) x < 16 := by
  unfold cl; rw [hb.n4]; split
  · rename_i q; have := h x q.1 q.2; omega
  · omega
theorem cl5 {F : FF} {b : Nat} (hb : IsB b) (h : LR F b) (x : Int) : -1 ≤ cl F (b+5) x ∧ cl F (b+5) x < 16 := by
  unfold cl; rw [hb.n5]; split
  · rename_i q; have := h x q.1 q.2; omega
  · omega
theorem upc_at {F : FF} {k : Nat} {i j z : Int} : upc F k i z k j = if j = i ∧ 0 ≤ i ∧ i < ln k then z else F k j := by
  unfold upc
  by_cases a : 0 ≤ i ∧ i < ln k
  · rw [if_pos a]
    by_cases c : j = i
    · rw [if_pos ⟨c, a⟩, c, up_eq]
    · rw [if_neg (fun q => c q.1), up_j c]
  · rw [if_neg a, if_neg (fun q => a q.2)]
theorem elF_4 {F : FF} {b : Nat} {x j : Int} (hb : IsB b) : elF F b x (b+4) j = if j = x ∧ 0 ≤ x ∧ x < 16 then -1 else F (b+4) j := by
  unfold elF
  rw [upc_k (by omega), upc_at, hb.n4]; rfl
theorem elF_5 {F : FF} {b : Nat} {x j : Int} (hb : IsB b) : elF F b x (b+5) j = if j = cl F (b+4) x ∧ 0 ≤ cl F (b+4) x ∧ cl F (b+4) x < 16 then -1 else F (b+5) j := by
  unfold elF
  rw [upc_at, hb.n5, upc_k (by omega)]; rfl
theorem LR.el {F : FF} {b : Nat} {x : Int} (hb : IsB b) (h : LR F b) : LR (elF F b x) b := by
  intro j a c
  have := h j a c
  rw [elF_4 hb, elF_5 hb]
  split <;> split <;> omega
section CRAW
variable {w : WP} {F : FF} {b : Nat}
theorem k_clr {a : Nat} {x : Int} (l : Launch) (hk : kd a = 5) (hx : inR x) : Con l yX3_cell cX3_cell 2 (some .int) 0 w [.ref (adr w a), .int (iI x)] F (QI w (fun z F' => z = cl F a x ∧ F = F')) := (k_X3_cell l hk hx).post (fun z F' h => ⟨by
  unfold cl
  by_cases q : 0 ≤ x ∧ x < ln a
  · rw [if_pos q]; exact h.1 q
  · rw [if_neg q]; exact h.2.1 q, h.2.2⟩)
theorem k_setc {a : Nat} {x v : Int} (l : Launch) (hk : kd a = 5) (hx : inR x) : Con l yX3_setCell cX3_setCell 3 none 0 w [.ref (adr w a), .int (iI x), .int (iI v)] F (QV w (fun F' => F' = upc F a x v)) := (k_X3_setCell l hk hx).postV (fun F' h => by
  unfold upc
  by_cases q : 0 ≤ x ∧ x < ln a
  · rw [if_pos q]; exact h.1 q
  · rw [if_neg q]; exact h.2 q)
theorem k_seti {a N : Nat} {x v : Int} (l : Launch) (hk : kd a = 5) (hN : ln a = N) (hx : 0 ≤ x ∧ x < N ∧ x < 1000) : Con l yX3_setCell cX3_setCell 3 none 0 w [.ref (adr w a), .int (iI x), .int (iI v)] F (QV w (fun F' => F' = up F a x v)) := (k_X3_setCell l hk ⟨by omega, by omega⟩).postV (fun F' h => h.1 ⟨by omega, by omega⟩)
theorem k_war {x p : Int} (l : Launch) (hb : IsB b) (hx : 0 ≤ x ∧ x < 16) (hp : 0 ≤ p ∧ p < 6) : Con l yX0_wordAt cX0_wordAt 5 (some .int) 0 w [.ref (adr w b), .int (iI x), .int (iI p)] F (QI w (fun z F' => z = F (b+2) (6 * x + p) ∧ F = F')) := (k_X0_wordAt l hb hx (by omega)).post (fun z F' h => ⟨h.1 hp, h.2.2⟩)
end CRAW
theorem bor_el {r r' : Rw} {y : Int} {L : Prop} (hI : Iv r) (hy : 0 ≤ y ∧ y < 16) (hr : ∀ l, 0 ≤ l → l < 16 → (l = y → r' (112 + l) = 0) ∧ (l ≠ y → r (112 + l) = y + 1 → L → r' (112 + l) = 0) ∧ (l ≠ y → ¬ (r (112 + l) = y + 1 ∧ L) → r' (112 + l) = r (112 + l))) {l : Int} (h0 : 0 ≤ l) (h1 : l < 16) :
    ((l = r (112 + y) - 1 ∨ (L ∧ l = y)) → bor r' l = -1) ∧ (¬ (l = r (112 + y) - 1 ∨ (L ∧ l = y)) → bor r' l = bor r l) := by
  have hn : ∀ o, 0 ≤ o → o < 16 → r' (112 + o) = l + 1 → r (112 + o) = l + 1 ∧ o ≠ y ∧ ¬ (l = y ∧ L) := by
    intro o a c e
    obtain ⟨u1, u2, u3⟩ := hr o a c
    by_cases k : o = y
    · have := u1 k; omega
    · by_cases k2 : r (112 + o) = y + 1 ∧ L
      · have := u2 k k2.1 k2.2; omega
      · have := u3 k k2
        refine ⟨by omega, k, fun q => k2 ⟨by omega, q.2⟩⟩
  constructor
  · intro h
    refine fs_no (by omega) (fun o a c => ?_)
    simp only [decide_eq_false_iff_not]
    intro e
    obtain ⟨v1, v2, v3⟩ := hn o a c e
    rcases h with h | h
    · exact v2 (hI.one a c hy.1 hy.2 (by omega) (by omega))
    · exact v3 ⟨h.2, h.1⟩
  · intro h
    by_cases k : bor r l = -1
    · rw [k]
      refine fs_no (by omega) (fun o a c => ?_)
      simp only [decide_eq_false_iff_not]
      intro e
      exact bor_no k a c (hn o a c e).1
    · obtain ⟨a, c, d⟩ := bor_at k
      have hoy : bor r l ≠ y := by
        intro e; apply h; left; rw [← e, d]; omega
      have e1 := (hr _ a c).2.2 hoy (fun q => h (Or.inr ⟨q.2, by omega⟩))
      refine fs_is a c (by rw [e1, d]; simp) (fun i i0 i1 => ?_)
      simp only [decide_eq_false_iff_not]
      intro e
      obtain ⟨v1, v2, v3⟩ := hn i i0 (by omega) e
      have := hI.one i0 (by omega) a c (v1.trans d.symm) (by omega)
      omega
theorem loans_el {F : FF} {b : Nat} {r r' : Rw} {y f : Int} {L : Prop} (hb : IsB b) (hI : Iv r) (hy : 0 ≤ y ∧ y < 16) (h4 : ∀ l, 0 ≤ l → l < 16 → F (b+4) l = r (112 + l) - 1) (h5 : ∀ l, 0 ≤ l → l < 16 → F (b+5) l = bor r l)
    (hr : ∀ l, 0 ≤ l → l < 16 → (l = y → r' (112 + l) = 0) ∧ (l ≠ y → r (112 + l) = y + 1 → L → r' (112 + l) = 0) ∧ (l ≠ y → ¬ (r (112 + l) = y + 1 ∧ L) → r' (112 + l) = r (112 + l))) (hL : f = 0 ∧ ¬ L ∨ f = 1 ∧ L) :
    (∀ l, 0 ≤ l → l < 16 → elo F b y f (b+4) l = r' (112 + l) - 1) ∧ (∀ l, 0 ≤ l → l < 16 → elo F b y f (b+5) l = bor r' l) := by
  have hly := hI.ld hy.1 hy.2
  have c4 : cl F (b+4) y = r (112 + y) - 1 := by unfold cl; rw [hb.n4, if_pos ⟨hy.1, by omega⟩, h4 y hy.1 hy.2]
  have e4 : ∀ l, 0 ≤ l → l < 16 → elF F b y (b+4) l = if l = y then -1 else r (112 + l) - 1 := by
    intro l a c
    rw [elF_4 hb]
    by_cases k : l = y
    · rw [if_pos ⟨k, hy⟩, if_pos k]
    · rw [if_neg (fun q => k q.1), if_neg k, h4 l a c]
  have e5 : ∀ l, 0 ≤ l → l < 16 → elF F b y (b+5) l = if l = r (112 + y) - 1 then -1 else bor r l := by
    intro l a c
    rw [elF_5 hb, c4]
    by_cases k : l = r (112 + y) - 1
    · rw [if_pos ⟨k, by omega, by omega⟩, if_pos k]
    · rw [if_neg (fun q => k q.1), if_neg k, h5 l a c]
  have hself : ¬ y = r (112 + y) - 1 := by
    intro q
    by_cases k : 0 < r (112 + y)
    · have := (hI.lend hy.1 hy.2 k).2.2.1
      rw [← q] at this; exact this rfl
    · omega
  rcases hL with ⟨hf, hL⟩ | ⟨hf, hL⟩
  · have ee : elo F b y f = elF F b y := by unfold elo; rw [if_pos hf]
    rw [ee]
    constructor
    · intro l a c
      obtain ⟨u1, u2, u3⟩ := hr l a c
      rw [e4 l a c]
      by_cases k : l = y
      · rw [if_pos k, u1 k]; rfl
      · rw [if_neg k, u3 k (fun q => hL q.2)]
    · intro l a c
      obtain ⟨v1, v2⟩ := bor_el hI hy hr a c
      rw [e5 l a c]
      by_cases k : l = r (112 + y) - 1
      · rw [if_pos k, v1 (Or.inl k)]
      · rw [if_neg k, v2 (fun q => q.elim k (fun q => hL q.1))]
  · have c5 : cl (elF F b y) (b+5) y = bor r y := by
      unfold cl; rw [hb.n5, if_pos ⟨hy.1, by omega⟩, e5 y hy.1 hy.2, if_neg hself]
    have ee : elo F b y f = elF (elF F b y) b (bor r y) := by unfold elo; rw [if_neg (by omega), c5]
    rw [ee]
    have hbr := bor_range r y
    by_cases kb : bor r y = -1
    · have c6 : cl (elF F b y) (b+4) (bor r y) = -1 := by unfold cl; rw [if_neg (by omega)]
      constructor
      · intro l a c
        obtain ⟨u1, u2, u3⟩ := hr l a c
        rw [elF_4 hb, if_neg (by omega), e4 l a c]
        by_cases k : l = y
        · rw [if_pos k, u1 k]; rfl
        · rw [if_neg k, u3 k (fun q => bor_no kb a c q.1)]
      · intro l a c
        obtain ⟨v1, v2⟩ := bor_el hI hy hr a c
        rw [elF_5 hb, c6, if_neg (by omega), e5 l a c]
        by_cases k : l = r (112 + y) - 1
        · rw [if_pos k, v1 (Or.inl k)]
        · rw [if_neg k]
          by_cases k2 : l = y
          · rw [v1 (Or.inr ⟨hL, k2⟩), k2, kb]
          · rw [v2 (fun q => q.elim k (fun q => k2 q.2))]
    · obtain ⟨o0, o1, o2⟩ := bor_at kb
      have hoy : bor r y ≠ y := by
        intro q
        rw [q] at o2
        apply hself; omega
      have c6 : cl (elF F b y) (b+4) (bor r y) = y := by
        unfold cl; rw [hb.n4, if_pos ⟨o0, by omega⟩, e4 _ o0 o1, if_neg hoy, o2]; omega
      constructor
      · intro l a c
        obtain ⟨u1, u2, u3⟩ := hr l a c
        rw [elF_4 hb]
        by_cases k3 : l = bor r y
        · have hl : r (112 + l) = y + 1 := by rw [k3]; exact o2
          rw [if_pos ⟨k3, o0, o1⟩, u2 (by rw [k3]; exact hoy) hl hL]; rfl
        · rw [if_neg (fun q => k3 q.1), e4 l a c]
          by_cases k : l = y
          · rw [if_pos k, u1 k]; rfl
          · rw [if_neg k, u3 k (fun q => k3 (hI.one a c o0 o1 (q.1.trans o2.symm) (by omega)))]
      · intro l a c
        obtain ⟨v1, v2⟩ := bor_el hI hy hr a c
        rw [elF_5 hb, c6]
        by_cases k2 : l = y
        · rw [if_pos ⟨k2, hy⟩, v1 (Or.inr ⟨hL, k2⟩)]
        · rw [if_neg (fun q => k2 q.1), e5 l a c]
          by_cases k : l = r (112 + y) - 1
          · rw [if_pos k, v1 (Or.inl k)]
          · rw [if_neg k, v2 (fun q => q.elim k (fun q => k2 q.2))]
/-- what is outside of a Board stays -/
def Fr (F F' : FF) (b : Nat) : Prop := ∀ k, (k < b ∨ b + 9 < k) → F' k = F k
theorem Fr.refl (F : FF) (b : Nat) : Fr F F b := fun _ _ => rfl
theorem Fr.trans {F G H : FF} {b : Nat} (h1 : Fr F G b) (h2 : Fr G H b) : Fr F H b := fun k h => (h2 k h).trans (h1 k h)
theorem Fr.up {F G : FF} {b k : Nat} {i z : Int} (h : Fr F G b) (h1 : b ≤ k) (h2 : k ≤ b + 9) : Fr F (up G k i z) b := fun k' q => by
  rw [up_k (by omega)]; exact h k' q
theorem Fr.elo {F G : FF} {b : Nat} {x f : Int} (h : Fr F G b) : Fr F (elo G b x f) b := fun k' q => by
  rw [elo_k (by omega) (by omega)]; exact h k' q
theorem Fr.sh {F : FF} {b : Nat} {y i n : Int} : Fr F (shG F b y i n) b := fun k' q => by
  funext j; exact if_neg (by omega)
theorem Fr.sg {F : FF} {b : Nat} {y q i : Int} : Fr F (sgG F b y q i) b := fun k' q => by
  funext j; exact if_neg (by omega)
def insC (F : FF) (b : Nat) (x y q n : Int) : FF := up (up (up (shG F b y q n) (b+2) (6*y+q) x) (b+3) y (n+1)) (b+1) x y
theorem BI_ins {F : FF} {b : Nat} {r : Rw} {x y q f : Int} (hb : IsB b) (hB : BI F b r) (hx0 : 0 ≤ x ∧ x < 40) (hx : home r x = -1) (hy : 0 ≤ y ∧ y < 16) (hq : 0 ≤ q ∧ q ≤ r y) (hs : r y < 6) (hf : f = 0 ∧ ¬ q = r y ∨ f = 1 ∧ q = r y) :
    BI (elo (insC F b x y q (r y)) b y f) b (ins r x y q) := by
  have hI := hB.iv
  have hIv := ins_iv hI hx0 hx hy hq hs
  have g4 : ∀ l, insC F b x y q (r y) (b+4) l = F (b+4) l := fun l => by
    unfold insC; rw [up_k (by omega), up_k (by omega), up_k (by omega)]; exact if_neg (by omega)
  have g5 : ∀ l, insC F b x y q (r y) (b+5) l = F (b+5) l := fun l => by
    unfold insC; rw [up_k (by omega), up_k (by omega), up_k (by omega)]; exact if_neg (by omega)
  have gk : ∀ k l, k ≠ b+1 → k ≠ b+2 → k ≠ b+3 → insC F b x y q (r y) k l = F k l := fun k l k1 k2 k3 => by
    unfold insC; rw [up_k k1, up_k k3, up_k k2]; exact if_neg (fun q => k2 q.1)
  obtain ⟨n4, n5⟩ := loans_el (r' := ins r x y q) (L := q = r y) hb hI hy (fun l a c => (g4 l).trans (hB.h4 a c)) (fun l a c => (g5 l).trans (hB.h5 a c)) (fun l a c => by
    rw [ins_ld hy hq hs a c]
    refine ⟨fun e => if_pos e, fun e e2 e3 => by rw [if_neg e, if_pos ⟨e2, e3⟩], fun e e2 => by rw [if_neg e, if_neg e2]⟩) hf
  refine ⟨?_, ?_, ?_, n4, n5, ?_, ?_, ?_, ?_, ?_, ?_, ?_, ?_, hIv⟩
  · intro x' a c
    rw [elo_k (by omega) (by omega), ins_home hI hx0 hx hy hq hs]
    unfold insC
    by_cases e : x' = x
    · rw [if_pos e, e, up_eq]
    · rw [if_neg e, up_j e, up_k (by omega), up_k (by omega)]
      exact (if_neg (by omega)).trans (hB.h1 a c)
  · intro l p h0 h1 h2 h3
    have hsl := hI.sz h0 h1
    rw [elo_k (by omega) (by omega), ins_sz hy hq h0 h1, ins_wa hy hq hs h0 h1 h2 h3]
    unfold insC
    rw [up_k (by omega), up_k (by omega)]
    by_cases e : l = y
    · subst e
      rw [if_pos rfl, if_pos rfl]
      by_cases a : p = q
      · subst a
        rw [up_eq, if_pos (by omega), if_neg (by omega), if_pos rfl]
      · rw [up_j (by omega)]
        unfold shG
        by_cases c : q < p ∧ p ≤ r l
        · rw [if_pos ⟨rfl, by omega, by omega⟩, if_pos (by omega), if_neg (by omega), if_neg a, if_pos c.2, show 6 * l + p - 1 = 6 * l + (p - 1) by omega, hB.h2 h0 h1 (by omega) (by omega), if_pos (by omega)]
        · rw [if_neg (by omega), hB.h2 h0 h1 h2 h3]
          by_cases d : p < q
          · rw [if_pos (by omega), if_pos (by omega), if_pos d]
          · rw [if_neg (by omega), if_neg (by omega)]
    · rw [if_neg e, if_neg e, up_j (by omega)]
      unfold shG
      rw [if_neg (by omega)]
      exact hB.h2 h0 h1 h2 h3
  · intro l a c
    rw [elo_k (by omega) (by omega), ins_sz hy hq a c]
    unfold insC
    rw [up_k (by omega)]
    by_cases e : l = y
    · rw [if_pos e, e, up_eq]
    · rw [if_neg e, up_j e, up_k (by omega)]
      exact (if_neg (by omega)).trans (hB.h3 a c)
  · intro x' a c; rw [elo_k (by omega) (by omega), gk _ _ (by omega) (by omega) (by omega), ins_hi hy hq hs (by omega)]; exact hB.h6 a c
  · intro x' a c; rw [elo_k (by omega) (by omega), gk _ _ (by omega) (by omega) (by omega), ins_hi hy hq hs (by omega)]; exact hB.h7 a c
  · intro x' a c; rw [elo_k (by omega) (by omega), gk _ _ (by omega) (by omega) (by omega), ins_hi hy hq hs (by omega)]; exact hB.h8 a c
  · intro x' a c; rw [elo_k (by omega) (by omega), gk _ _ (by omega) (by omega) (by omega), ins_hi hy hq hs (by omega)]; exact hB.h9 a c
  · rw [elo_k (by omega) (by omega), gk _ _ (by omega) (by omega) (by omega), ins_hi hy hq hs (by omega)]; exact hB.nt
  · rw [elo_k (by omega) (by omega), gk _ _ (by omega) (by omega) (by omega), ins_hi hy hq hs (by omega), ins_hi hy hq hs (by omega), ins_hi hy hq hs (by omega), ins_hi hy hq hs (by omega)]; exact hB.st
  · rw [elo_k (by omega) (by omega), gk _ _ (by omega) (by omega) (by omega), ins_hi hy hq hs (by omega)]; exact hB.sh
  · rw [elo_k (by omega) (by omega), gk _ _ (by omega) (by omega) (by omega), ins_hi hy hq hs (by omega)]; exact hB.rf
def remC (F : FF) (b : Nat) (x y q n : Int) : FF := up (up (up (sgG F b y q (n-1)) (b+2) (6*y+(n-1)) (-1)) (b+3) y (n-1)) (b+1) x (-1)
theorem BI_rem {F : FF} {b : Nat} {r : Rw} {y q f : Int} (hb : IsB b) (hB : BI F b r) (hy : 0 ≤ y ∧ y < 16) (hq : 0 ≤ q ∧ q < r y) (hf : f = 0 ∧ ¬ q = r y - 1 ∨ f = 1 ∧ q = r y - 1) :
    BI (elo (remC F b (wa r y q) y q (r y)) b y f) b (rem r y q) := by
  have hI := hB.iv
  have hIv := rem_iv hI hy hq
  have hs := hI.sz hy.1 hy.2
  have g4 : ∀ l, remC F b (wa r y q) y q (r y) (b+4) l = F (b+4) l := fun l => by
    unfold remC; rw [up_k (by omega), up_k (by omega), up_k (by omega)]; exact if_neg (by omega)
  have g5 : ∀ l, remC F b (wa r y q) y q (r y) (b+5) l = F (b+5) l := fun l => by
    unfold remC; rw [up_k (by omega), up_k (by omega), up_k (by omega)]; exact if_neg (by omega)
  have gk : ∀ k l, k ≠ b+1 → k ≠ b+2 → k ≠ b+3 → remC F b (wa r y q) y q (r y) k l = F k l := fun k l k1 k2 k3 => by
    unfold remC; rw [up_k k1, up_k k3, up_k k2]; exact if_neg (fun q => k2 q.1)
  obtain ⟨n4, n5⟩ := loans_el (r' := rem r y q) (L := q = r y - 1) hb hI hy (fun l a c => (g4 l).trans (hB.h4 a c)) (fun l a c => (g5 l).trans (hB.h5 a c)) (fun l a c => by
    rw [rem_ld hI hy hq a c]
    refine ⟨fun e => if_pos e, fun e e2 e3 => by rw [if_neg e, if_pos ⟨e2, e3⟩], fun e e2 => by rw [if_neg e, if_neg e2]⟩) hf
  refine ⟨?_, ?_, ?_, n4, n5, ?_, ?_, ?_, ?_, ?_, ?_, ?_, ?_, hIv⟩
  · intro x' a c
    rw [elo_k (by omega) (by omega), rem_home hI hy hq]
    unfold remC
    by_cases e : x' = wa r y q
    · rw [if_pos e, e, up_eq]
    · rw [if_neg e, up_j e, up_k (by omega), up_k (by omega)]
      exact (if_neg (by omega)).trans (hB.h1 a c)
  · intro l p h0 h1 h2 h3
    have hsl := hI.sz h0 h1
    rw [elo_k (by omega) (by omega), rem_sz hI hy hq h0 h1, rem_wa hI hy hq h0 h1 h2 h3]
    unfold remC
    rw [up_k (by omega), up_k (by omega)]
    by_cases e : l = y
    · subst e
      rw [if_pos rfl, if_pos rfl]
      by_cases a : p = r l - 1
      · subst a
        rw [up_eq, if_neg (by omega)]
      · rw [up_j (by omega)]
        unfold sgG
        by_cases c : q ≤ p ∧ p < r l - 1
        · rw [if_pos ⟨rfl, by omega, by omega⟩, if_pos (by omega), if_neg (by omega), if_pos c.2, show 6 * l + p + 1 = 6 * l + (p + 1) by omega, hB.h2 h0 h1 (by omega) (by omega), if_pos (by omega)]
        · rw [if_neg (by omega), hB.h2 h0 h1 h2 h3]
          by_cases d : p < q
          · rw [if_pos (by omega), if_pos (by omega), if_pos d]
          · rw [if_neg (by omega), if_neg (by omega)]
    · rw [if_neg e, if_neg e, up_j (by omega)]
      unfold sgG
      rw [if_neg (by omega)]
      exact hB.h2 h0 h1 h2 h3
  · intro l a c
    rw [elo_k (by omega) (by omega), rem_sz hI hy hq a c]
    unfold remC
    rw [up_k (by omega)]
    by_cases e : l = y
    · rw [if_pos e, e, up_eq]
    · rw [if_neg e, up_j e, up_k (by omega)]
      exact (if_neg (by omega)).trans (hB.h3 a c)
  · intro x' a c; rw [elo_k (by omega) (by omega), gk _ _ (by omega) (by omega) (by omega), rem_hi hI hy hq (by omega)]; exact hB.h6 a c
  · intro x' a c; rw [elo_k (by omega) (by omega), gk _ _ (by omega) (by omega) (by omega), rem_hi hI hy hq (by omega)]; exact hB.h7 a c
  · intro x' a c; rw [elo_k (by omega) (by omega), gk _ _ (by omega) (by omega) (by omega), rem_hi hI hy hq (by omega)]; exact hB.h8 a c
  · intro x' a c; rw [elo_k (by omega) (by omega), gk _ _ (by omega) (by omega) (by omega), rem_hi hI hy hq (by omega)]; exact hB.h9 a c
  · rw [elo_k (by omega) (by omega), gk _ _ (by omega) (by omega) (by omega), rem_hi hI hy hq (by omega)]; exact hB.nt
  · rw [elo_k (by omega) (by omega), gk _ _ (by omega) (by omega) (by omega), rem_hi hI hy hq (by omega), rem_hi hI hy hq (by omega), rem_hi hI hy hq (by omega), rem_hi hI hy hq (by omega)]; exact hB.st
  · rw [elo_k (by omega) (by omega), gk _ _ (by omega) (by omega) (by omega), rem_hi hI hy hq (by omega)]; exact hB.sh
  · rw [elo_k (by omega) (by omega), gk _ _ (by omega) (by omega) (by omega), rem_hi hI hy hq (by omega)]; exact hB.rf
