/-! a Board's cells, and what they say of the row -/
def IsB (b : Nat) : Prop := b ∈ [1, 11, 23, 33, 43, 53, 63, 73, 90, 100]
theorem IsB.all {b : Nat} (h : IsB b) : (kd b = 0 ∧ kd (b+1) = 5 ∧ kd (b+2) = 5 ∧ kd (b+3) = 5 ∧ kd (b+4) = 5 ∧ kd (b+5) = 5 ∧ kd (b+6) = 5 ∧ kd (b+7) = 5 ∧ kd (b+8) = 5 ∧ kd (b+9) = 5) ∧
    (ln b = 13 ∧ ln (b+1) = 40 ∧ ln (b+2) = 96 ∧ ln (b+3) = 16 ∧ ln (b+4) = 16 ∧ ln (b+5) = 16 ∧ ln (b+6) = 40 ∧ ln (b+7) = 4 ∧ ln (b+8) = 4 ∧ ln (b+9) = 3) := by
  have : ∀ b ∈ [1, 11, 23, 33, 43, 53, 63, 73, 90, 100], (kd b = 0 ∧ kd (b+1) = 5 ∧ kd (b+2) = 5 ∧ kd (b+3) = 5 ∧ kd (b+4) = 5 ∧ kd (b+5) = 5 ∧ kd (b+6) = 5 ∧ kd (b+7) = 5 ∧ kd (b+8) = 5 ∧ kd (b+9) = 5) ∧
    (ln b = 13 ∧ ln (b+1) = 40 ∧ ln (b+2) = 96 ∧ ln (b+3) = 16 ∧ ln (b+4) = 16 ∧ ln (b+5) = 16 ∧ ln (b+6) = 40 ∧ ln (b+7) = 4 ∧ ln (b+8) = 4 ∧ ln (b+9) = 3) := by decide
  exact this b h
theorem IsB.k0 {b : Nat} (h : IsB b) : kd b = 0 := h.all.1.1
theorem IsB.k1 {b : Nat} (h : IsB b) : kd (b+1) = 5 := h.all.1.2.1
theorem IsB.k2 {b : Nat} (h : IsB b) : kd (b+2) = 5 := h.all.1.2.2.1
theorem IsB.k3 {b : Nat} (h : IsB b) : kd (b+3) = 5 := h.all.1.2.2.2.1
theorem IsB.k4 {b : Nat} (h : IsB b) : kd (b+4) = 5 := h.all.1.2.2.2.2.1
theorem IsB.k5 {b : Nat} (h : IsB b) : kd (b+5) = 5 := h.all.1.2.2.2.2.2.1
theorem IsB.k6 {b : Nat} (h : IsB b) : kd (b+6) = 5 := h.all.1.2.2.2.2.2.2.1
theorem IsB.k7 {b : Nat} (h : IsB b) : kd (b+7) = 5 := h.all.1.2.2.2.2.2.2.2.1
theorem IsB.k8 {b : Nat} (h : IsB b) : kd (b+8) = 5 := h.all.1.2.2.2.2.2.2.2.2.1
theorem IsB.k9 {b : Nat} (h : IsB b) : kd (b+9) = 5 := h.all.1.2.2.2.2.2.2.2.2.2
theorem IsB.n0 {b : Nat} (h : IsB b) : ln b = 13 := h.all.2.1
theorem IsB.n1 {b : Nat} (h : IsB b) : ln (b+1) = 40 := h.all.2.2.1
theorem IsB.n2 {b : Nat} (h : IsB b) : ln (b+2) = 96 := h.all.2.2.2.1
theorem IsB.n3 {b : Nat} (h : IsB b) : ln (b+3) = 16 := h.all.2.2.2.2.1
theorem IsB.n4 {b : Nat} (h : IsB b) : ln (b+4) = 16 := h.all.2.2.2.2.2.1
theorem IsB.n5 {b : Nat} (h : IsB b) : ln (b+5) = 16 := h.all.2.2.2.2.2.2.1
theorem IsB.n6 {b : Nat} (h : IsB b) : ln (b+6) = 40 := h.all.2.2.2.2.2.2.2.1
theorem IsB.n7 {b : Nat} (h : IsB b) : ln (b+7) = 4 := h.all.2.2.2.2.2.2.2.2.1
theorem IsB.n8 {b : Nat} (h : IsB b) : ln (b+8) = 4 := h.all.2.2.2.2.2.2.2.2.2.1
theorem IsB.n9 {b : Nat} (h : IsB b) : ln (b+9) = 3 := h.all.2.2.2.2.2.2.2.2.2.2
def BI (F : FF) (b : Nat) (r : Rw) : Prop :=
  (∀ x, 0 ≤ x → x < 40 → F (b+1) x = home r x) ∧
  (∀ l p, 0 ≤ l → l < 16 → 0 ≤ p → p < 6 → F (b+2) (6 * l + p) = if p < r l then wa r l p else -1) ∧
  (∀ l, 0 ≤ l → l < 16 → F (b+3) l = r l) ∧ (∀ l, 0 ≤ l → l < 16 → F (b+4) l = r (112 + l) - 1) ∧ (∀ l, 0 ≤ l → l < 16 → F (b+5) l = bor r l) ∧
  (∀ x, 0 ≤ x → x < 40 → F (b+6) x = r (136 + x)) ∧ (∀ d, 0 ≤ d → d < 4 → F (b+7) d = r (128 + d)) ∧ (∀ d, 0 ≤ d → d < 4 → F (b+8) d = r (132 + d)) ∧ (∀ k, 0 ≤ k → k < 3 → F (b+9) k = r (176 + k)) ∧
  F b 9 = r 179 ∧ F b 10 = r 132 + r 133 + r 134 + r 135 ∧ F b 11 = r 180 ∧ F b 12 = r 181 ∧ Iv r
section BIF
variable {F : FF} {b : Nat} {r : Rw}
theorem BI.h1 (h : BI F b r) {x : Int} (h0 : 0 ≤ x) (h1 : x < 40) : F (b+1) x = home r x := h.1 x h0 h1
theorem BI.h2 (h : BI F b r) {l p : Int} (h0 : 0 ≤ l) (h1 : l < 16) (h2 : 0 ≤ p) (h3 : p < 6) : F (b+2) (6 * l + p) = if p < r l then wa r l p else -1 := h.2.1 l p h0 h1 h2 h3
theorem BI.h3 (h : BI F b r) {x : Int} (h0 : 0 ≤ x) (h1 : x < 16) : F (b+3) x = r x := h.2.2.1 x h0 h1
theorem BI.h4 (h : BI F b r) {x : Int} (h0 : 0 ≤ x) (h1 : x < 16) : F (b+4) x = r (112 + x) - 1 := h.2.2.2.1 x h0 h1
theorem BI.h5 (h : BI F b r) {x : Int} (h0 : 0 ≤ x) (h1 : x < 16) : F (b+5) x = bor r x := h.2.2.2.2.1 x h0 h1
theorem BI.h6 (h : BI F b r) {x : Int} (h0 : 0 ≤ x) (h1 : x < 40) : F (b+6) x = r (136 + x) := h.2.2.2.2.2.1 x h0 h1
theorem BI.h7 (h : BI F b r) {x : Int} (h0 : 0 ≤ x) (h1 : x < 4) : F (b+7) x = r (128 + x) := h.2.2.2.2.2.2.1 x h0 h1
theorem BI.h8 (h : BI F b r) {x : Int} (h0 : 0 ≤ x) (h1 : x < 4) : F (b+8) x = r (132 + x) := h.2.2.2.2.2.2.2.1 x h0 h1
theorem BI.h9 (h : BI F b r) {x : Int} (h0 : 0 ≤ x) (h1 : x < 3) : F (b+9) x = r (176 + x) := h.2.2.2.2.2.2.2.2.1 x h0 h1
theorem BI.nt (h : BI F b r) : F b 9 = r 179 := h.2.2.2.2.2.2.2.2.2.1
theorem BI.st (h : BI F b r) : F b 10 = r 132 + r 133 + r 134 + r 135 := h.2.2.2.2.2.2.2.2.2.2.1
theorem BI.sh (h : BI F b r) : F b 11 = r 180 := h.2.2.2.2.2.2.2.2.2.2.2.1
theorem BI.rf (h : BI F b r) : F b 12 = r 181 := h.2.2.2.2.2.2.2.2.2.2.2.2.1
theorem BI.iv (h : BI F b r) : Iv r := h.2.2.2.2.2.2.2.2.2.2.2.2.2
end BIF
section CEL
variable {w : WP} {F : FF} {b : Nat} {r : Rw} {x : Int}
theorem k_c1 (l : Launch) (hb : IsB b) (hB : BI F b r) (hx : 0 ≤ x ∧ x < 40) : Con l yX3_cell cX3_cell 2 (some .int) 0 w [.ref (adr w (b+1)), .int (iI x)] F (QI w (fun z F' => z = home r x ∧ F = F')) := (k_X3_cell l hb.k1 ⟨by omega, by omega⟩).post (fun z F' h => ⟨by rw [h.1 ⟨hx.1, by rw [hb.n1]; omega⟩]; exact hB.h1 hx.1 hx.2, h.2.2⟩)
theorem k_c3 (l : Launch) (hb : IsB b) (hB : BI F b r) (hx : 0 ≤ x ∧ x < 16) : Con l yX3_cell cX3_cell 2 (some .int) 0 w [.ref (adr w (b+3)), .int (iI x)] F (QI w (fun z F' => z = r x ∧ F = F')) := (k_X3_cell l hb.k3 ⟨by omega, by omega⟩).post (fun z F' h => ⟨by rw [h.1 ⟨hx.1, by rw [hb.n3]; omega⟩]; exact hB.h3 hx.1 hx.2, h.2.2⟩)
theorem k_c3m (l : Launch) (hb : IsB b) (hB : BI F b r) (hx : -1 ≤ x ∧ x < 16) : Con l yX3_cell cX3_cell 2 (some .int) 0 w [.ref (adr w (b+3)), .int (iI x)] F (QI w (fun z F' => (x = -1 ∧ z = -1 ∨ 0 ≤ x ∧ z = r x) ∧ F = F')) := (k_X3_cell l hb.k3 ⟨by omega, by omega⟩).post (fun z F' h => ⟨by
  by_cases q : x = -1
  · left; exact ⟨q, h.2.1 (by omega)⟩
  · right; refine ⟨by omega, ?_⟩; rw [h.1 ⟨by omega, by rw [hb.n3]; omega⟩]; exact hB.h3 (by omega) hx.2, h.2.2⟩)
theorem k_c4 (l : Launch) (hb : IsB b) (hB : BI F b r) (hx : 0 ≤ x ∧ x < 16) : Con l yX3_cell cX3_cell 2 (some .int) 0 w [.ref (adr w (b+4)), .int (iI x)] F (QI w (fun z F' => z = r (112 + x) - 1 ∧ F = F')) := (k_X3_cell l hb.k4 ⟨by omega, by omega⟩).post (fun z F' h => ⟨by rw [h.1 ⟨hx.1, by rw [hb.n4]; omega⟩]; exact hB.h4 hx.1 hx.2, h.2.2⟩)
theorem k_c5 (l : Launch) (hb : IsB b) (hB : BI F b r) (hx : 0 ≤ x ∧ x < 16) : Con l yX3_cell cX3_cell 2 (some .int) 0 w [.ref (adr w (b+5)), .int (iI x)] F (QI w (fun z F' => z = bor r x ∧ F = F')) := (k_X3_cell l hb.k5 ⟨by omega, by omega⟩).post (fun z F' h => ⟨by rw [h.1 ⟨hx.1, by rw [hb.n5]; omega⟩]; exact hB.h5 hx.1 hx.2, h.2.2⟩)
theorem k_c6 (l : Launch) (hb : IsB b) (hB : BI F b r) (hx : 0 ≤ x ∧ x < 40) : Con l yX3_cell cX3_cell 2 (some .int) 0 w [.ref (adr w (b+6)), .int (iI x)] F (QI w (fun z F' => z = r (136 + x) ∧ F = F')) := (k_X3_cell l hb.k6 ⟨by omega, by omega⟩).post (fun z F' h => ⟨by rw [h.1 ⟨hx.1, by rw [hb.n6]; omega⟩]; exact hB.h6 hx.1 hx.2, h.2.2⟩)
theorem k_c7 (l : Launch) (hb : IsB b) (hB : BI F b r) (hx : 0 ≤ x ∧ x < 4) : Con l yX3_cell cX3_cell 2 (some .int) 0 w [.ref (adr w (b+7)), .int (iI x)] F (QI w (fun z F' => z = r (128 + x) ∧ F = F')) := (k_X3_cell l hb.k7 ⟨by omega, by omega⟩).post (fun z F' h => ⟨by rw [h.1 ⟨hx.1, by rw [hb.n7]; omega⟩]; exact hB.h7 hx.1 hx.2, h.2.2⟩)
theorem k_c8 (l : Launch) (hb : IsB b) (hB : BI F b r) (hx : 0 ≤ x ∧ x < 4) : Con l yX3_cell cX3_cell 2 (some .int) 0 w [.ref (adr w (b+8)), .int (iI x)] F (QI w (fun z F' => z = r (132 + x) ∧ F = F')) := (k_X3_cell l hb.k8 ⟨by omega, by omega⟩).post (fun z F' h => ⟨by rw [h.1 ⟨hx.1, by rw [hb.n8]; omega⟩]; exact hB.h8 hx.1 hx.2, h.2.2⟩)
theorem k_c9 {j : Int} (l : Launch) (hb : IsB b) (hB : BI F b r) (hx : 0 ≤ x ∧ x < 3) (hj : j = 176 + x) : Con l yX3_cell cX3_cell 2 (some .int) 0 w [.ref (adr w (b+9)), .int (iI x)] F (QI w (fun z F' => z = r j ∧ F = F')) := (k_X3_cell l hb.k9 ⟨by omega, by omega⟩).post (fun z F' h => ⟨by rw [h.1 ⟨hx.1, by rw [hb.n9]; omega⟩, hj]; exact hB.h9 hx.1 hx.2, h.2.2⟩)
end CEL
theorem bor_m1 {r : Rw} {l : Int} : -1 ≤ bor r l := (bor_range r l).1
/-- a line with a word more behind it -/
def fw (r : Rw) (l x : Int) : Int → Int := fun p => if p < r l then wa r l p else x
theorem fw_lt {r : Rw} {l x p : Int} (h : p < r l) : fw r l x p = wa r l p := if_pos h
theorem fw_ge {r : Rw} {l x p : Int} (h : ¬ p < r l) : fw r l x p = x := if_neg h
theorem bo_s {f : Int → Int} {n : Int} (h : 0 ≤ n) : bo f (n + 1) = bo f n + bt (f n) := sm_s h
theorem hk_s1 {f : Int → Int} {c k : Int} (h : 0 ≤ k) (e : hk f c k = true) : hk f c (k + 1) = true := by
  unfold hk at *; rw [an_s h, e]; rfl
theorem hk_s2 {f : Int → Int} {c k : Int} (h : 0 ≤ k) (e : kn (f k) = c) : hk f c (k + 1) = true := by
  unfold hk at *; rw [an_s h, decide_eq_true e, Bool.or_true]
theorem hk_s3 {f : Int → Int} {c k : Int} (h : 0 ≤ k) (e : hk f c k = false) (e2 : ¬ kn (f k) = c) : hk f c (k + 1) = false := by
  unfold hk at *; rw [an_s h, e, decide_eq_false e2]; rfl
theorem LW_of {f : Int → Int} {k B T D E5 E3 : Int} (hB : B = bo f k) (hT : T = 1 ∧ hk f 0 k = true ∨ T = 0 ∧ hk f 0 k = false) (hD : D = 1 ∧ hk f 1 k = true ∨ D = 0 ∧ hk f 1 k = false) (h5 : (T ≠ 0 ∧ D ≠ 0 ∧ E5 = 5) ∨ ((T = 0 ∨ D = 0) ∧ E5 = 0)) (h3 : B = 8 ∧ E3 = 3 ∨ B ≠ 8 ∧ E3 = 0) : B + E5 + E3 = LW f k := by
  subst hB
  unfold LW
  have e5 : E5 = if hk f 0 k = true ∧ hk f 1 k = true then 5 else 0 := by
    rcases hT with ⟨a, b⟩ | ⟨a, b⟩ <;> rcases hD with ⟨c, d⟩ | ⟨c, d⟩ <;> rw [b, d] <;> simp <;> omega
  have e3 : E3 = if bo f k = 8 then 3 else 0 := by
    rcases h3 with ⟨a, b⟩ | ⟨a, b⟩
    · rw [if_pos a, b]
    · rw [if_neg a, b]
  rw [e5, e3]
theorem LW_congr {f g : Int → Int} {n : Int} (h : ∀ p, 0 ≤ p → p < n → f p = g p) : LW f n = LW g n := by
  have e1 : bo f n = bo g n := sm_congr (fun i a b => by rw [h i a b])
  have e2 : ∀ c, hk f c n = hk g c n := fun c => an_congr (fun i a b => by rw [h i a b])
  unfold LW
  rw [e1, e2, e2]
theorem lw_fw (r : Rw) (l x : Int) : LW (fw r l x) (r l) = lw r l := LW_congr (fun p _ b => fw_lt b)
theorem hk_step {f : Int → Int} {c k T T' : Int} (h0 : 0 ≤ k) (hT : T = 1 ∧ hk f c k = true ∨ T = 0 ∧ hk f c k = false) (h : (T' = 1 ∧ (T ≠ 0 ∨ kn (f k) = c)) ∨ (T' = 0 ∧ T = 0 ∧ kn (f k) ≠ c)) : T' = 1 ∧ hk f c (k + 1) = true ∨ T' = 0 ∧ hk f c (k + 1) = false := by
  rcases hT with ⟨a, e⟩ | ⟨a, e⟩
  · left; exact ⟨by omega, hk_s1 h0 e⟩
  · by_cases q : kn (f k) = c
    · left; exact ⟨by omega, hk_s2 h0 q⟩
    · right; exact ⟨by omega, hk_s3 h0 e q⟩
/-- the number on top, by another name -/
theorem q_top {p : Program} {l : Launch} {e : Env} {R : Room} {s : State} {m : MethodId} {args : Array Value} {below : List Frame} {meth : Method} {c : Code} {Qf : State → Prop} {w : WP} {k n nL pc : Nat} {lv : List (Nat × Value)} {st : List Value} {F : FF} {z z' : Int} (h : z = z') (kk : Wq p l e R s m args below meth c Qf w k n nL pc lv (.int (iI z') :: st) F) : Wq p l e R s m args below meth c Qf w k n nL pc lv (.int (iI z) :: st) F := by
  subst h; exact kk
