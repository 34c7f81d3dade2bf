/-! the whole state: row, saved states, slots, buffer -/
abbrev AS : Type := Rw × Int × (Int → Rw) × (Int → Int) × (Int → Rw) × Int × (Int → Int)
def AS.r (A : AS) : Rw := A.1
def AS.n (A : AS) : Int := A.2.1
def AS.sv (A : AS) : Int → Rw := A.2.2.1
def AS.kp (A : AS) : Int → Int := A.2.2.2.1
def AS.sl (A : AS) : Int → Rw := A.2.2.2.2.1
def AS.len (A : AS) : Int := A.2.2.2.2.2.1
def AS.B (A : AS) : Int → Int := A.2.2.2.2.2.2
def AS.wr (A : AS) (r : Rw) : AS := (r, A.n, A.sv, A.kp, A.sl, A.len, A.B)
def AS.sav (A : AS) : AS := (A.r, (if A.n = 6 then 6 else A.n + 1), psh A.n A.sv A.r, A.kp, A.sl, A.len, A.B)
def AS.buf (A : AS) (P : Int × (Int → Int)) : AS := (A.r, A.n, A.sv, A.kp, A.sl, P.1, P.2)
def AS.kee (A : AS) (k : Int) : AS := (A.r, A.n, A.sv, (fun j => if j = k then 1 else A.kp j), (fun j => if j = k then A.r else A.sl j), A.len, A.B)
def AS.und (A : AS) : AS := (A.sv (A.n - 1), A.n - 1, A.sv, A.kp, A.sl, A.len, A.B)
def nb (r : Rw) : Prop := 0 ≤ r 179 ∧ r 179 ≤ 9999
def AV (A : AS) : Prop := nb A.r ∧ (∀ k, 0 ≤ k → k < A.n → nb (A.sv k)) ∧ (∀ k, 0 ≤ k → k < 2 → A.kp k = 1 → nb (A.sl k)) ∧ (0 ≤ A.len ∧ A.len ≤ 60) ∧ ∀ i, 0 ≤ i → i < A.len → 33 ≤ A.B i ∧ A.B i ≤ 126
def sp (k : Int) : Nat := 90 + 10 * k.toNat
theorem sp_B {k : Int} (h : 0 ≤ k ∧ k < 2) : IsB (sp k) := by
  unfold IsB sp
  rcases (show k = 0 ∨ k = 1 by omega) with e | e <;> rw [e] <;> decide
theorem gA_sp {k : Int} (h : 0 ≤ k ∧ k < 2) : gA 83 k.toNat = some (sp k) := by
  unfold gA sp
  rw [if_neg (by decide), if_pos (by omega)]
/-- what the class' cells hold -/
def CI (F : FF) (A : AS) : Prop :=
  BI F 1 A.r ∧ HI F A.n A.sv ∧ (∀ k, 0 ≤ k → k < 2 → F 84 k = A.kp k ∧ (A.kp k = 0 ∨ A.kp k = 1) ∧ (A.kp k = 1 → BI F (sp k) (A.sl k))) ∧ F 0 6 = A.len ∧ (∀ i, 0 ≤ i → i < A.len → F 85 i = A.B i) ∧ AV A
theorem CI.b {F : FF} {A : AS} (h : CI F A) : BI F 1 A.r := h.1
theorem CI.h {F : FF} {A : AS} (h : CI F A) : HI F A.n A.sv := h.2.1
theorem CI.k {F : FF} {A : AS} (h : CI F A) {k : Int} (h0 : 0 ≤ k) (h1 : k < 2) : F 84 k = A.kp k ∧ (A.kp k = 0 ∨ A.kp k = 1) ∧ (A.kp k = 1 → BI F (sp k) (A.sl k)) := h.2.2.1 k h0 h1
theorem CI.l {F : FF} {A : AS} (h : CI F A) : F 0 6 = A.len := h.2.2.2.1
theorem CI.c {F : FF} {A : AS} (h : CI F A) {i : Int} (h0 : 0 ≤ i) (h1 : i < A.len) : F 85 i = A.B i := h.2.2.2.2.1 i h0 h1
theorem CI.v {F : FF} {A : AS} (h : CI F A) : AV A := h.2.2.2.2.2
def FrC (F F' : FF) : Prop := ∀ k, 110 ≤ k → F' k = F k
def CJ (F F' : FF) (A : AS) : Prop := CI F' A ∧ FrC F F'
theorem HI.keep {F F' : FF} {n : Int} {sv : Int → Rw} (h : HI F n sv) (hk : ∀ k, 21 ≤ k → k ≤ 82 → F' k = F k) : HI F' n sv := by
  obtain ⟨h1, h2, h3, h4⟩ := h
  refine ⟨by rw [hk 21 (by omega) (by omega)]; exact h1, h2, by rw [hk 21 (by omega) (by omega)]; exact h3, fun k a c => ?_⟩
  rw [hk 21 (by omega) (by omega)]
  have hg := hp_ge (o := F 21 1) (k := k)
  exact (h4 k a c).keep (fun q q1 q2 => hk q (by omega) (by omega))
section CJS
variable {F G G' : FF} {A : AS}
theorem CJ.refl (h : CI F A) : CJ F F A := ⟨h, fun _ _ => rfl⟩
theorem CI.keep (h : CI G A) (hk : ∀ k, k < 110 → (k < 11 ∨ 20 < k) → (k < 86 ∨ 89 < k) → G' k = G k) : CI G' A := by
  obtain ⟨h1, h2, h3, h4, h5, h6⟩ := h
  refine ⟨h1.keep (fun k a c => hk k (by omega) (by omega) (by omega)), h2.keep (fun k a c => hk k (by omega) (by omega) (by omega)), fun k a c => ?_, by rw [hk 0 (by omega) (by omega) (by omega)]; exact h4, fun i a c => by rw [hk 85 (by omega) (by omega) (by omega)]; exact h5 i a c, h6⟩
  obtain ⟨g1, g2, g3⟩ := h3 k a c
  refine ⟨by rw [hk 84 (by omega) (by omega) (by omega)]; exact g1, g2, fun e => (g3 e).keep (fun q q1 q2 => ?_)⟩
  unfold sp at q1 q2
  exact hk q (by omega) (by omega) (by omega)
theorem CJ.dr (h : CJ F G A) (hf : Fr G G' 11) : CJ F G' A := ⟨h.1.keep (fun k a b c => hf k (by omega)), fun k a => (hf k (by omega)).trans (h.2 k a)⟩
theorem AV.wr {r : Rw} (h : AV A) (hn : nb r) : AV (A.wr r) := ⟨hn, h.2⟩
theorem CJ.wr {r : Rw} (h : CJ F G A) (hB : BI G' 1 r) (hf : Fr G G' 1) (hn : nb r) : CJ F G' (A.wr r) := by
  obtain ⟨⟨h1, h2, h3, h4, h5, h6⟩, hC⟩ := h
  have hk : ∀ k, (k < 1 ∨ 10 < k) → G' k = G k := fun k a => hf k (by omega)
  refine ⟨⟨hB, h2.keep (fun k a c => hk k (by omega)), fun k a c => ?_, by rw [hk 0 (by omega)]; exact h4, fun i a c => by rw [hk 85 (by omega)]; exact h5 i a c, h6.wr hn⟩, fun k a => (hk k (by omega)).trans (hC k a)⟩
  obtain ⟨g1, g2, g3⟩ := h3 k a c
  refine ⟨by rw [hk 84 (by omega)]; exact g1, g2, fun e => (g3 e).keep (fun q q1 q2 => ?_)⟩
  unfold sp at q1 q2
  exact hk q (by omega)
theorem AV.sav (h : AV A) (hn : 0 ≤ A.n ∧ A.n ≤ 6) : AV A.sav := by
  obtain ⟨h1, h2, h3, h4, h5⟩ := h
  refine ⟨h1, fun k a c => ?_, h3, h4, h5⟩
  have c2 : k < if A.n = 6 then 6 else A.n + 1 := c
  show nb (psh A.n A.sv A.r k)
  unfold psh
  by_cases e : A.n = 6
  · rw [if_pos e] at c2 ⊢
    by_cases e2 : k = 5
    · rw [if_pos e2]; exact h1
    · rw [if_neg e2]; exact h2 (k + 1) (by omega) (by omega)
  · rw [if_neg e] at c2 ⊢
    by_cases e2 : k = A.n
    · rw [if_pos e2]; exact h1
    · rw [if_neg e2]; exact h2 k a (by omega)
theorem CJ.sav (h : CJ F G A) (hH : HI G' (if A.n = 6 then 6 else A.n + 1) (psh A.n A.sv A.r)) (hf : FrH G G') : CJ F G' A.sav := by
  obtain ⟨⟨h1, h2, h3, h4, h5, h6⟩, hC⟩ := h
  refine ⟨⟨h1.keep (fun k a c => hf k (by omega)), hH, fun k a c => ?_, by rw [hf 0 (by omega)]; exact h4, fun i a c => by rw [hf 85 (by omega)]; exact h5 i a c, h6.sav h2.2.1⟩, fun k a => (hf k (by omega)).trans (hC k a)⟩
  obtain ⟨g1, g2, g3⟩ := h3 k a c
  refine ⟨by rw [hf 84 (by omega)]; exact g1, g2, fun e => (g3 e).keep (fun q q1 q2 => ?_)⟩
  unfold sp at q1 q2
  exact hf q (by omega)
/-- the counts of words put and refused -/
def pt (r : Rw) : Rw := fun j => if j = 180 then r 180 + 1 else r j
def rf (r : Rw) : Rw := fun j => if j = 181 then r 181 + 1 else r j
def pts (r : Rw) (m : Int) : Rw := fun j => if j = 180 then r 180 + m else r j
theorem BI_pts {r : Rw} {b : Nat} {m z : Int} (hB : BI G b r) (hz : z = G b 11 + m) : BI (up G b 11 z) b (pts r m) := by
  have hI := hB.iv
  have hlo : ∀ j, j ≠ 180 → pts r m j = r j := fun j a => if_neg a
  have hse := hI.se
  subst hz
  refine BI_hi hB (fun j a c => hlo j (by omega)) (fun d a c => by rw [hlo _ (by omega)]; exact hI.wt a c) (by rw [hlo _ (by omega), hlo _ (by omega), hlo _ (by omega)]; exact hse) (fun j hj => by rw [hlo _ (by omega)]; exact hI.zr hj)
    (up_k (by omega)) (up_k (by omega)) (up_k (by omega)) (up_k (by omega)) (up_k (by omega)) (fun x a c => ?_) (fun x a c => ?_) (fun x a c => ?_) (fun x a c => ?_) ?_ ?_ ?_ ?_
  · rw [up_k (by omega), hlo _ (by omega)]; exact hB.h6 a c
  · rw [up_k (by omega), hlo _ (by omega)]; exact hB.h7 a c
  · rw [up_k (by omega), hlo _ (by omega)]; exact hB.h8 a c
  · rw [up_k (by omega), hlo _ (by omega)]; exact hB.h9 a c
  · rw [up_j (by omega), hlo _ (by omega)]; exact hB.nt
  · rw [up_j (by omega), hlo _ (by omega), hlo _ (by omega), hlo _ (by omega), hlo _ (by omega)]; exact hB.st
  · rw [up_eq, hB.sh]; exact (if_pos rfl).symm
  · rw [up_j (by omega), hlo _ (by omega)]; exact hB.rf
theorem BI_rf {r : Rw} {b : Nat} (hB : BI G b r) : BI (up G b 12 (G b 12 + 1)) b (rf r) := by
  have hI := hB.iv
  have hlo : ∀ j, j ≠ 181 → rf r j = r j := fun j a => if_neg a
  have hse := hI.se
  refine BI_hi hB (fun j a c => hlo j (by omega)) (fun d a c => by rw [hlo _ (by omega)]; exact hI.wt a c) (by rw [hlo _ (by omega), hlo _ (by omega), hlo _ (by omega)]; exact hse) (fun j hj => by rw [hlo _ (by omega)]; exact hI.zr hj)
    (up_k (by omega)) (up_k (by omega)) (up_k (by omega)) (up_k (by omega)) (up_k (by omega)) (fun x a c => ?_) (fun x a c => ?_) (fun x a c => ?_) (fun x a c => ?_) ?_ ?_ ?_ ?_
  · rw [up_k (by omega), hlo _ (by omega)]; exact hB.h6 a c
  · rw [up_k (by omega), hlo _ (by omega)]; exact hB.h7 a c
  · rw [up_k (by omega), hlo _ (by omega)]; exact hB.h8 a c
  · rw [up_k (by omega), hlo _ (by omega)]; exact hB.h9 a c
  · rw [up_j (by omega), hlo _ (by omega)]; exact hB.nt
  · rw [up_j (by omega), hlo _ (by omega), hlo _ (by omega), hlo _ (by omega), hlo _ (by omega)]; exact hB.st
  · rw [up_j (by omega), hlo _ (by omega)]; exact hB.sh
  · rw [up_eq, hB.rf]; exact (if_pos rfl).symm
theorem nb_of {r s : Rw} (h : nb r) (e : s 179 = r 179) : nb s := by unfold nb at *; rw [e]; exact h
theorem CJ.pts {m z : Int} (h : CJ F G A) (hz : z = G 1 11 + m) : CJ F (up G 1 11 z) (A.wr (pts A.r m)) := h.wr (BI_pts h.1.b hz) ((Fr.refl G 1).up (by omega) (by omega)) (nb_of h.1.v.1 (if_neg (by decide)))
theorem CJ.pt (h : CJ F G A) : CJ F (up G 1 11 (G 1 11 + 1)) (A.wr (pt A.r)) := h.pts (m := 1) rfl
theorem CJ.rf (h : CJ F G A) : CJ F (up G 1 12 (G 1 12 + 1)) (A.wr (rf A.r)) := h.wr (BI_rf h.1.b) ((Fr.refl G 1).up (by omega) (by omega)) (nb_of h.1.v.1 (if_neg (by decide)))
theorem nb_ins {r : Rw} {x y q : Int} (h : nb r) (hy : 0 ≤ y ∧ y < 16) (hq : 0 ≤ q ∧ q ≤ r y) (hs : r y < 6) : nb (ins r x y q) := nb_of h (ins_hi hy hq hs (by omega))
theorem nb_rem {r : Rw} {x : Int} (h : nb r) (hI : Iv r) (hx : home r x ≠ -1) : nb (rem r (home r x) (plc r x)) := by
  obtain ⟨a, b, c, d, _⟩ := home_at hI hx
  exact nb_of h (rem_hi hI ⟨a, b⟩ ⟨c, d⟩ (by omega))
theorem nb_clr {r : Rw} {d : Int} (h : nb r) (hd : 0 ≤ d ∧ d < 4) : nb (clr r d) := nb_of h (by unfold clr; rw [if_neg (by omega), if_neg (by omega), if_neg (by omega), if_neg (by omega)])
theorem nb_lnd {r : Rw} {x y : Int} (h : nb r) (hx : 0 ≤ x ∧ x < 16) : nb (lnd r x y) := nb_of h (if_neg (by omega))
theorem nb_brb {r : Rw} {x : Int} (h : nb r) (hx : 0 ≤ x ∧ x < 16) : nb (brb r x) := nb_of h (if_neg (by omega))
theorem nb_setr {r : Rw} {k v : Int} (h : nb r) (hk : 0 ≤ k ∧ k < 3) : nb (setr r k v) := nb_of h (if_neg (by omega))
theorem ng_179 {r : Rw} (hI : Iv r) : ng r 179 = r 179 + 1 := by
  obtain ⟨h1, h2⟩ := ng_iv hI
  unfold ng
  by_cases e : tg r = -1
  · rw [if_pos e]; exact if_pos rfl
  · rw [if_neg e]
    obtain ⟨a, b, c, d, f, g, q⟩ := h2 e
    rw [q] at c d f
    have hh := home_at h1 f
    unfold stl
    rw [if_neg (by omega), if_neg (by omega), if_neg (by omega), rem_hi h1 ⟨hh.1, hh.2.1⟩ ⟨hh.2.2.1, hh.2.2.2.1⟩ (by omega)]
    exact if_pos rfl
theorem BI.ivs {b : Nat} {r : Rw} (h : BI G b r) : Iv r := h.iv
end CJS
