/-! the reference: words come and go -/
def ru (r : Rw) (i z : Int) : Rw := fun j => if j = i then z else r j
theorem ru_eq {r : Rw} {i z : Int} : ru r i z i = z := if_pos rfl
theorem ru_ne {r : Rw} {i j z : Int} (h : j ≠ i) : ru r i z j = r j := if_neg h
theorem ru_r {F : FF} {r : Rw} {i i' z : Int} (h : F 111 = r) (e : i = i') : up F 111 i z 111 = ru r i' z := by
  subst e; subst h
  funext j
  unfold up ru
  by_cases q : j = i
  · rw [if_pos ⟨rfl, q⟩, if_pos q]
  · rw [if_neg (fun g => q g.2), if_neg q]
def FrW (F F' : FF) : Prop := ∀ k, k ≠ 111 → F' k = F k
theorem FrW.refl {F : FF} : FrW F F := fun _ _ => rfl
theorem FrW.trans {F G H : FF} (h1 : FrW F G) (h2 : FrW G H) : FrW F H := fun k h => (h2 k h).trans (h1 k h)
theorem FrW.up {F G : FF} {i z : Int} (h : FrW F G) : FrW F (up G 111 i z) := fun k q => by rw [up_k q]; exact h k q
theorem la_ru {r : Rw} {x i z : Int} (hx : 0 ≤ x ∧ x < 16) (hi : 112 ≤ i) (hs : 0 ≤ r x ∧ r x ≤ 6 := by assumption) : la (ru r i z) x = la r x := by
  unfold la wa
  rw [ru_ne (by omega)]
  by_cases e : r x = 0
  · rw [if_pos e, if_pos e]
  · rw [if_neg e, if_neg e, ru_ne (by omega)]
def enl (r : Rw) (x b : Int) : Rw := fun j => if j = 112 + x then 0 else if 112 ≤ j ∧ j < 128 ∧ r j = x + 1 ∧ la r x ≠ b then 0 else r j
def enG (r : Rw) (x o : Int) : Rw := fun j => if j = 112 + x then 0 else if 112 ≤ j ∧ j < 112 + o ∧ r j = x + 1 then 0 else r j
theorem enG_0 {r : Rw} {x : Int} : ru r (112 + x) 0 = enG r x 0 := by
  funext j
  unfold ru enG
  by_cases e : j = 112 + x
  · rw [if_pos e, if_pos e]
  · rw [if_neg e, if_neg e, if_neg (by omega)]
theorem enG_v {r : Rw} {x o : Int} : enG r x o (112 + o) = if o = x then 0 else r (112 + o) := by
  unfold enG
  by_cases e : o = x
  · rw [if_pos (by omega), if_pos e]
  · rw [if_neg (by omega), if_neg e, if_neg (by omega)]
theorem enG_rng {r : Rw} {x o : Int} (hld : ∀ o, 0 ≤ o → o < 16 → 0 ≤ r (112 + o) ∧ r (112 + o) ≤ 16) (h0 : 0 ≤ o) (h1 : o < 16) : 0 ≤ enG r x o (112 + o) ∧ enG r x o (112 + o) ≤ 16 := by
  rw [enG_v]
  have := hld o h0 h1
  split <;> omega
theorem enG_t {r : Rw} {x o : Int} (h0 : 0 ≤ o) (h : enG r x o (112 + o) = x + 1) : ru (enG r x o) (112 + o) 0 = enG r x (o + 1) := by
  rw [enG_v] at h
  funext j
  unfold ru enG
  by_cases e : j = 112 + o
  · rw [if_pos e]
    by_cases q : o = x
    · rw [if_pos (by omega)]
    · rw [if_neg q] at h
      rw [if_neg (by omega), if_pos ⟨by omega, by omega, by rw [e]; exact h⟩]
  · rw [if_neg e]
    by_cases q : j = 112 + x
    · rw [if_pos q, if_pos q]
    · rw [if_neg q, if_neg q]
      by_cases g : 112 ≤ j ∧ j < 112 + o ∧ r j = x + 1
      · rw [if_pos g, if_pos ⟨g.1, by omega, g.2.2⟩]
      · rw [if_neg g, if_neg (fun k => g ⟨k.1, by omega, k.2.2⟩)]
theorem enG_f {r : Rw} {x o : Int} (h0 : 0 ≤ o) (h : ¬ enG r x o (112 + o) = x + 1) : ru (enG r x o) (112 + o) (enG r x o (112 + o)) = enG r x (o + 1) := by
  have hv := h
  rw [enG_v] at hv
  have e0 : ru (enG r x o) (112 + o) (enG r x o (112 + o)) = enG r x o := by
    funext j
    unfold ru
    by_cases e : j = 112 + o
    · rw [if_pos e, e]
    · rw [if_neg e]
  rw [e0]
  funext j
  unfold enG
  by_cases q : j = 112 + x
  · rw [if_pos q, if_pos q]
  · rw [if_neg q, if_neg q]
    by_cases g : 112 ≤ j ∧ j < 112 + o ∧ r j = x + 1
    · rw [if_pos g, if_pos ⟨g.1, by omega, g.2.2⟩]
    · rw [if_neg g, if_neg (fun k => by
        by_cases w : j = 112 + o
        · rw [if_neg (by omega)] at hv
          rw [w] at k
          exact hv k.2.2
        · exact g ⟨k.1, by omega, k.2.2⟩)]
theorem enl_same {r : Rw} {x b : Int} (h : la r x = b) : ru r (112 + x) 0 = enl r x b := by
  funext j
  unfold ru enl
  by_cases e : j = 112 + x
  · rw [if_pos e, if_pos e]
  · rw [if_neg e, if_neg e, if_neg (fun g => g.2.2.2 h)]
theorem enl_16 {r : Rw} {x b : Int} (h : la r x ≠ b) : enG r x 16 = enl r x b := by
  funext j
  unfold enG enl
  by_cases e : j = 112 + x
  · rw [if_pos e, if_pos e]
  · rw [if_neg e, if_neg e]
    by_cases g : 112 ≤ j ∧ j < 112 + 16 ∧ r j = x + 1
    · rw [if_pos g, if_pos ⟨g.1, by omega, g.2.2, h⟩]
    · rw [if_neg g, if_neg (fun k => g ⟨k.1, by omega, k.2.2.1⟩)]
/-- the words behind a place, moved on by one -/
def shI (r : Rw) (y k n : Int) : Rw := fun j => if 16 + 6 * y + k < j ∧ j ≤ 16 + 6 * y + n then r (j - 1) else r j
theorem shI_0 {r : Rw} {y n : Int} : r = shI r y n n := by
  funext j; unfold shI; rw [if_neg (by omega)]
theorem shI_at {r : Rw} {y k n : Int} (h : k ≤ n) : shI r y k n (16 + 6 * y + k - 1) = r (16 + 6 * y + k - 1) := by unfold shI; rw [if_neg (by omega)]
theorem shI_lo {r : Rw} {y k n j : Int} (h : j ≤ 16 + 6 * y + k) : shI r y k n j = r j := by unfold shI; rw [if_neg (by omega)]
theorem shI_s {r : Rw} {y k n : Int} (h : k ≤ n) : ru (shI r y k n) (16 + 6 * y + k) (r (16 + 6 * y + k - 1)) = shI r y (k + -1) n := by
  funext j
  unfold ru shI
  by_cases e : j = 16 + 6 * y + k
  · rw [if_pos e, if_pos (by omega), e]
  · rw [if_neg e]
    by_cases g : 16 + 6 * y + k < j ∧ j ≤ 16 + 6 * y + n
    · rw [if_pos g, if_pos (by omega)]
    · rw [if_neg g, if_neg (by omega)]
abbrev insR (r : Rw) (x y p k : Int) : Rw := ru (ru (shI r y k (r y)) (16 + 6 * y + p) x) y (r y + 1)
theorem ins_p1 {r : Rw} {x y p k : Int} (hI : Iv r) (hy : 0 ≤ y ∧ y < 16) (hp : 0 ≤ p ∧ p ≤ r y) (hs : r y < 6) (hk0 : p ≤ k) (hk1 : k ≤ r y) : (0 ≤ insR r x y p k y ∧ insR r x y p k y ≤ 6) ∧ ∀ o, 0 ≤ o → o < 16 → 0 ≤ insR r x y p k (112 + o) ∧ insR r x y p k (112 + o) ≤ 16 := by
  unfold insR
  refine ⟨by rw [ru_eq]; omega, fun o a c => ?_⟩
  rw [ru_ne (by omega), ru_ne (by omega)]
  unfold shI
  rw [if_neg (by omega)]
  exact hI.ld a c
theorem ins_la {r : Rw} {x y p : Int} (hI : Iv r) (hy : 0 ≤ y ∧ y < 16) (hp : 0 ≤ p ∧ p ≤ r y) (hs : r y < 6) : la (insR r x y p p) y = if p = r y then x else la r y := by
  unfold la wa insR
  rw [ru_eq, if_neg (by omega), ru_ne (by omega)]
  by_cases e : p = r y
  · rw [if_pos e, e, show 16 + 6 * y + (r y + 1 - 1) = 16 + 6 * y + r y by omega, ru_eq]
  · rw [if_neg e, if_neg (by omega), ru_ne (by omega)]
    unfold shI
    rw [if_pos (by omega)]
    congr 1; omega
theorem ins_p2 {r : Rw} {x y p k : Int} (hI : Iv r) (hh : home r x = -1) (hx : 0 ≤ x ∧ x < 40) (hy : 0 ≤ y ∧ y < 16) (hp : 0 ≤ p ∧ p ≤ r y) (hs : r y < 6) (hk : k = p) : inR (la (insR r x y p k) y) := by
  subst hk
  rw [ins_la hI hy hp hs]
  have := la_range hI hy.1 hy.2
  split
  · exact ⟨by omega, by omega⟩
  · exact ⟨by omega, by omega⟩
theorem ins_eq {r : Rw} {x y p : Int} (hI : Iv r) (hh : home r x = -1) (hx : 0 ≤ x ∧ x < 40) (hy : 0 ≤ y ∧ y < 16) (hp : 0 ≤ p ∧ p ≤ r y) (hs : r y < 6) : enl (insR r x y p p) y (la r y) = ins r x y p := by
  have hl := ins_la (x := x) hI hy hp hs
  have hx2 : p = r y → x ≠ la r y := by
    intro _ e
    unfold la at e
    by_cases q : r y = 0
    · rw [if_pos q] at e; omega
    · rw [if_neg q] at e
      exact home_no hI hh hy.1 hy.2 (p := r y - 1) (by omega) (by omega) e.symm
  have hc : (la (insR r x y p p) y ≠ la r y) ↔ p = r y := by
    rw [hl]
    by_cases e : p = r y
    · rw [if_pos e]; exact ⟨fun _ => e, fun _ => hx2 e⟩
    · rw [if_neg e]; exact ⟨fun g => absurd rfl g, fun g => absurd g e⟩
  funext j
  unfold enl ins
  simp only [hc]
  unfold insR
  by_cases a : j = 112 + y
  · rw [if_pos a, if_neg (by omega), if_neg (by omega), if_neg (by omega), if_pos a]
  · rw [if_neg a]
    by_cases b : j = y
    · rw [if_neg (by omega), if_pos b, b, ru_eq]
    · rw [if_neg b, ru_ne b]
      by_cases c : j = 16 + 6 * y + p
      · rw [if_neg (by omega), if_neg (by omega), if_pos c, c, ru_eq]
      · rw [ru_ne c]
        by_cases d : 16 + 6 * y + p < j ∧ j ≤ 16 + 6 * y + r y
        · rw [if_neg (by omega), if_pos d]
          unfold shI
          rw [if_pos d]
        · rw [if_neg d, if_neg c, if_neg a]
          unfold shI
          rw [if_neg d]
/-- the words behind a place, moved back by one -/
def sgI (r : Rw) (y q k : Int) : Rw := fun j => if 16 + 6 * y + q ≤ j ∧ j < 16 + 6 * y + k then r (j + 1) else r j
theorem sgI_0 {r : Rw} {y q : Int} : r = sgI r y q q := by
  funext j; unfold sgI; rw [if_neg (by omega)]
theorem sgI_at {r : Rw} {y q k : Int} : sgI r y q k (16 + 6 * y + k + 1) = r (16 + 6 * y + k + 1) := by unfold sgI; rw [if_neg (by omega)]
theorem sgI_lo {r : Rw} {y q k j : Int} (h : j < 16 + 6 * y + q) : sgI r y q k j = r j := by unfold sgI; rw [if_neg (by omega)]
theorem sgI_s {r : Rw} {y q k : Int} (h : q ≤ k) : ru (sgI r y q k) (16 + 6 * y + k) (r (16 + 6 * y + k + 1)) = sgI r y q (k + 1) := by
  funext j
  unfold ru sgI
  by_cases e : j = 16 + 6 * y + k
  · rw [if_pos e, if_pos (by omega), e]
  · rw [if_neg e]
    by_cases g : 16 + 6 * y + q ≤ j ∧ j < 16 + 6 * y + k
    · rw [if_pos g, if_pos (by omega)]
    · rw [if_neg g, if_neg (by omega)]
abbrev remR (r : Rw) (y q k : Int) : Rw := ru (ru (sgI r y q k) y (r y - 1)) (16 + 6 * y + (r y - 1)) 0
theorem rem_p1 {r : Rw} {y q k : Int} (hI : Iv r) (hy : 0 ≤ y ∧ y < 16) (hq : 0 ≤ q ∧ q < r y) (hk : k = r y - 1) : (0 ≤ remR r y q k y ∧ remR r y q k y ≤ 6) ∧ ∀ o, 0 ≤ o → o < 16 → 0 ≤ remR r y q k (112 + o) ∧ remR r y q k (112 + o) ≤ 16 := by
  have hs := hI.sz hy.1 hy.2
  unfold remR
  refine ⟨by rw [ru_ne (by omega), ru_eq]; omega, fun o a c => ?_⟩
  rw [ru_ne (by omega), ru_ne (by omega)]
  unfold sgI
  rw [if_neg (by omega)]
  exact hI.ld a c
theorem rem_la {r : Rw} {y q : Int} (hI : Iv r) (hy : 0 ≤ y ∧ y < 16) (hq : 0 ≤ q ∧ q < r y) : la (remR r y q (r y - 1)) y = if q = r y - 1 then (if r y = 1 then -1 else wa r y (r y - 2)) else la r y := by
  have hs := hI.sz hy.1 hy.2
  unfold la wa remR
  rw [ru_ne (by omega), ru_eq]
  by_cases e : r y - 1 = 0
  · rw [if_pos e, if_pos (by omega), if_pos (by omega)]
  · rw [if_neg e, ru_ne (by omega), ru_ne (by omega)]
    unfold sgI
    by_cases g : q = r y - 1
    · rw [if_pos g, if_neg (by omega), if_neg (by omega)]
      congr 1; omega
    · rw [if_neg g, if_pos (by omega), if_neg (by omega)]
      congr 1; omega
theorem rem_p2 {r : Rw} {y q k : Int} (hI : Iv r) (hy : 0 ≤ y ∧ y < 16) (hq : 0 ≤ q ∧ q < r y) (hk : k = r y - 1) : inR (la (remR r y q k) y) := by
  subst hk
  rw [rem_la hI hy hq]
  have h1 := la_range hI hy.1 hy.2
  have hs := hI.sz hy.1 hy.2
  split
  · split
    · exact ⟨by omega, by omega⟩
    · have := hI.wd (l := y) (p := r y - 2) hy.1 hy.2 (by omega) (by omega)
      exact ⟨by omega, by omega⟩
  · exact ⟨by omega, by omega⟩
theorem rem_eq {r : Rw} {y q : Int} (hI : Iv r) (hy : 0 ≤ y ∧ y < 16) (hq : 0 ≤ q ∧ q < r y) : enl (remR r y q (r y - 1)) y (la r y) = rem r y q := by
  have hl := rem_la hI hy hq
  have hs := hI.sz hy.1 hy.2
  have hla : la r y = wa r y (r y - 1) := by unfold la; rw [if_neg (by omega)]
  have hw := hI.wd (l := y) (p := r y - 1) hy.1 hy.2 (by omega) (by omega)
  have hc : (la (remR r y q (r y - 1)) y ≠ la r y) ↔ q = r y - 1 := by
    rw [hl]
    by_cases e : q = r y - 1
    · rw [if_pos e]
      refine ⟨fun _ => e, fun _ => ?_⟩
      rw [hla]
      by_cases g : r y = 1
      · rw [if_pos g]; omega
      · rw [if_neg g]
        intro e2
        have := (hI.inj hy.1 hy.2 (p := r y - 2) (by omega) (by omega) hy.1 hy.2 (p' := r y - 1) (by omega) (by omega) e2).2
        omega
    · rw [if_neg e]; exact ⟨fun g => absurd rfl g, fun g => absurd g e⟩
  funext j
  unfold enl rem
  simp only [hc]
  unfold remR
  by_cases a : j = 112 + y
  · rw [if_pos a, if_neg (by omega), if_neg (by omega), if_neg (by omega), if_pos a]
  · rw [if_neg a]
    by_cases c : j = 16 + 6 * y + (r y - 1)
    · rw [if_neg (by omega), if_neg (by omega), if_neg (by omega), if_pos c, c, ru_eq]
    · rw [ru_ne c]
      by_cases b : j = y
      · rw [if_neg (by omega), if_pos b, b, ru_eq]
      · rw [if_neg b, ru_ne b]
        by_cases d : 16 + 6 * y + q ≤ j ∧ j < 16 + 6 * y + (r y - 1)
        · rw [if_neg (by omega), if_pos d]
          unfold sgI
          rw [if_pos d]
        · rw [if_neg d, if_neg c, if_neg a]
          unfold sgI
          rw [if_neg d]

set_option maxRecDepth 100000 in
set_option maxHeartbeats 4000000 in
theorem k_X4_endLoans (l : Launch) {w : WP} {F : FF} {r : Rw} {x b : Int} (hr : F 111 = r) (hl : 0 ≤ x ∧ x < 16) (hs : 0 ≤ r x ∧ r x ≤ 6) (hld : ∀ o, 0 ≤ o → o < 16 → 0 ≤ r (112 + o) ∧ r (112 + o) ≤ 16) (hla : inR (la r x)) (hb : inR b) : Con l yX4_endLoans cX4_endLoans 4 none 2 w [.ref (adr w 110), .int (iI x), .int (iI b)] F (QV w (fun F' => F' 111 = enl r x b ∧ FrW F F')) := by
  refine Con.mk (lv := [(0, .ref (adr w 110)), (1, .int (iI x)), (2, .int (iI b))]) (by decide) (Nat.le_of_ble_eq_true rfl) rfl ?_
  intro pg ev s0 mi be me co C hz
  refine q_aload_n C 0 dX4_endLoans_0 rfl ?_
  refine q_get (T := TX4) (i := 0) C kd110 (by decide) rfl uws4 (by decide) wd_865 rfl dX4_endLoans_1 ?_
  refine q_bipush C 112 dX4_endLoans_4 (by decide) ?_
  refine q_iload_n C 1 dX4_endLoans_6 rfl ?_
  refine q_iadd C dX4_endLoans_7 ?_
  refine q_iconst C 0 dX4_endLoans_8 ?_
  refine q_iast C kd111 ⟨by omega, by rw [ln111]; omega⟩ dX4_endLoans_9 ?_
  refine q_aload_n C 0 dX4_endLoans_10 rfl ?_
  refine q_iload_n C 1 dX4_endLoans_11 rfl ?_
  refine q_cI (q_runV (As := [.int (iI x)]) (rest := []) C (k_X4_lastOf (F := (up F 111 (112 + x) 0)) l (ru_r hr (by omega : 112 + x = 112 + x)) (x := x) hl (by rw [ru_ne (by omega)]; exact hs)) kd110 (by decide) rfl wd_981 wd_980 wd_31 wd_81 wd_978 nd_X4_lastOf rfl (by decide) ⟨Nat.zero_le _, Nat.zero_le _⟩ rfl (Nat.le_of_ble_eq_true rfl) dX4_endLoans_12) ?_
  rintro z F' ⟨rfl, rfl⟩
  rw [la_ru hl (by omega)]
  have qla := hla
  refine q_iload_n C 2 dX4_endLoans_15 rfl ?_
  refine q_icmp_eq C 70 dX4_endLoans_16 ⟨by omega, by omega⟩ ⟨by omega, by omega⟩ (by decide) (fun h16 => ?_) (fun h16 => ?_)
  · refine q_vret C dX4_endLoans_70 ?_
    exact ⟨by rw [ru_r hr rfl]; exact enl_same (by omega), FrW.up FrW.refl⟩
  · refine q_iconst C 0 dX4_endLoans_19 ?_
    refine q_istore_n (lv' := [(3, .int (iI 0)), (0, .ref (adr w 110)), (1, .int (iI x)), (2, .int (iI b))]) C dX4_endLoans_20 (by decide) rfl ?_
    refine q_lv (lv' := [(0, .ref (adr w 110)), (1, .int (iI x)), (2, .int (iI b)), (3, .int (iI 0))]) [1, 2, 3, 0] rfl ?_
    refine wf2 (P := fun (o : Int) (G : FF) => Wq pg l ev _ s0 mi _ be me co _ w _ _ _ 21 [(0, .ref (adr w 110)), (1, .int (iI x)), (2, .int (iI b)), (3, .int (iI o))] [] G) (I := fun (o : Int) (G : FF) => 0 ≤ o ∧ o ≤ 16 ∧ G 111 = enG r x o ∧ FrW F G) (μ := fun (o : Int) (G : FF) => (16 - o).toNat) ?_ 0 (up F 111 (112 + x) 0) (⟨by omega, by omega, by rw [ru_r hr rfl]; exact enG_0, FrW.up FrW.refl⟩)
    intro o G hI' ih21
    (try dsimp only at hI'); (try dsimp only at ih21); (try dsimp only)
    obtain ⟨ho0, ho1, hG, hGf⟩ := hI'
    refine q_iload_n C 3 dX4_endLoans_21 rfl ?_
    refine q_bipush C 16 dX4_endLoans_22 (by decide) ?_
    refine q_icmp_ge C 70 dX4_endLoans_24 ⟨by omega, by omega⟩ ⟨by decide, by decide⟩ (by decide) (fun h24 => ?_) (fun h24 => ?_)
    · refine q_vret C dX4_endLoans_70 ?_
      exact ⟨by rw [hG, show o = 16 by omega]; exact enl_16 (by omega), hGf⟩
    · have hv2 := enG_rng (x := x) (o := o) hld ho0 (by omega)
      refine q_aload_n C 0 dX4_endLoans_27 rfl ?_
      refine q_get (T := TX4) (i := 0) C kd110 (by decide) rfl uws4 (by decide) wd_865 rfl dX4_endLoans_28 ?_
      refine q_bipush C 112 dX4_endLoans_31 (by decide) ?_
      refine q_iload_n C 3 dX4_endLoans_33 rfl ?_
      refine q_iadd C dX4_endLoans_34 ?_
      refine q_aload_n C 0 dX4_endLoans_35 rfl ?_
      refine q_get (T := TX4) (i := 0) C kd110 (by decide) rfl uws4 (by decide) wd_865 rfl dX4_endLoans_36 ?_
      refine q_bipush C 112 dX4_endLoans_39 (by decide) ?_
      refine q_iload_n C 3 dX4_endLoans_41 rfl ?_
      refine q_iadd C dX4_endLoans_42 ?_
      refine q_iald C kd111 ⟨by omega, by rw [ln111]; omega⟩ dX4_endLoans_43 ?_
      refine q_top (z' := (enG r x o) (112 + o)) (by rw [hG]) ?_
      refine q_iload_n C 1 dX4_endLoans_44 rfl ?_
      refine q_iconst C 1 dX4_endLoans_45 ?_
      refine q_iadd C dX4_endLoans_46 ?_
      refine q_icmp_ne C 54 dX4_endLoans_47 ⟨by omega, by omega⟩ ⟨by omega, by omega⟩ (by decide) (fun h47 => ?_) (fun h47 => ?_)
      · refine q_aload_n C 0 dX4_endLoans_54 rfl ?_
        refine q_get (T := TX4) (i := 0) C kd110 (by decide) rfl uws4 (by decide) wd_865 rfl dX4_endLoans_55 ?_
        refine q_bipush C 112 dX4_endLoans_58 (by decide) ?_
        refine q_iload_n C 3 dX4_endLoans_60 rfl ?_
        refine q_iadd C dX4_endLoans_61 ?_
        refine q_iald C kd111 ⟨by omega, by rw [ln111]; omega⟩ dX4_endLoans_62 ?_
        refine q_top (z' := (enG r x o) (112 + o)) (by rw [hG]) ?_
        refine q_iast C kd111 ⟨by omega, by rw [ln111]; omega⟩ dX4_endLoans_63 ?_
        refine q_iinc (lv' := [(3, .int (iI (o + 1))), (0, .ref (adr w 110)), (1, .int (iI x)), (2, .int (iI b))]) C 3 dX4_endLoans_64 rfl (by decide) rfl ?_
        refine q_goto C 21 dX4_endLoans_67 (by decide) ?_
        refine q_lv (lv' := [(0, .ref (adr w 110)), (1, .int (iI x)), (2, .int (iI b)), (3, .int (iI (o + 1)))]) [1, 2, 3, 0] rfl ?_
        exact ih21 (o + 1) (up G 111 (112 + o) ((enG r x o) (112 + o))) (⟨by omega, by omega, by rw [ru_r hG rfl]; first | exact enG_t ho0 (by assumption) | exact enG_f ho0 (by assumption), FrW.up hGf⟩) (by omega)
      · refine q_iconst C 0 dX4_endLoans_50 ?_
        refine q_goto C 63 dX4_endLoans_51 (by decide) ?_
        refine q_iast C kd111 ⟨by omega, by rw [ln111]; omega⟩ dX4_endLoans_63 ?_
        refine q_iinc (lv' := [(3, .int (iI (o + 1))), (0, .ref (adr w 110)), (1, .int (iI x)), (2, .int (iI b))]) C 3 dX4_endLoans_64 rfl (by decide) rfl ?_
        refine q_goto C 21 dX4_endLoans_67 (by decide) ?_
        refine q_lv (lv' := [(0, .ref (adr w 110)), (1, .int (iI x)), (2, .int (iI b)), (3, .int (iI (o + 1)))]) [1, 2, 3, 0] rfl ?_
        exact ih21 (o + 1) (up G 111 (112 + o) 0) (⟨by omega, by omega, by rw [ru_r hG rfl]; first | exact enG_t ho0 (by assumption) | exact enG_f ho0 (by assumption), FrW.up hGf⟩) (by omega)

set_option maxRecDepth 100000 in
set_option maxHeartbeats 4000000 in
theorem k_X4_insert (l : Launch) {w : WP} {F : FF} {r : Rw} {x y p : Int} (hr : F 111 = r) (hI : Iv r) (hx : 0 ≤ x ∧ x < 40) (hh : home r x = -1) (hy : 0 ≤ y ∧ y < 16) (hp : 0 ≤ p ∧ p ≤ r y) (hs : r y < 6) : Con l yX4_insert cX4_insert 7 none 3 w [.ref (adr w 110), .int (iI x), .int (iI y), .int (iI p)] F (QV w (fun F' => F' 111 = ins r x y p ∧ FrW F F')) := by
  refine Con.mk (lv := [(0, .ref (adr w 110)), (1, .int (iI x)), (2, .int (iI y)), (3, .int (iI p))]) (by decide) (Nat.le_of_ble_eq_true rfl) rfl ?_
  intro pg ev s0 mi be me co C hz
  have hlr := la_range hI hy.1 hy.2
  refine q_aload_n C 0 dX4_insert_0 rfl ?_
  refine q_iload_n C 2 dX4_insert_1 rfl ?_
  refine q_cI (q_runV (As := [.int (iI y)]) (rest := []) C (k_X4_lastOf l hr (x := y) ⟨by omega, by omega⟩ (hI.sz (by omega) (by omega))) kd110 (by decide) rfl wd_981 wd_980 wd_31 wd_81 wd_978 nd_X4_lastOf rfl (by decide) ⟨Nat.zero_le _, Nat.zero_le _⟩ rfl (Nat.le_of_ble_eq_true rfl) dX4_insert_2) ?_
  rintro z F' ⟨rfl, rfl⟩
  have q2 := la_range hI (l := y) (by omega) (by omega)
  refine q_istore (lv' := [(4, .int (iI (la r y))), (0, .ref (adr w 110)), (1, .int (iI x)), (2, .int (iI y)), (3, .int (iI p))]) C dX4_insert_5 (by decide) rfl ?_
  refine q_bipush C 16 dX4_insert_7 (by decide) ?_
  refine q_bipush C 6 dX4_insert_9 (by decide) ?_
  refine q_iload_n C 3 dX4_insert_11 rfl ?_
  refine q_imul C dX4_insert_12 ?_
  refine q_iadd C dX4_insert_13 ?_
  refine q_istore (lv' := [(5, .int (iI (16 + (6 * y)))), (4, .int (iI (la r y))), (0, .ref (adr w 110)), (1, .int (iI x)), (2, .int (iI y)), (3, .int (iI p))]) C dX4_insert_14 (by decide) rfl ?_
  refine q_aload_n C 2 dX4_insert_16 rfl ?_
  refine q_get (T := TX4) (i := 0) C kd110 (by decide) rfl uws4 (by decide) wd_865 rfl dX4_insert_17 ?_
  refine q_iconst C 0 dX4_insert_20 ?_
  refine q_iload_n C 4 dX4_insert_21 rfl ?_
  refine q_iadd C dX4_insert_22 ?_
  refine q_iald C kd111 ⟨by omega, by rw [ln111]; omega⟩ dX4_insert_23 ?_
  refine q_top (z' := r y) (by rw [hr, Int.zero_add]) ?_
  have q_0 := hI.sz (l := y) (by omega) (by omega)
  refine q_istore (lv' := [(6, .int (iI (r y))), (5, .int (iI (16 + (6 * y)))), (4, .int (iI (la r y))), (0, .ref (adr w 110)), (1, .int (iI x)), (2, .int (iI y)), (3, .int (iI p))]) C dX4_insert_24 (by decide) rfl ?_
  refine q_lv (lv' := [(0, .ref (adr w 110)), (1, .int (iI x)), (2, .int (iI y)), (3, .int (iI p)), (4, .int (iI (la r y))), (5, .int (iI (16 + (6 * y)))), (6, .int (iI (r y)))]) [3, 4, 5, 6, 2, 1, 0] rfl ?_
  refine wf2 (P := fun (k : Int) (G : FF) => Wq pg l ev _ s0 mi _ be me co _ w _ _ _ 26 [(0, .ref (adr w 110)), (1, .int (iI x)), (2, .int (iI y)), (3, .int (iI p)), (4, .int (iI (la r y))), (5, .int (iI (16 + (6 * y)))), (6, .int (iI k))] [] G) (I := fun (k : Int) (G : FF) => p ≤ k ∧ k ≤ r y ∧ G 111 = shI r y k (r y) ∧ FrW F G) (μ := fun (k : Int) (G : FF) => (k - p).toNat) ?_ (r y) F (⟨by omega, by omega, by rw [hr]; exact shI_0, FrW.refl⟩)
  intro k G hI' ih26
  (try dsimp only at hI'); (try dsimp only at ih26); (try dsimp only)
  obtain ⟨hk0, hk1, hG, hGf⟩ := hI'
  refine q_iload C 6 dX4_insert_26 rfl ?_
  refine q_iload_n C 3 dX4_insert_28 rfl ?_
  refine q_icmp_le C 60 dX4_insert_29 ⟨by omega, by omega⟩ ⟨by omega, by omega⟩ (by decide) (fun h29 => ?_) (fun h29 => ?_)
  · refine q_aload_n C 0 dX4_insert_60 rfl ?_
    refine q_get (T := TX4) (i := 0) C kd110 (by decide) rfl uws4 (by decide) wd_865 rfl dX4_insert_61 ?_
    refine q_iload C 5 dX4_insert_64 rfl ?_
    refine q_iload_n C 3 dX4_insert_66 rfl ?_
    refine q_iadd C dX4_insert_67 ?_
    refine q_iload_n C 1 dX4_insert_68 rfl ?_
    refine q_iast C kd111 ⟨by omega, by rw [ln111]; omega⟩ dX4_insert_69 ?_
    refine q_aload_n C 0 dX4_insert_70 rfl ?_
    refine q_get (T := TX4) (i := 0) C kd110 (by decide) rfl uws4 (by decide) wd_865 rfl dX4_insert_71 ?_
    refine q_iconst C 0 dX4_insert_74 ?_
    refine q_iload_n C 2 dX4_insert_75 rfl ?_
    refine q_iadd C dX4_insert_76 ?_
    refine q_dup2 C dX4_insert_77 rfl rfl ?_
    refine q_iald C kd111 ⟨by omega, by rw [ln111]; omega⟩ dX4_insert_78 ?_
    refine q_top (z' := r y) (by rw [(ru_r hG (by omega : (16 + (6 * y)) + p = (16 + (6 * y)) + p)), Int.zero_add, ru_ne (by omega)]; exact shI_lo (by omega)) ?_
    refine q_iconst C 1 dX4_insert_79 ?_
    refine q_iadd C dX4_insert_80 ?_
    refine q_iast C kd111 ⟨by omega, by rw [ln111]; omega⟩ dX4_insert_81 ?_
    refine q_aload_n C 0 dX4_insert_82 rfl ?_
    refine q_iload_n C 2 dX4_insert_83 rfl ?_
    refine q_iload C 4 dX4_insert_84 rfl ?_
    refine q_cV (q_runV (As := [.int (iI y), .int (iI (la r y))]) (rest := []) C (k_X4_endLoans (F := (up (up G 111 ((16 + (6 * y)) + p) x) 111 (0 + y) ((r y) + 1))) l (ru_r (ru_r hG (by omega : (16 + (6 * y)) + p = (16 + (6 * y)) + p)) (by omega : 0 + y = y)) (x := y) (b := la r y) ⟨by omega, by omega⟩ (ins_p1 (x := x) hI hy hp hs hk0 hk1).1 (ins_p1 (x := x) hI hy hp hs hk0 hk1).2 (ins_p2 hI hh hx hy hp hs (show k = p by omega)) ⟨by omega, by omega⟩) kd110 (by decide) rfl wd_985 wd_984 wd_32 wd_81 wd_982 nd_X4_endLoans rfl (by decide) ⟨Nat.zero_le _, Nat.zero_le _⟩ rfl (Nat.le_of_ble_eq_true rfl) dX4_insert_86) ?_
    rintro G2 ⟨hEG2, hfG2⟩
    refine q_vret C dX4_insert_89 ?_
    exact ⟨by rw [hEG2, show k = p by omega]; exact ins_eq hI hh hx hy hp hs, (FrW.trans (FrW.up (FrW.up hGf)) hfG2)⟩
  · refine q_aload_n C 0 dX4_insert_32 rfl ?_
    refine q_get (T := TX4) (i := 0) C kd110 (by decide) rfl uws4 (by decide) wd_865 rfl dX4_insert_33 ?_
    refine q_iload C 5 dX4_insert_36 rfl ?_
    refine q_iload C 6 dX4_insert_38 rfl ?_
    refine q_iadd C dX4_insert_40 ?_
    refine q_aload_n C 0 dX4_insert_41 rfl ?_
    refine q_get (T := TX4) (i := 0) C kd110 (by decide) rfl uws4 (by decide) wd_865 rfl dX4_insert_42 ?_
    refine q_iload C 5 dX4_insert_45 rfl ?_
    refine q_iload C 6 dX4_insert_47 rfl ?_
    refine q_iadd C dX4_insert_49 ?_
    refine q_iconst C 1 dX4_insert_50 ?_
    refine q_isub C dX4_insert_51 ?_
    refine q_iald C kd111 ⟨by omega, by rw [ln111]; omega⟩ dX4_insert_52 ?_
    refine q_top (z' := r (16 + 6 * y + k - 1)) (by rw [hG]; exact shI_at hk1) ?_
    refine q_iast C kd111 ⟨by omega, by rw [ln111]; omega⟩ dX4_insert_53 ?_
    refine q_iinc (lv' := [(6, .int (iI (k + (-1)))), (0, .ref (adr w 110)), (1, .int (iI x)), (2, .int (iI y)), (3, .int (iI p)), (4, .int (iI (la r y))), (5, .int (iI (16 + (6 * y))))]) C 6 dX4_insert_54 rfl (by decide) rfl ?_
    refine q_goto C 26 dX4_insert_57 (by decide) ?_
    refine q_lv (lv' := [(0, .ref (adr w 110)), (1, .int (iI x)), (2, .int (iI y)), (3, .int (iI p)), (4, .int (iI (la r y))), (5, .int (iI (16 + (6 * y)))), (6, .int (iI (k + (-1))))]) [1, 2, 3, 4, 5, 6, 0] rfl ?_
    exact ih26 (k + (-1)) (up G 111 ((16 + (6 * y)) + k) (r (16 + 6 * y + k - 1))) (⟨by omega, by omega, by rw [ru_r hG rfl]; exact shI_s (by omega), FrW.up hGf⟩) (by omega)

set_option maxRecDepth 100000 in
set_option maxHeartbeats 4000000 in
theorem k_X4_removeAt (l : Launch) {w : WP} {F : FF} {r : Rw} {y q : Int} (hr : F 111 = r) (hI : Iv r) (hy : 0 ≤ y ∧ y < 16) (hq : 0 ≤ q ∧ q < r y) : Con l yX4_removeAt cX4_removeAt 6 none 3 w [.ref (adr w 110), .int (iI y), .int (iI q)] F (QV w (fun F' => F' 111 = rem r y q ∧ FrW F F')) := by
  refine Con.mk (lv := [(0, .ref (adr w 110)), (1, .int (iI y)), (2, .int (iI q))]) (by decide) (Nat.le_of_ble_eq_true rfl) rfl ?_
  intro pg ev s0 mi be me co C hz
  have hlr := la_range hI hy.1 hy.2
  have hsy := hI.sz hy.1 hy.2
  refine q_aload_n C 0 dX4_removeAt_0 rfl ?_
  refine q_iload_n C 1 dX4_removeAt_1 rfl ?_
  refine q_cI (q_runV (As := [.int (iI y)]) (rest := []) C (k_X4_lastOf l hr (x := y) ⟨by omega, by omega⟩ (hI.sz (by omega) (by omega))) kd110 (by decide) rfl wd_981 wd_980 wd_31 wd_81 wd_978 nd_X4_lastOf rfl (by decide) ⟨Nat.zero_le _, Nat.zero_le _⟩ rfl (Nat.le_of_ble_eq_true rfl) dX4_removeAt_2) ?_
  rintro z F' ⟨rfl, rfl⟩
  have q2 := la_range hI (l := y) (by omega) (by omega)
  refine q_istore_n (lv' := [(3, .int (iI (la r y))), (0, .ref (adr w 110)), (1, .int (iI y)), (2, .int (iI q))]) C dX4_removeAt_5 (by decide) rfl ?_
  refine q_bipush C 16 dX4_removeAt_6 (by decide) ?_
  refine q_bipush C 6 dX4_removeAt_8 (by decide) ?_
  refine q_iload_n C 2 dX4_removeAt_10 rfl ?_
  refine q_imul C dX4_removeAt_11 ?_
  refine q_iadd C dX4_removeAt_12 ?_
  refine q_istore (lv' := [(4, .int (iI (16 + (6 * y)))), (3, .int (iI (la r y))), (0, .ref (adr w 110)), (1, .int (iI y)), (2, .int (iI q))]) C dX4_removeAt_13 (by decide) rfl ?_
  refine q_iload_n C 4 dX4_removeAt_15 rfl ?_
  refine q_istore (lv' := [(5, .int (iI q)), (4, .int (iI (16 + (6 * y)))), (3, .int (iI (la r y))), (0, .ref (adr w 110)), (1, .int (iI y)), (2, .int (iI q))]) C dX4_removeAt_16 (by decide) rfl ?_
  refine q_lv (lv' := [(0, .ref (adr w 110)), (1, .int (iI y)), (2, .int (iI q)), (3, .int (iI (la r y))), (4, .int (iI (16 + (6 * y)))), (5, .int (iI q))]) [3, 4, 5, 2, 1, 0] rfl ?_
  refine wf2 (P := fun (k : Int) (G : FF) => Wq pg l ev _ s0 mi _ be me co _ w _ _ _ 18 [(0, .ref (adr w 110)), (1, .int (iI y)), (2, .int (iI q)), (3, .int (iI (la r y))), (4, .int (iI (16 + (6 * y)))), (5, .int (iI k))] [] G) (I := fun (k : Int) (G : FF) => q ≤ k ∧ k ≤ r y - 1 ∧ G 111 = sgI r y q k ∧ FrW F G) (μ := fun (k : Int) (G : FF) => (r y - k).toNat) ?_ q F (⟨by omega, by omega, by rw [hr]; exact sgI_0, FrW.refl⟩)
  intro k G hI' ih18
  (try dsimp only at hI'); (try dsimp only at ih18); (try dsimp only)
  obtain ⟨hk0, hk1, hG, hGf⟩ := hI'
  refine q_iload C 5 dX4_removeAt_18 rfl ?_
  refine q_iconst C 1 dX4_removeAt_20 ?_
  refine q_iadd C dX4_removeAt_21 ?_
  refine q_aload_n C 0 dX4_removeAt_22 rfl ?_
  refine q_get (T := TX4) (i := 0) C kd110 (by decide) rfl uws4 (by decide) wd_865 rfl dX4_removeAt_23 ?_
  refine q_iconst C 0 dX4_removeAt_26 ?_
  refine q_iload_n C 1 dX4_removeAt_27 rfl ?_
  refine q_iadd C dX4_removeAt_28 ?_
  refine q_iald C kd111 ⟨by omega, by rw [ln111]; omega⟩ dX4_removeAt_29 ?_
  refine q_top (z' := r y) (by rw [hG, Int.zero_add]; exact sgI_lo (by omega)) ?_
  refine q_icmp_ge C 61 dX4_removeAt_30 ⟨by omega, by omega⟩ ⟨by omega, by omega⟩ (by decide) (fun h30 => ?_) (fun h30 => ?_)
  · refine q_aload_n C 0 dX4_removeAt_61 rfl ?_
    refine q_get (T := TX4) (i := 0) C kd110 (by decide) rfl uws4 (by decide) wd_865 rfl dX4_removeAt_62 ?_
    refine q_iconst C 0 dX4_removeAt_65 ?_
    refine q_iload_n C 1 dX4_removeAt_66 rfl ?_
    refine q_iadd C dX4_removeAt_67 ?_
    refine q_dup2 C dX4_removeAt_68 rfl rfl ?_
    refine q_iald C kd111 ⟨by omega, by rw [ln111]; omega⟩ dX4_removeAt_69 ?_
    refine q_top (z' := r y) (by rw [hG, Int.zero_add]; exact sgI_lo (by omega)) ?_
    refine q_iconst C 1 dX4_removeAt_70 ?_
    refine q_isub C dX4_removeAt_71 ?_
    refine q_iast C kd111 ⟨by omega, by rw [ln111]; omega⟩ dX4_removeAt_72 ?_
    refine q_aload_n C 0 dX4_removeAt_73 rfl ?_
    refine q_get (T := TX4) (i := 0) C kd110 (by decide) rfl uws4 (by decide) wd_865 rfl dX4_removeAt_74 ?_
    refine q_iload C 4 dX4_removeAt_77 rfl ?_
    refine q_aload_n C 0 dX4_removeAt_79 rfl ?_
    refine q_get (T := TX4) (i := 0) C kd110 (by decide) rfl uws4 (by decide) wd_865 rfl dX4_removeAt_80 ?_
    refine q_iconst C 0 dX4_removeAt_83 ?_
    refine q_iload_n C 1 dX4_removeAt_84 rfl ?_
    refine q_iadd C dX4_removeAt_85 ?_
    refine q_iald C kd111 ⟨by omega, by rw [ln111]; omega⟩ dX4_removeAt_86 ?_
    refine q_top (z' := (r y) - 1) (by rw [(ru_r hG (by omega : 0 + y = y)), Int.zero_add]; simp (disch := omega) only [ru_eq, ru_ne]) ?_
    refine q_iadd C dX4_removeAt_87 ?_
    refine q_iconst C 0 dX4_removeAt_88 ?_
    refine q_iast C kd111 ⟨by omega, by rw [ln111]; omega⟩ dX4_removeAt_89 ?_
    refine q_aload_n C 0 dX4_removeAt_90 rfl ?_
    refine q_iload_n C 1 dX4_removeAt_91 rfl ?_
    refine q_iload_n C 3 dX4_removeAt_92 rfl ?_
    refine q_cV (q_runV (As := [.int (iI y), .int (iI (la r y))]) (rest := []) C (k_X4_endLoans (F := (up (up G 111 (0 + y) ((r y) - 1)) 111 ((16 + (6 * y)) + ((r y) - 1)) 0)) l (ru_r (ru_r hG (by omega : 0 + y = y)) (by omega : (16 + (6 * y)) + ((r y) - 1) = (16 + (6 * y)) + ((r y) - 1))) (x := y) (b := la r y) ⟨by omega, by omega⟩ (rem_p1 hI hy hq (show k = r y - 1 by omega)).1 (rem_p1 hI hy hq (show k = r y - 1 by omega)).2 (rem_p2 hI hy hq (show k = r y - 1 by omega)) ⟨by omega, by omega⟩) kd110 (by decide) rfl wd_985 wd_984 wd_32 wd_81 wd_982 nd_X4_endLoans rfl (by decide) ⟨Nat.zero_le _, Nat.zero_le _⟩ rfl (Nat.le_of_ble_eq_true rfl) dX4_removeAt_93) ?_
    rintro G1 ⟨hEG1, hfG1⟩
    refine q_vret C dX4_removeAt_96 ?_
    exact ⟨by rw [hEG1, show k = r y - 1 by omega]; exact rem_eq hI hy hq, (FrW.trans (FrW.up (FrW.up hGf)) hfG1)⟩
  · refine q_aload_n C 0 dX4_removeAt_33 rfl ?_
    refine q_get (T := TX4) (i := 0) C kd110 (by decide) rfl uws4 (by decide) wd_865 rfl dX4_removeAt_34 ?_
    refine q_iload C 4 dX4_removeAt_37 rfl ?_
    refine q_iload C 5 dX4_removeAt_39 rfl ?_
    refine q_iadd C dX4_removeAt_41 ?_
    refine q_aload_n C 0 dX4_removeAt_42 rfl ?_
    refine q_get (T := TX4) (i := 0) C kd110 (by decide) rfl uws4 (by decide) wd_865 rfl dX4_removeAt_43 ?_
    refine q_iload C 4 dX4_removeAt_46 rfl ?_
    refine q_iload C 5 dX4_removeAt_48 rfl ?_
    refine q_iadd C dX4_removeAt_50 ?_
    refine q_iconst C 1 dX4_removeAt_51 ?_
    refine q_iadd C dX4_removeAt_52 ?_
    refine q_iald C kd111 ⟨by omega, by rw [ln111]; omega⟩ dX4_removeAt_53 ?_
    refine q_top (z' := r (16 + 6 * y + k + 1)) (by rw [hG]; exact sgI_at) ?_
    refine q_iast C kd111 ⟨by omega, by rw [ln111]; omega⟩ dX4_removeAt_54 ?_
    refine q_iinc (lv' := [(5, .int (iI (k + 1))), (0, .ref (adr w 110)), (1, .int (iI y)), (2, .int (iI q)), (3, .int (iI (la r y))), (4, .int (iI (16 + (6 * y))))]) C 5 dX4_removeAt_55 rfl (by decide) rfl ?_
    refine q_goto C 18 dX4_removeAt_58 (by decide) ?_
    refine q_lv (lv' := [(0, .ref (adr w 110)), (1, .int (iI y)), (2, .int (iI q)), (3, .int (iI (la r y))), (4, .int (iI (16 + (6 * y)))), (5, .int (iI (k + 1)))]) [1, 2, 3, 4, 5, 0] rfl ?_
    exact ih18 (k + 1) (up G 111 ((16 + (6 * y)) + k) (r (16 + 6 * y + k + 1))) (⟨by omega, by omega, by rw [ru_r hG rfl]; exact sgI_s (by omega), FrW.up hGf⟩) (by omega)

set_option maxRecDepth 100000 in
set_option maxHeartbeats 4000000 in
theorem k_X4_emptyDoor (l : Launch) {w : WP} {F : FF} {r : Rw} {d : Int} (hr : F 111 = r) (hI : Iv r) (hd : 0 ≤ d ∧ d < 4) : Con l yX4_emptyDoor cX4_emptyDoor 4 (some .int) 4 w [.ref (adr w 110), .int (iI d)] F (QI w (fun z F' => z = dwo r d ∧ F' 111 = clr r d ∧ Iv (clr r d) ∧ FrW F F')) := by
  refine Con.mk (lv := [(0, .ref (adr w 110)), (1, .int (iI d))]) (by decide) (Nat.le_of_ble_eq_true rfl) rfl ?_
  intro pg ev s0 mi be me co C hz
  refine q_iconst C 0 dX4_emptyDoor_0 ?_
  refine q_istore_n (lv' := [(2, .int (iI 0)), (0, .ref (adr w 110)), (1, .int (iI d))]) C dX4_emptyDoor_1 (by decide) rfl ?_
  refine q_iconst C 4 dX4_emptyDoor_2 ?_
  refine q_iload_n C 2 dX4_emptyDoor_3 rfl ?_
  refine q_imul C dX4_emptyDoor_4 ?_
  refine q_istore_n (lv' := [(3, .int (iI (4 * d))), (2, .int (iI 0)), (0, .ref (adr w 110)), (1, .int (iI d))]) C dX4_emptyDoor_5 (by decide) rfl ?_
  refine q_lv (lv' := [(0, .ref (adr w 110)), (1, .int (iI d)), (2, .int (iI 0)), (3, .int (iI (4 * d)))]) [2, 3, 1, 0] rfl ?_
  refine wf4 (P := fun (o : Int) (n : Int) (s : Rw) (G : FF) => Wq pg l ev _ s0 mi _ be me co _ w _ _ _ 6 [(0, .ref (adr w 110)), (1, .int (iI d)), (2, .int (iI n)), (3, .int (iI o))] [] G) (I := fun (o : Int) (n : Int) (s : Rw) (G : FF) => 4 * d ≤ o ∧ o ≤ 4 * d + 4 ∧ G 111 = s ∧ Iv s ∧ FrW F G ∧ clr s d = clr r d ∧ n + dwo s d = dwo r d ∧ (∀ l, 4 * d ≤ l → l < o → s l = 0)) (μ := fun (o : Int) (n : Int) (s : Rw) (G : FF) => (4 * d + 4 - o).toNat) ?_ (4 * d) 0 r F (⟨by omega, by omega, hr, hI, FrW.refl, rfl, by omega, fun l a c => by omega⟩)
  intro o n s G hI' ih6
  (try dsimp only at hI'); (try dsimp only at ih6); (try dsimp only)
  obtain ⟨ho0, ho1, hG, hIs, hGf, hc, hn, hw⟩ := hI'
  refine q_iload_n C 3 dX4_emptyDoor_6 rfl ?_
  refine q_iconst C 4 dX4_emptyDoor_7 ?_
  refine q_iload_n C 1 dX4_emptyDoor_8 rfl ?_
  refine q_imul C dX4_emptyDoor_9 ?_
  refine q_iconst C 4 dX4_emptyDoor_10 ?_
  refine q_iadd C dX4_emptyDoor_11 ?_
  refine q_icmp_ge C 53 dX4_emptyDoor_12 ⟨by omega, by omega⟩ ⟨by omega, by omega⟩ (by decide) (fun h12 => ?_) (fun h12 => ?_)
  · refine q_iload_n C 2 dX4_emptyDoor_53 rfl ?_
    refine q_iret C dX4_emptyDoor_54 ?_
    have hem : ∀ l, 4 * d ≤ l → l < 4 * d + 4 → s l = 0 := fun l a c => hw l a (by omega)
    exact ⟨by rw [← hn, dwo_0 hem]; omega, by rw [hG, ← hc, clr_self hIs hd hem], by rw [← hc, clr_self hIs hd hem]; exact hIs, hGf⟩
  · refine q_lv (lv' := [(0, .ref (adr w 110)), (1, .int (iI d)), (2, .int (iI n)), (3, .int (iI o))]) [0, 1, 2, 3] rfl ?_
    refine wf3 (P := fun (n2 : Int) (s2 : Rw) (G2 : FF) => Wq pg l ev _ s0 mi _ be me co _ w _ _ _ 15 [(0, .ref (adr w 110)), (1, .int (iI d)), (2, .int (iI n2)), (3, .int (iI o))] [] G2) (I := fun (n2 : Int) (s2 : Rw) (G2 : FF) => G2 111 = s2 ∧ Iv s2 ∧ FrW F G2 ∧ clr s2 d = clr r d ∧ n2 + dwo s2 d = dwo r d ∧ (∀ l, 4 * d ≤ l → l < o → s2 l = 0)) (μ := fun (n2 : Int) (s2 : Rw) (G2 : FF) => (s2 o).toNat) ?_ n s G (⟨hG, hIs, hGf, hc, hn, hw⟩)
    intro n2 s2 G2 hI' ih15
    (try dsimp only at hI'); (try dsimp only at ih15); (try dsimp only)
    obtain ⟨hG2, hIs2, hGf2, hc2, hn2, hw2⟩ := hI'
    have hso := hIs2.sz (l := o) (by omega) (by omega)
    refine q_aload_n C 0 dX4_emptyDoor_15 rfl ?_
    refine q_get (T := TX4) (i := 0) C kd110 (by decide) rfl uws4 (by decide) wd_865 rfl dX4_emptyDoor_16 ?_
    refine q_iconst C 0 dX4_emptyDoor_19 ?_
    refine q_iload_n C 3 dX4_emptyDoor_20 rfl ?_
    refine q_iadd C dX4_emptyDoor_21 ?_
    refine q_iald C kd111 ⟨by omega, by rw [ln111]; omega⟩ dX4_emptyDoor_22 ?_
    refine q_top (z' := s2 o) (by rw [hG2, Int.zero_add]) ?_
    have q_0 := hIs2.sz (l := o) (by omega) (by omega)
    refine q_if_le C 47 dX4_emptyDoor_23 ⟨by omega, by omega⟩  (by decide) (fun h23 => ?_) (fun h23 => ?_)
    · refine q_iinc (lv' := [(3, .int (iI (o + 1))), (0, .ref (adr w 110)), (1, .int (iI d)), (2, .int (iI n2))]) C 3 dX4_emptyDoor_47 rfl (by decide) rfl ?_
      refine q_goto C 6 dX4_emptyDoor_50 (by decide) ?_
      refine q_lv (lv' := [(0, .ref (adr w 110)), (1, .int (iI d)), (2, .int (iI n2)), (3, .int (iI (o + 1)))]) [1, 2, 3, 0] rfl ?_
      exact ih6 (o + 1) n2 s2 G2 (⟨by omega, by omega, hG2, hIs2, hGf2, hc2, hn2, fun l a c => by rcases (show l < o ∨ l = o by omega) with g | g; exact hw2 l a g; subst g; omega⟩) (by omega)
    · refine q_aload_n C 0 dX4_emptyDoor_26 rfl ?_
      refine q_iload_n C 3 dX4_emptyDoor_27 rfl ?_
      refine q_aload_n C 0 dX4_emptyDoor_28 rfl ?_
      refine q_get (T := TX4) (i := 0) C kd110 (by decide) rfl uws4 (by decide) wd_865 rfl dX4_emptyDoor_29 ?_
      refine q_iconst C 0 dX4_emptyDoor_32 ?_
      refine q_iload_n C 3 dX4_emptyDoor_33 rfl ?_
      refine q_iadd C dX4_emptyDoor_34 ?_
      refine q_iald C kd111 ⟨by omega, by rw [ln111]; omega⟩ dX4_emptyDoor_35 ?_
      refine q_top (z' := s2 o) (by rw [hG2, Int.zero_add]) ?_
      have q_1 := hIs2.sz (l := o) (by omega) (by omega)
      refine q_iconst C 1 dX4_emptyDoor_36 ?_
      refine q_isub C dX4_emptyDoor_37 ?_
      refine q_cV (q_runV (As := [.int (iI o), .int (iI ((s2 o) - 1))]) (rest := []) C (k_X4_removeAt (F := G2) l hG2 hIs2 (y := o) (q := (s2 o) - 1) ⟨by omega, by omega⟩ ⟨by omega, by omega⟩) kd110 (by decide) rfl wd_997 wd_996 wd_34 wd_81 wd_994 nd_X4_removeAt rfl (by decide) ⟨Nat.zero_le _, Nat.zero_le _⟩ rfl (Nat.le_of_ble_eq_true rfl) dX4_emptyDoor_38) ?_
      rintro G3 ⟨hEG3, hfG3⟩
      have hIG3 := rem_iv hIs2 (y := o) (q := (s2 o) - 1) ⟨by omega, by omega⟩ ⟨by omega, by omega⟩
      refine q_iinc (lv' := [(2, .int (iI (n2 + 1))), (0, .ref (adr w 110)), (1, .int (iI d)), (3, .int (iI o))]) C 2 dX4_emptyDoor_41 rfl (by decide) rfl ?_
      refine q_goto C 15 dX4_emptyDoor_44 (by decide) ?_
      refine q_lv (lv' := [(0, .ref (adr w 110)), (1, .int (iI d)), (2, .int (iI (n2 + 1))), (3, .int (iI o))]) [1, 2, 0, 3] rfl ?_
      exact ih15 (n2 + 1) (rem s2 o (s2 o - 1)) G3 (⟨hEG3, hIG3, FrW.trans hGf2 hfG3, by rw [clr_rem hIs2 ⟨by omega, by omega⟩ ⟨by omega, by omega⟩ (by omega)]; exact hc2, by rw [dwo_rem hIs2 ⟨by omega, by omega⟩ ⟨by omega, by omega⟩ (by omega)]; omega, fun l a c => by rw [rem_sz hIs2 ⟨by omega, by omega⟩ ⟨by omega, by omega⟩ (by omega) (by omega), if_neg (by omega)]; exact hw2 l a c⟩) (by rw [rem_sz hIs2 ⟨by omega, by omega⟩ ⟨by omega, by omega⟩ (by omega) (by omega), if_pos rfl]; omega)
