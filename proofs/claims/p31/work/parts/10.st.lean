theorem cp_step {F : FF} {a b : Nat} {i : Int} (hab : ln a = ln b) (h0 : 0 ≤ i ∧ i < ln a) : (up (fun k j => if k = b ∧ 0 ≤ j ∧ j < i then F a j else F k j) b i ((fun k j => if k = b ∧ 0 ≤ j ∧ j < i then F a j else F k j) a i)) = fun k j => if k = b ∧ 0 ≤ j ∧ j < i + 1 then F a j else F k j := by
  funext k j
  unfold up
  by_cases h : k = b ∧ j = i
  · obtain ⟨rfl, rfl⟩ := h
    rw [if_pos ⟨rfl, rfl⟩, if_pos (by omega)]
    dsimp only
    split
    · rfl
    · rfl
  · rw [if_neg h]
    dsimp only
    by_cases h2 : k = b ∧ 0 ≤ j ∧ j < i
    · rw [if_pos h2, if_pos (by omega)]
    · rw [if_neg h2, if_neg (by omega)]
theorem cp_end {F : FF} {a b : Nat} {i : Int} (hab : ln a = ln b) (h : ¬ i < ln a ∧ i ≤ ln a) (hz : ∀ (k : Nat) (j : Int), ¬ (0 ≤ j ∧ j < ln k) → F k j = 0) : (fun k j => if k = b ∧ 0 ≤ j ∧ j < i then F a j else F k j) = cpF F a b := by
  funext k j
  unfold cpF
  by_cases hb : k = b
  · subst hb
    rw [if_pos rfl]
    by_cases h2 : 0 ≤ j ∧ j < i
    · rw [if_pos ⟨rfl, h2⟩]
    · rw [if_neg (fun q => h2 q.2), hz k j (by omega), hz a j (by omega)]
  · rw [if_neg hb, if_neg (fun q => hb q.1)]

set_option maxRecDepth 100000 in
set_option maxHeartbeats 4000000 in
theorem k_X3_kindOf (l : Launch) {w : WP} {F : FF} {x : Int} (hx : 0 ≤ x ∧ x ≤ 1000000) : Con l yX3_kindOf cX3_kindOf 1 (some .int) 0 w [.int (iI x)] F (QI w (fun z F' => z = kn x ∧ F = F')) := by
  refine Con.mk (lv := [(0, .int (iI x))]) (by decide) (Nat.le_of_ble_eq_true rfl) rfl ?_
  intro pg ev s0 mi be me co C hz
  refine q_iload_n C 0 dX3_kindOf_0 rfl ?_
  refine q_iconst C 4 dX3_kindOf_1 ?_
  refine q_irem C dX3_kindOf_2 ⟨by omega, by omega⟩ ⟨by decide, by decide⟩ ?_
  refine q_iret C dX3_kindOf_3 ?_
  exact ⟨rfl, rfl⟩

set_option maxRecDepth 100000 in
set_option maxHeartbeats 4000000 in
theorem k_X3_endingOf (l : Launch) {w : WP} {F : FF} {x : Int} (hx : 0 ≤ x ∧ x ≤ 1000000) : Con l yX3_endingOf cX3_endingOf 1 (some .int) 0 w [.int (iI x)] F (QI w (fun z F' => z = en x ∧ F = F')) := by
  refine Con.mk (lv := [(0, .int (iI x))]) (by decide) (Nat.le_of_ble_eq_true rfl) rfl ?_
  intro pg ev s0 mi be me co C hz
  refine q_iload_n C 0 dX3_endingOf_0 rfl ?_
  refine q_iconst C 4 dX3_endingOf_1 ?_
  refine q_idiv C dX3_endingOf_2 ⟨by omega, by omega⟩ ⟨by decide, by decide⟩ ?_
  refine q_iconst C 5 dX3_endingOf_3 ?_
  refine q_irem C dX3_endingOf_4 ⟨by omega, by omega⟩ ⟨by decide, by decide⟩ ?_
  refine q_iret C dX3_endingOf_5 ?_
  exact ⟨rfl, rfl⟩

set_option maxRecDepth 100000 in
set_option maxHeartbeats 4000000 in
theorem k_X3_beatsOf (l : Launch) {w : WP} {F : FF} {x : Int} (hx : 0 ≤ x ∧ x ≤ 1000000) : Con l yX3_beatsOf cX3_beatsOf 1 (some .int) 0 w [.int (iI x)] F (QI w (fun z F' => z = bt x ∧ F = F')) := by
  refine Con.mk (lv := [(0, .int (iI x))]) (by decide) (Nat.le_of_ble_eq_true rfl) rfl ?_
  intro pg ev s0 mi be me co C hz
  refine q_iload_n C 0 dX3_beatsOf_0 rfl ?_
  refine q_iconst C 3 dX3_beatsOf_1 ?_
  refine q_irem C dX3_beatsOf_2 ⟨by omega, by omega⟩ ⟨by decide, by decide⟩ ?_
  refine q_iconst C 1 dX3_beatsOf_3 ?_
  refine q_iadd C dX3_beatsOf_4 ?_
  refine q_iret C dX3_beatsOf_5 ?_
  exact ⟨rfl, rfl⟩

set_option maxRecDepth 100000 in
set_option maxHeartbeats 4000000 in
theorem k_X3_clash (l : Launch) {w : WP} {F : FF} {x y : Int} (hx : 0 ≤ x ∧ x ≤ 1000000) (hy : 0 ≤ y ∧ y ≤ 1000000) : Con l yX3_clash cX3_clash 2 (some .boolean) 1 w [.int (iI x), .int (iI y)] F (QI w (fun z F' => (z = 1 ∧ cls x y ∨ z = 0 ∧ ¬ cls x y) ∧ F = F')) := by
  refine Con.mk (lv := [(0, .int (iI x)), (1, .int (iI y))]) (by decide) (Nat.le_of_ble_eq_true rfl) rfl ?_
  intro pg ev s0 mi be me co C hz
  refine q_iload_n C 0 dX3_clash_0 rfl ?_
  refine q_cI (q_runS (As := [.int (iI x)]) (rest := []) C (k_X3_kindOf l (by omega)) wd_268 wd_267 wd_13 wd_347 nd_X3_kindOf rfl (by decide) ⟨Nat.zero_le _, Nat.zero_le _⟩ rfl (Nat.le_of_ble_eq_true rfl) dX3_clash_1) ?_
  rintro z F' ⟨rfl, rfl⟩
  have q1 := kn_pos (x := x) (by omega)
  refine q_iload_n C 1 dX3_clash_4 rfl ?_
  refine q_cI (q_runS (As := [.int (iI y)]) (rest := [.int (iI (kn x))]) C (k_X3_kindOf l (by omega)) wd_268 wd_267 wd_13 wd_347 nd_X3_kindOf rfl (by decide) ⟨Nat.zero_le _, Nat.zero_le _⟩ rfl (Nat.le_of_ble_eq_true rfl) dX3_clash_5) ?_
  rintro z F' ⟨rfl, rfl⟩
  have q5 := kn_pos (x := y) (by omega)
  refine q_icmp_ne C 23 dX3_clash_8 ⟨by omega, by omega⟩ ⟨by omega, by omega⟩ (by decide) (fun h8 => ?_) (fun h8 => ?_)
  · refine q_iconst C 0 dX3_clash_23 ?_
    refine q_zret C dX3_clash_24 (by decide) ?_
    exact ⟨by unfold cls; omega, rfl⟩
  · refine q_iload_n C 0 dX3_clash_11 rfl ?_
    refine q_cI (q_runS (As := [.int (iI x)]) (rest := []) C (k_X3_kindOf l (by omega)) wd_268 wd_267 wd_13 wd_347 nd_X3_kindOf rfl (by decide) ⟨Nat.zero_le _, Nat.zero_le _⟩ rfl (Nat.le_of_ble_eq_true rfl) dX3_clash_12) ?_
    rintro z F' ⟨rfl, rfl⟩
    have q12 := kn_pos (x := x) (by omega)
    refine q_iconst C 2 dX3_clash_15 ?_
    refine q_icmp_eq C 23 dX3_clash_16 ⟨by omega, by omega⟩ ⟨by decide, by decide⟩ (by decide) (fun h16 => ?_) (fun h16 => ?_)
    · refine q_iconst C 0 dX3_clash_23 ?_
      refine q_zret C dX3_clash_24 (by decide) ?_
      exact ⟨by unfold cls; omega, rfl⟩
    · refine q_iconst C 1 dX3_clash_19 ?_
      refine q_goto C 24 dX3_clash_20 (by decide) ?_
      refine q_zret C dX3_clash_24 (by decide) ?_
      exact ⟨by unfold cls; omega, rfl⟩

set_option maxRecDepth 100000 in
set_option maxHeartbeats 4000000 in
theorem k_X3_lineNumber (l : Launch) {w : WP} {F : FF} {x y : Int} : Con l yX3_lineNumber cX3_lineNumber 2 (some .int) 0 w [.int (iI x), .int (iI y)] F (QI w (fun z F' => z = 4 * x + y ∧ F = F')) := by
  refine Con.mk (lv := [(0, .int (iI x)), (1, .int (iI y))]) (by decide) (Nat.le_of_ble_eq_true rfl) rfl ?_
  intro pg ev s0 mi be me co C hz
  refine q_iload_n C 0 dX3_lineNumber_0 rfl ?_
  refine q_iconst C 4 dX3_lineNumber_1 ?_
  refine q_imul C dX3_lineNumber_2 ?_
  refine q_iload_n C 1 dX3_lineNumber_3 rfl ?_
  refine q_iadd C dX3_lineNumber_4 ?_
  refine q_iret C dX3_lineNumber_5 ?_
  exact ⟨by omega, rfl⟩

set_option maxRecDepth 100000 in
set_option maxHeartbeats 4000000 in
theorem k_X3_lineCode (l : Launch) {w : WP} {F : FF} {x : Int} (hx : -1 ≤ x ∧ x ≤ 1000) : Con l yX3_lineCode cX3_lineCode 1 (some .int) 0 w [.int (iI x)] F (QI w (fun z F' => z = lc x ∧ F = F')) := by
  refine Con.mk (lv := [(0, .int (iI x))]) (by decide) (Nat.le_of_ble_eq_true rfl) rfl ?_
  intro pg ev s0 mi be me co C hz
  refine q_iload_n C 0 dX3_lineCode_0 rfl ?_
  refine q_iconst C (-1) dX3_lineCode_1 ?_
  refine q_icmp_ne C 9 dX3_lineCode_2 ⟨by omega, by omega⟩ ⟨by decide, by decide⟩ (by decide) (fun h2 => ?_) (fun h2 => ?_)
  · refine q_bipush C 10 dX3_lineCode_9 (by decide) ?_
    refine q_iload_n C 0 dX3_lineCode_11 rfl ?_
    refine q_iconst C 4 dX3_lineCode_12 ?_
    refine q_idiv C dX3_lineCode_13 ⟨by omega, by omega⟩ ⟨by decide, by decide⟩ ?_
    refine q_imul C dX3_lineCode_14 ?_
    refine q_iload_n C 0 dX3_lineCode_15 rfl ?_
    refine q_iconst C 4 dX3_lineCode_16 ?_
    refine q_irem C dX3_lineCode_17 ⟨by omega, by omega⟩ ⟨by decide, by decide⟩ ?_
    refine q_iadd C dX3_lineCode_18 ?_
    refine q_iret C dX3_lineCode_19 ?_
    exact ⟨by unfold lc; first | rw [if_pos (by omega)] | rw [if_neg (by omega)], rfl⟩
  · refine q_iconst C (-1) dX3_lineCode_5 ?_
    refine q_goto C 19 dX3_lineCode_6 (by decide) ?_
    refine q_iret C dX3_lineCode_19 ?_
    exact ⟨by unfold lc; first | rw [if_pos (by omega)] | rw [if_neg (by omega)], rfl⟩

set_option maxRecDepth 100000 in
set_option maxHeartbeats 4000000 in
theorem k_X3_cell (l : Launch) {w : WP} {F : FF} {a : Nat} {x : Int} (hk : kd a = 5) (hx : inR x) : Con l yX3_cell cX3_cell 2 (some .int) 0 w [.ref (adr w a), .int (iI x)] F (QI w (fun z F' => (0 ≤ x ∧ x < ln a → z = F a x) ∧ (¬ (0 ≤ x ∧ x < ln a) → z = -1) ∧ F = F')) := by
  refine Con.mk (lv := [(0, .ref (adr w a)), (1, .int (iI x))]) (by decide) (Nat.le_of_ble_eq_true rfl) rfl ?_
  intro pg ev s0 mi be me co C hz
  have hln := ln_lt a
  refine q_iload_n C 1 dX3_cell_0 rfl ?_
  refine q_if_lt C 16 dX3_cell_1 ⟨by omega, by omega⟩  (by decide) (fun h1 => ?_) (fun h1 => ?_)
  · refine q_iconst C (-1) dX3_cell_16 ?_
    refine q_iret C dX3_cell_17 ?_
    exact ⟨by omega, by omega, rfl⟩
  · refine q_iload_n C 1 dX3_cell_4 rfl ?_
    refine q_aload_n C 0 dX3_cell_5 rfl ?_
    refine q_alen (N := (ln a)) C (by rw [hk]; decide) rfl dX3_cell_6 ?_
    refine q_icmp_ge C 16 dX3_cell_7 ⟨by omega, by omega⟩ ⟨by omega, by omega⟩ (by decide) (fun h7 => ?_) (fun h7 => ?_)
    · refine q_iconst C (-1) dX3_cell_16 ?_
      refine q_iret C dX3_cell_17 ?_
      exact ⟨by omega, by omega, rfl⟩
    · refine q_aload_n C 0 dX3_cell_10 rfl ?_
      refine q_iload_n C 1 dX3_cell_11 rfl ?_
      refine q_iald C hk ⟨by omega, by omega⟩ dX3_cell_12 ?_
      refine q_goto C 17 dX3_cell_13 (by decide) ?_
      refine q_iret C dX3_cell_17 ?_
      exact ⟨by omega, by omega, rfl⟩

set_option maxRecDepth 100000 in
set_option maxHeartbeats 4000000 in
theorem k_X3_setCell (l : Launch) {w : WP} {F : FF} {a : Nat} {x v : Int} (hk : kd a = 5) (hx : inR x) : Con l yX3_setCell cX3_setCell 3 none 0 w [.ref (adr w a), .int (iI x), .int (iI v)] F (QV w (fun F' => (0 ≤ x ∧ x < ln a → F' = up F a x v) ∧ (¬ (0 ≤ x ∧ x < ln a) → F' = F))) := by
  refine Con.mk (lv := [(0, .ref (adr w a)), (1, .int (iI x)), (2, .int (iI v))]) (by decide) (Nat.le_of_ble_eq_true rfl) rfl ?_
  intro pg ev s0 mi be me co C hz
  have hln := ln_lt a
  refine q_iload_n C 1 dX3_setCell_0 rfl ?_
  refine q_if_lt C 14 dX3_setCell_1 ⟨by omega, by omega⟩  (by decide) (fun h1 => ?_) (fun h1 => ?_)
  · refine q_vret C dX3_setCell_14 ?_
    first | exact ⟨fun _ => rfl, fun h => absurd ⟨by omega, by omega⟩ h⟩ | exact ⟨fun h => by omega, fun _ => rfl⟩
  · refine q_iload_n C 1 dX3_setCell_4 rfl ?_
    refine q_aload_n C 0 dX3_setCell_5 rfl ?_
    refine q_alen (N := (ln a)) C (by rw [hk]; decide) rfl dX3_setCell_6 ?_
    refine q_icmp_ge C 14 dX3_setCell_7 ⟨by omega, by omega⟩ ⟨by omega, by omega⟩ (by decide) (fun h7 => ?_) (fun h7 => ?_)
    · refine q_vret C dX3_setCell_14 ?_
      first | exact ⟨fun _ => rfl, fun h => absurd ⟨by omega, by omega⟩ h⟩ | exact ⟨fun h => by omega, fun _ => rfl⟩
    · refine q_aload_n C 0 dX3_setCell_10 rfl ?_
      refine q_iload_n C 1 dX3_setCell_11 rfl ?_
      refine q_iload_n C 2 dX3_setCell_12 rfl ?_
      refine q_iast C hk ⟨by omega, by omega⟩ dX3_setCell_13 ?_
      refine q_vret C dX3_setCell_14 ?_
      first | exact ⟨fun _ => rfl, fun h => absurd ⟨by omega, by omega⟩ h⟩ | exact ⟨fun h => by omega, fun _ => rfl⟩

set_option maxRecDepth 100000 in
set_option maxHeartbeats 4000000 in
theorem k_X3_copyRow (l : Launch) {w : WP} {F : FF} {a b : Nat} (hk : kd a = 5) (hk2 : kd b = 5) (hab : ln a = ln b) : Con l yX3_copyRow cX3_copyRow 3 none 0 w [.ref (adr w a), .ref (adr w b)] F (QV w (fun F' => F' = cpF F a b)) := by
  refine Con.mk (lv := [(0, .ref (adr w a)), (1, .ref (adr w b))]) (by decide) (Nat.le_of_ble_eq_true rfl) rfl ?_
  intro pg ev s0 mi be me co C hz
  have hln := ln_lt a
  have hln2 := ln_lt b
  refine q_iconst C 0 dX3_copyRow_0 ?_
  refine q_istore_n (lv' := [(2, .int (iI 0)), (0, .ref (adr w a)), (1, .ref (adr w b))]) C dX3_copyRow_1 (by decide) rfl ?_
  refine q_lv (lv' := [(0, .ref (adr w a)), (1, .ref (adr w b)), (2, .int (iI 0))]) [1, 2, 0] rfl ?_
  refine wf2 (P := fun (i : Int) (G : FF) => Wq pg l ev _ s0 mi _ be me co _ w _ _ _ 2 [(0, .ref (adr w a)), (1, .ref (adr w b)), (2, .int (iI i))] [] G) (I := fun (i : Int) (G : FF) => 0 ≤ i ∧ i ≤ ln a ∧ G = fun k j => if k = b ∧ 0 ≤ j ∧ j < i then F a j else F k j) (μ := fun (i : Int) (G : FF) => (ln a - i).toNat) ?_ 0 F (⟨by omega, by omega, by funext k j; rw [if_neg (by omega)]⟩)
  intro i G hI' ih2
  (try dsimp only at hI'); (try dsimp only at ih2); (try dsimp only)
  obtain ⟨hi0, hi1, hG⟩ := hI'
  refine q_iload_n C 2 dX3_copyRow_2 rfl ?_
  refine q_aload_n C 0 dX3_copyRow_3 rfl ?_
  refine q_alen (N := (ln a)) C (by rw [hk]; decide) rfl dX3_copyRow_4 ?_
  refine q_icmp_ge C 26 dX3_copyRow_5 ⟨by omega, by omega⟩ ⟨by omega, by omega⟩ (by decide) (fun h5 => ?_) (fun h5 => ?_)
  · refine q_vret C dX3_copyRow_26 ?_
    rw [hG]; exact cp_end hab (by omega) hz
  · refine q_iload_n C 2 dX3_copyRow_8 rfl ?_
    refine q_aload_n C 1 dX3_copyRow_9 rfl ?_
    refine q_alen (N := (ln b)) C (by rw [hk2]; decide) rfl dX3_copyRow_10 ?_
    refine q_icmp_ge C 26 dX3_copyRow_11 ⟨by omega, by omega⟩ ⟨by omega, by omega⟩ (by decide) (fun h11 => ?_) (fun h11 => ?_)
    · refine q_vret C dX3_copyRow_26 ?_
      rw [hG]; exact cp_end hab (by omega) hz
    · refine q_aload_n C 1 dX3_copyRow_14 rfl ?_
      refine q_iload_n C 2 dX3_copyRow_15 rfl ?_
      refine q_aload_n C 0 dX3_copyRow_16 rfl ?_
      refine q_iload_n C 2 dX3_copyRow_17 rfl ?_
      refine q_iald C hk ⟨by omega, by omega⟩ dX3_copyRow_18 ?_
      refine q_iast C hk2 ⟨by omega, by omega⟩ dX3_copyRow_19 ?_
      refine q_iinc (lv' := [(2, .int (iI (i + 1))), (0, .ref (adr w a)), (1, .ref (adr w b))]) C 2 dX3_copyRow_20 rfl (by decide) rfl ?_
      refine q_goto C 2 dX3_copyRow_23 (by decide) ?_
      refine q_lv (lv' := [(0, .ref (adr w a)), (1, .ref (adr w b)), (2, .int (iI (i + 1)))]) [1, 2, 0] rfl ?_
      exact ih2 (i + 1) (up G b i (G a i)) (⟨by omega, by omega, by rw [hG]; exact cp_step hab (by omega)⟩) (by omega)

set_option maxRecDepth 100000 in
set_option maxHeartbeats 4000000 in
theorem k_X3_isWord (l : Launch) {w : WP} {F : FF} {x : Int} (hx : inR x) : Con l yX3_isWord cX3_isWord 1 (some .boolean) 0 w [.int (iI x)] F (QI w (fun z F' => (z = 1 ∧ (0 ≤ x ∧ x < 40) ∨ z = 0 ∧ ¬ (0 ≤ x ∧ x < 40)) ∧ F = F')) := by
  refine Con.mk (lv := [(0, .int (iI x))]) (by decide) (Nat.le_of_ble_eq_true rfl) rfl ?_
  intro pg ev s0 mi be me co C hz
  refine q_iload_n C 0 dX3_isWord_0 rfl ?_
  refine q_if_lt C 14 dX3_isWord_1 ⟨by omega, by omega⟩  (by decide) (fun h1 => ?_) (fun h1 => ?_)
  · refine q_iconst C 0 dX3_isWord_14 ?_
    refine q_zret C dX3_isWord_15 (by decide) ?_
    exact ⟨by omega, rfl⟩
  · refine q_iload_n C 0 dX3_isWord_4 rfl ?_
    refine q_bipush C 40 dX3_isWord_5 (by decide) ?_
    refine q_icmp_ge C 14 dX3_isWord_7 ⟨by omega, by omega⟩ ⟨by decide, by decide⟩ (by decide) (fun h7 => ?_) (fun h7 => ?_)
    · refine q_iconst C 0 dX3_isWord_14 ?_
      refine q_zret C dX3_isWord_15 (by decide) ?_
      exact ⟨by omega, rfl⟩
    · refine q_iconst C 1 dX3_isWord_10 ?_
      refine q_goto C 15 dX3_isWord_11 (by decide) ?_
      refine q_zret C dX3_isWord_15 (by decide) ?_
      exact ⟨by omega, rfl⟩

set_option maxRecDepth 100000 in
set_option maxHeartbeats 4000000 in
theorem k_X3_isDoor (l : Launch) {w : WP} {F : FF} {x : Int} (hx : inR x) : Con l yX3_isDoor cX3_isDoor 1 (some .boolean) 0 w [.int (iI x)] F (QI w (fun z F' => (z = 1 ∧ (0 ≤ x ∧ x < 4) ∨ z = 0 ∧ ¬ (0 ≤ x ∧ x < 4)) ∧ F = F')) := by
  refine Con.mk (lv := [(0, .int (iI x))]) (by decide) (Nat.le_of_ble_eq_true rfl) rfl ?_
  intro pg ev s0 mi be me co C hz
  refine q_iload_n C 0 dX3_isDoor_0 rfl ?_
  refine q_if_lt C 13 dX3_isDoor_1 ⟨by omega, by omega⟩  (by decide) (fun h1 => ?_) (fun h1 => ?_)
  · refine q_iconst C 0 dX3_isDoor_13 ?_
    refine q_zret C dX3_isDoor_14 (by decide) ?_
    exact ⟨by omega, rfl⟩
  · refine q_iload_n C 0 dX3_isDoor_4 rfl ?_
    refine q_iconst C 4 dX3_isDoor_5 ?_
    refine q_icmp_ge C 13 dX3_isDoor_6 ⟨by omega, by omega⟩ ⟨by decide, by decide⟩ (by decide) (fun h6 => ?_) (fun h6 => ?_)
    · refine q_iconst C 0 dX3_isDoor_13 ?_
      refine q_zret C dX3_isDoor_14 (by decide) ?_
      exact ⟨by omega, rfl⟩
    · refine q_iconst C 1 dX3_isDoor_9 ?_
      refine q_goto C 14 dX3_isDoor_10 (by decide) ?_
      refine q_zret C dX3_isDoor_14 (by decide) ?_
      exact ⟨by omega, rfl⟩

set_option maxRecDepth 100000 in
set_option maxHeartbeats 4000000 in
theorem k_X3_isLine (l : Launch) {w : WP} {F : FF} {x y : Int} (hx : inR x) (hy : inR y) : Con l yX3_isLine cX3_isLine 2 (some .boolean) 1 w [.int (iI x), .int (iI y)] F (QI w (fun z F' => (z = 1 ∧ (0 ≤ x ∧ x < 4 ∧ 0 ≤ y ∧ y < 4) ∨ z = 0 ∧ ¬ (0 ≤ x ∧ x < 4 ∧ 0 ≤ y ∧ y < 4)) ∧ F = F')) := by
  refine Con.mk (lv := [(0, .int (iI x)), (1, .int (iI y))]) (by decide) (Nat.le_of_ble_eq_true rfl) rfl ?_
  intro pg ev s0 mi be me co C hz
  refine q_iload_n C 0 dX3_isLine_0 rfl ?_
  refine q_cI (q_runS (As := [.int (iI x)]) (rest := []) C (k_X3_isDoor l ⟨by omega, by omega⟩) wd_304 wd_303 wd_13 wd_302 nd_X3_isDoor rfl (by decide) ⟨Nat.zero_le _, Nat.zero_le _⟩ rfl (Nat.le_of_ble_eq_true rfl) dX3_isLine_1) ?_
  rintro z F' ⟨⟨rfl, hb1⟩ | ⟨rfl, hb1⟩, rfl⟩
  · refine q_if_eq C 20 dX3_isLine_4 ⟨by decide, by decide⟩  (by decide) (fun h => absurd h (by decide)) (fun _ => ?_)
    refine q_iload_n C 1 dX3_isLine_7 rfl ?_
    refine q_if_lt C 20 dX3_isLine_8 ⟨by omega, by omega⟩  (by decide) (fun h8 => ?_) (fun h8 => ?_)
    · refine q_iconst C 0 dX3_isLine_20 ?_
      refine q_zret C dX3_isLine_21 (by decide) ?_
      exact ⟨by omega, rfl⟩
    · refine q_iload_n C 1 dX3_isLine_11 rfl ?_
      refine q_iconst C 4 dX3_isLine_12 ?_
      refine q_icmp_ge C 20 dX3_isLine_13 ⟨by omega, by omega⟩ ⟨by decide, by decide⟩ (by decide) (fun h13 => ?_) (fun h13 => ?_)
      · refine q_iconst C 0 dX3_isLine_20 ?_
        refine q_zret C dX3_isLine_21 (by decide) ?_
        exact ⟨by omega, rfl⟩
      · refine q_iconst C 1 dX3_isLine_16 ?_
        refine q_goto C 21 dX3_isLine_17 (by decide) ?_
        refine q_zret C dX3_isLine_21 (by decide) ?_
        exact ⟨by omega, rfl⟩
  · refine q_if_eq C 20 dX3_isLine_4 ⟨by decide, by decide⟩  (by decide) (fun _ => ?_) (fun h => absurd h (by decide))
    refine q_iconst C 0 dX3_isLine_20 ?_
    refine q_zret C dX3_isLine_21 (by decide) ?_
    exact ⟨by omega, rfl⟩

set_option maxRecDepth 100000 in
set_option maxHeartbeats 4000000 in
theorem k_X3_isNights (l : Launch) {w : WP} {F : FF} {x : Int} (hx : inR x) : Con l yX3_isNights cX3_isNights 1 (some .boolean) 0 w [.int (iI x)] F (QI w (fun z F' => (z = 1 ∧ (1 ≤ x ∧ x ≤ 20) ∨ z = 0 ∧ ¬ (1 ≤ x ∧ x ≤ 20)) ∧ F = F')) := by
  refine Con.mk (lv := [(0, .int (iI x))]) (by decide) (Nat.le_of_ble_eq_true rfl) rfl ?_
  intro pg ev s0 mi be me co C hz
  refine q_iload_n C 0 dX3_isNights_0 rfl ?_
  refine q_iconst C 1 dX3_isNights_1 ?_
  refine q_icmp_lt C 15 dX3_isNights_2 ⟨by omega, by omega⟩ ⟨by decide, by decide⟩ (by decide) (fun h2 => ?_) (fun h2 => ?_)
  · refine q_iconst C 0 dX3_isNights_15 ?_
    refine q_zret C dX3_isNights_16 (by decide) ?_
    exact ⟨by omega, rfl⟩
  · refine q_iload_n C 0 dX3_isNights_5 rfl ?_
    refine q_bipush C 20 dX3_isNights_6 (by decide) ?_
    refine q_icmp_gt C 15 dX3_isNights_8 ⟨by omega, by omega⟩ ⟨by decide, by decide⟩ (by decide) (fun h8 => ?_) (fun h8 => ?_)
    · refine q_iconst C 0 dX3_isNights_15 ?_
      refine q_zret C dX3_isNights_16 (by decide) ?_
      exact ⟨by omega, rfl⟩
    · refine q_iconst C 1 dX3_isNights_11 ?_
      refine q_goto C 16 dX3_isNights_12 (by decide) ?_
      refine q_zret C dX3_isNights_16 (by decide) ?_
      exact ⟨by omega, rfl⟩

set_option maxRecDepth 100000 in
set_option maxHeartbeats 4000000 in
theorem k_X3_isSetting (l : Launch) {w : WP} {F : FF} {x : Int} (hx : inR x) : Con l yX3_isSetting cX3_isSetting 1 (some .boolean) 0 w [.int (iI x)] F (QI w (fun z F' => (z = 1 ∧ (0 ≤ x ∧ x < 3) ∨ z = 0 ∧ ¬ (0 ≤ x ∧ x < 3)) ∧ F = F')) := by
  refine Con.mk (lv := [(0, .int (iI x))]) (by decide) (Nat.le_of_ble_eq_true rfl) rfl ?_
  intro pg ev s0 mi be me co C hz
  refine q_iload_n C 0 dX3_isSetting_0 rfl ?_
  refine q_if_lt C 13 dX3_isSetting_1 ⟨by omega, by omega⟩  (by decide) (fun h1 => ?_) (fun h1 => ?_)
  · refine q_iconst C 0 dX3_isSetting_13 ?_
    refine q_zret C dX3_isSetting_14 (by decide) ?_
    exact ⟨by omega, rfl⟩
  · refine q_iload_n C 0 dX3_isSetting_4 rfl ?_
    refine q_iconst C 3 dX3_isSetting_5 ?_
    refine q_icmp_ge C 13 dX3_isSetting_6 ⟨by omega, by omega⟩ ⟨by decide, by decide⟩ (by decide) (fun h6 => ?_) (fun h6 => ?_)
    · refine q_iconst C 0 dX3_isSetting_13 ?_
      refine q_zret C dX3_isSetting_14 (by decide) ?_
      exact ⟨by omega, rfl⟩
    · refine q_iconst C 1 dX3_isSetting_9 ?_
      refine q_goto C 14 dX3_isSetting_10 (by decide) ?_
      refine q_zret C dX3_isSetting_14 (by decide) ?_
      exact ⟨by omega, rfl⟩
