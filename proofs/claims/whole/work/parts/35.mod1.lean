/-! the reference: what it reads off its row -/
theorem kd110 : kd 110 = 4 := rfl
theorem kd111 : kd 111 = 5 := rfl
theorem kd112 : kd 112 = 5 := rfl
theorem kd113 : kd 113 = 5 := rfl
theorem kd114 : kd 114 = 6 := rfl
theorem kd115 : kd 115 = 5 := rfl
theorem kd116 : kd 116 = 5 := rfl
theorem kd117 : kd 117 = 5 := rfl
theorem kd118 : kd 118 = 5 := rfl
theorem kd119 : kd 119 = 5 := rfl
theorem ln111 : ln 111 = 182 := rfl
theorem ln112 : ln 112 = 1092 := rfl
theorem ln113 : ln 113 = 364 := rfl
theorem ln114 : ln 114 = 2 := rfl
theorem ln115 : ln 115 = 182 := rfl
theorem ln116 : ln 116 = 60 := rfl
theorem ln117 : ln 117 = 24 := rfl
theorem ln118 : ln 118 = 24 := rfl
theorem ln119 : ln 119 = 72 := rfl
theorem plc_eq {r : Rw} {x p : Int} (hI : Iv r) (hx : home r x ≠ -1) (h0 : 0 ≤ p) (h1 : p ≤ plc r x) (e : wa r (home r x) p = x) : p = plc r x := by
  obtain ⟨a, b, c, d, f⟩ := home_at hI hx
  exact (hI.inj a b h0 (by omega) a b c d (e.trans f.symm)).2
theorem bo_line {r : Rw} {l : Int} (hI : Iv r) (h0 : 0 ≤ l) (h1 : l < 16) : 0 ≤ bo (wa r l) (r l) ∧ bo (wa r l) (r l) ≤ 18 := by
  have hs := hI.sz h0 h1
  have := bo_bounds (f := wa r l) hs.1 (fun p a b => (hI.wd h0 h1 a b).1)
  omega
theorem la_word {r : Rw} {l : Int} (hI : Iv r) (h0 : 0 ≤ l) (h1 : l < 16) (h2 : 0 < r l) : 0 ≤ la r l ∧ la r l < 40 := by
  unfold la
  rw [if_neg (by omega)]
  exact hI.wd h0 h1 (by omega) (by omega)
theorem sm_rng {r : Rw} {d o : Int} (hI : Iv r) (hd : 0 ≤ d ∧ d < 4) (h0 : 4 * d ≤ o) (h1 : o ≤ 4 * d + 4) : 0 ≤ sm (fun i => r (4 * d + i)) (o - 4 * d) ∧ sm (fun i => r (4 * d + i)) (o - 4 * d) ≤ 24 := by
  have a := sm_nn (f := fun i => r (4 * d + i)) (n := o - 4 * d) (fun i i0 i1 => (hI.sz (by omega) (by omega)).1)
  have b := sm_le (f := fun i => r (4 * d + i)) (c := 6) (n := o - 4 * d) (by omega) (fun i i0 i1 => (hI.sz (by omega) (by omega)).2)
  omega

set_option maxRecDepth 100000 in
set_option maxHeartbeats 4000000 in
theorem k_X4_thrown (l : Launch) {w : WP} {F : FF}  : Con l yX4_thrown cX4_thrown 1 (some .int) 0 w [.ref (adr w 110)] F (QI w (fun z F' => z = F 110 8 ∧ F = F')) := by
  refine Con.mk (lv := [(0, .ref (adr w 110))]) (by decide) (Nat.le_of_ble_eq_true rfl) rfl ?_
  intro pg ev s0 mi be me co C hz
  refine q_aload_n C 0 dX4_thrown_0 rfl ?_
  refine q_get (T := TX4) (i := 8) C kd110 (by decide) rfl uws4 (by decide) wd_873 rfl dX4_thrown_1 ?_
  refine q_iret C dX4_thrown_4 ?_
  exact ⟨rfl, rfl⟩

set_option maxRecDepth 100000 in
set_option maxHeartbeats 4000000 in
theorem k_X4_fails (l : Launch) {w : WP} {F : FF} {x : Int} : Con l yX4_fails cX4_fails 2 (some .int) 0 w [.ref (adr w 110), .int (iI x)] F (QI w (fun z F' => z = 0 ∧ F' = up F 110 8 x)) := by
  refine Con.mk (lv := [(0, .ref (adr w 110)), (1, .int (iI x))]) (by decide) (Nat.le_of_ble_eq_true rfl) rfl ?_
  intro pg ev s0 mi be me co C hz
  refine q_aload_n C 0 dX4_fails_0 rfl ?_
  refine q_iload_n C 1 dX4_fails_1 rfl ?_
  refine q_put (T := TX4) (tyX := tyX4) (i := 8) (j := 8) (z := x) (ty := .int) C rfl kd110 (by decide) rfl uws4 tyX4_ok nmX4 (by decide) (kd_ln.2.2.2.2 kd110) wd_873 rfl rfl rfl rfl (fsS_4_8 w _ _ _) (Nat.le_of_ble_eq_true rfl) dX4_fails_2 ?_
  refine q_iconst C 0 dX4_fails_5 ?_
  refine q_iret C dX4_fails_6 ?_
  exact ⟨rfl, rfl⟩

set_option maxRecDepth 100000 in
set_option maxHeartbeats 4000000 in
theorem k_X4_in (l : Launch) {w : WP} {F : FF} {x a b : Int} (hx : inR x) (ha : inR a) (hb : inR b) : Con l yX4_in cX4_in 3 (some .boolean) 0 w [.int (iI x), .int (iI a), .int (iI b)] F (QI w (fun z F' => (z = 1 ∧ (a ≤ x ∧ x ≤ b) ∨ z = 0 ∧ ¬ (a ≤ x ∧ x ≤ b)) ∧ F = F')) := by
  refine Con.mk (lv := [(0, .int (iI x)), (1, .int (iI a)), (2, .int (iI b))]) (by decide) (Nat.le_of_ble_eq_true rfl) rfl ?_
  intro pg ev s0 mi be me co C hz
  refine q_iload_n C 0 dX4_in_0 rfl ?_
  refine q_iload_n C 1 dX4_in_1 rfl ?_
  refine q_icmp_lt C 14 dX4_in_2 ⟨by omega, by omega⟩ ⟨by omega, by omega⟩ (by decide) (fun h2 => ?_) (fun h2 => ?_)
  · refine q_iconst C 0 dX4_in_14 ?_
    refine q_zret C dX4_in_15 (by decide) ?_
    exact ⟨by omega, rfl⟩
  · refine q_iload_n C 0 dX4_in_5 rfl ?_
    refine q_iload_n C 2 dX4_in_6 rfl ?_
    refine q_icmp_gt C 14 dX4_in_7 ⟨by omega, by omega⟩ ⟨by omega, by omega⟩ (by decide) (fun h7 => ?_) (fun h7 => ?_)
    · refine q_iconst C 0 dX4_in_14 ?_
      refine q_zret C dX4_in_15 (by decide) ?_
      exact ⟨by omega, rfl⟩
    · refine q_iconst C 1 dX4_in_10 ?_
      refine q_goto C 15 dX4_in_11 (by decide) ?_
      refine q_zret C dX4_in_15 (by decide) ?_
      exact ⟨by omega, rfl⟩

set_option maxRecDepth 100000 in
set_option maxHeartbeats 4000000 in
theorem k_X4_isWord (l : Launch) {w : WP} {F : FF} {x : Int} (hx : inR x) : Con l yX4_isWord cX4_isWord 1 (some .boolean) 1 w [.int (iI x)] F (QI w (fun z F' => (z = 1 ∧ (0 ≤ x ∧ x < 40) ∨ z = 0 ∧ ¬ (0 ≤ x ∧ x < 40)) ∧ F = F')) := by
  refine Con.mk (lv := [(0, .int (iI x))]) (by decide) (Nat.le_of_ble_eq_true rfl) rfl ?_
  intro pg ev s0 mi be me co C hz
  refine q_iload_n C 0 dX4_isWord_0 rfl ?_
  refine q_iconst C 0 dX4_isWord_1 ?_
  refine q_bipush C 39 dX4_isWord_2 (by decide) ?_
  refine q_cI (q_runS (As := [.int (iI x), .int (iI 0), .int (iI 39)]) (rest := []) C (k_X4_in l (x := x) (a := 0) (b := 39) ⟨by omega, by omega⟩ ⟨by omega, by omega⟩ ⟨by omega, by omega⟩) wd_930 wd_929 wd_81 wd_928 nd_X4_in rfl (by decide) ⟨Nat.zero_le _, Nat.zero_le _⟩ rfl (Nat.le_of_ble_eq_true rfl) dX4_isWord_4) ?_
  rintro z F' ⟨⟨rfl, hq4⟩ | ⟨rfl, hq4⟩, rfl⟩
  · refine q_zret C dX4_isWord_7 (by decide) ?_
    exact ⟨by omega, rfl⟩
  · refine q_zret C dX4_isWord_7 (by decide) ?_
    exact ⟨by omega, rfl⟩

set_option maxRecDepth 100000 in
set_option maxHeartbeats 4000000 in
theorem k_X4_isDoor (l : Launch) {w : WP} {F : FF} {x : Int} (hx : inR x) : Con l yX4_isDoor cX4_isDoor 1 (some .boolean) 1 w [.int (iI x)] F (QI w (fun z F' => (z = 1 ∧ (0 ≤ x ∧ x < 4) ∨ z = 0 ∧ ¬ (0 ≤ x ∧ x < 4)) ∧ F = F')) := by
  refine Con.mk (lv := [(0, .int (iI x))]) (by decide) (Nat.le_of_ble_eq_true rfl) rfl ?_
  intro pg ev s0 mi be me co C hz
  refine q_iload_n C 0 dX4_isDoor_0 rfl ?_
  refine q_iconst C 0 dX4_isDoor_1 ?_
  refine q_iconst C 3 dX4_isDoor_2 ?_
  refine q_cI (q_runS (As := [.int (iI x), .int (iI 0), .int (iI 3)]) (rest := []) C (k_X4_in l (x := x) (a := 0) (b := 3) ⟨by omega, by omega⟩ ⟨by omega, by omega⟩ ⟨by omega, by omega⟩) wd_930 wd_929 wd_81 wd_928 nd_X4_in rfl (by decide) ⟨Nat.zero_le _, Nat.zero_le _⟩ rfl (Nat.le_of_ble_eq_true rfl) dX4_isDoor_3) ?_
  rintro z F' ⟨⟨rfl, hq3⟩ | ⟨rfl, hq3⟩, rfl⟩
  · refine q_zret C dX4_isDoor_6 (by decide) ?_
    exact ⟨by omega, rfl⟩
  · refine q_zret C dX4_isDoor_6 (by decide) ?_
    exact ⟨by omega, rfl⟩

set_option maxRecDepth 100000 in
set_option maxHeartbeats 4000000 in
theorem k_X4_isLine (l : Launch) {w : WP} {F : FF} {x y : Int} (hx : inR x) (hy : inR y) : Con l yX4_isLine cX4_isLine 2 (some .boolean) 2 w [.int (iI x), .int (iI y)] F (QI w (fun z F' => (z = 1 ∧ (0 ≤ x ∧ x < 4 ∧ 0 ≤ y ∧ y < 4) ∨ z = 0 ∧ ¬ (0 ≤ x ∧ x < 4 ∧ 0 ≤ y ∧ y < 4)) ∧ F = F')) := by
  refine Con.mk (lv := [(0, .int (iI x)), (1, .int (iI y))]) (by decide) (Nat.le_of_ble_eq_true rfl) rfl ?_
  intro pg ev s0 mi be me co C hz
  refine q_iload_n C 0 dX4_isLine_0 rfl ?_
  refine q_cI (q_runS (As := [.int (iI x)]) (rest := []) C (k_X4_isDoor l (x := x) ⟨by omega, by omega⟩) wd_936 wd_935 wd_81 wd_934 nd_X4_isDoor rfl (by decide) ⟨Nat.zero_le _, Nat.zero_le _⟩ rfl (Nat.le_of_ble_eq_true rfl) dX4_isLine_1) ?_
  rintro z F' ⟨⟨rfl, hq1⟩ | ⟨rfl, hq1⟩, rfl⟩
  · refine q_if_eq C 20 dX4_isLine_4 ⟨by decide, by decide⟩  (by decide) (fun h => absurd h (by decide)) (fun _ => ?_)
    refine q_iload_n C 1 dX4_isLine_7 rfl ?_
    refine q_iconst C 0 dX4_isLine_8 ?_
    refine q_iconst C 3 dX4_isLine_9 ?_
    refine q_cI (q_runS (As := [.int (iI y), .int (iI 0), .int (iI 3)]) (rest := []) C (k_X4_in l (x := y) (a := 0) (b := 3) ⟨by omega, by omega⟩ ⟨by omega, by omega⟩ ⟨by omega, by omega⟩) wd_930 wd_929 wd_81 wd_928 nd_X4_in rfl (by decide) ⟨Nat.zero_le _, Nat.zero_le _⟩ rfl (Nat.le_of_ble_eq_true rfl) dX4_isLine_10) ?_
    rintro z F' ⟨⟨rfl, hq10⟩ | ⟨rfl, hq10⟩, rfl⟩
    · refine q_if_eq C 20 dX4_isLine_13 ⟨by decide, by decide⟩  (by decide) (fun h => absurd h (by decide)) (fun _ => ?_)
      refine q_iconst C 1 dX4_isLine_16 ?_
      refine q_goto C 21 dX4_isLine_17 (by decide) ?_
      refine q_zret C dX4_isLine_21 (by decide) ?_
      exact ⟨by omega, rfl⟩
    · refine q_if_eq C 20 dX4_isLine_13 ⟨by decide, by decide⟩  (by decide) (fun _ => ?_) (fun h => absurd h (by decide))
      refine q_iconst C 0 dX4_isLine_20 ?_
      refine q_zret C dX4_isLine_21 (by decide) ?_
      exact ⟨by omega, rfl⟩
  · refine q_if_eq C 20 dX4_isLine_4 ⟨by decide, by decide⟩  (by decide) (fun _ => ?_) (fun h => absurd h (by decide))
    refine q_iconst C 0 dX4_isLine_20 ?_
    refine q_zret C dX4_isLine_21 (by decide) ?_
    exact ⟨by omega, rfl⟩

set_option maxRecDepth 100000 in
set_option maxHeartbeats 4000000 in
theorem k_X4_kindOf (l : Launch) {w : WP} {F : FF} {x : Int} (hx : 0 ≤ x ∧ x ≤ 1000000) : Con l yX4_kindOf cX4_kindOf 1 (some .int) 0 w [.int (iI x)] F (QI w (fun z F' => z = kn x ∧ F = F')) := by
  refine Con.mk (lv := [(0, .int (iI x))]) (by decide) (Nat.le_of_ble_eq_true rfl) rfl ?_
  intro pg ev s0 mi be me co C hz
  refine q_iload_n C 0 dX4_kindOf_0 rfl ?_
  refine q_iconst C 4 dX4_kindOf_1 ?_
  refine q_irem C dX4_kindOf_2 ⟨by omega, by omega⟩ ⟨by decide, by decide⟩ ?_
  refine q_iret C dX4_kindOf_3 ?_
  exact ⟨rfl, rfl⟩

set_option maxRecDepth 100000 in
set_option maxHeartbeats 4000000 in
theorem k_X4_endingOf (l : Launch) {w : WP} {F : FF} {x : Int} (hx : 0 ≤ x ∧ x ≤ 1000000) : Con l yX4_endingOf cX4_endingOf 1 (some .int) 0 w [.int (iI x)] F (QI w (fun z F' => z = en x ∧ F = F')) := by
  refine Con.mk (lv := [(0, .int (iI x))]) (by decide) (Nat.le_of_ble_eq_true rfl) rfl ?_
  intro pg ev s0 mi be me co C hz
  refine q_iload_n C 0 dX4_endingOf_0 rfl ?_
  refine q_iconst C 4 dX4_endingOf_1 ?_
  refine q_idiv C dX4_endingOf_2 ⟨by omega, by omega⟩ ⟨by decide, by decide⟩ ?_
  refine q_iconst C 5 dX4_endingOf_3 ?_
  refine q_irem C dX4_endingOf_4 ⟨by omega, by omega⟩ ⟨by decide, by decide⟩ ?_
  refine q_iret C dX4_endingOf_5 ?_
  exact ⟨rfl, rfl⟩

set_option maxRecDepth 100000 in
set_option maxHeartbeats 4000000 in
theorem k_X4_beatsOf (l : Launch) {w : WP} {F : FF} {x : Int} (hx : 0 ≤ x ∧ x ≤ 1000000) : Con l yX4_beatsOf cX4_beatsOf 1 (some .int) 0 w [.int (iI x)] F (QI w (fun z F' => z = bt x ∧ F = F')) := by
  refine Con.mk (lv := [(0, .int (iI x))]) (by decide) (Nat.le_of_ble_eq_true rfl) rfl ?_
  intro pg ev s0 mi be me co C hz
  refine q_iload_n C 0 dX4_beatsOf_0 rfl ?_
  refine q_iconst C 3 dX4_beatsOf_1 ?_
  refine q_irem C dX4_beatsOf_2 ⟨by omega, by omega⟩ ⟨by decide, by decide⟩ ?_
  refine q_iconst C 1 dX4_beatsOf_3 ?_
  refine q_iadd C dX4_beatsOf_4 ?_
  refine q_iret C dX4_beatsOf_5 ?_
  exact ⟨rfl, rfl⟩

set_option maxRecDepth 100000 in
set_option maxHeartbeats 4000000 in
theorem k_X4_clash (l : Launch) {w : WP} {F : FF} {x y : Int} (hx : 0 ≤ x ∧ x ≤ 1000000) (hy : 0 ≤ y ∧ y ≤ 1000000) : Con l yX4_clash cX4_clash 2 (some .boolean) 1 w [.int (iI x), .int (iI y)] F (QI w (fun z F' => (z = 1 ∧ cls x y ∨ z = 0 ∧ ¬ cls x y) ∧ F = F')) := by
  refine Con.mk (lv := [(0, .int (iI x)), (1, .int (iI y))]) (by decide) (Nat.le_of_ble_eq_true rfl) rfl ?_
  intro pg ev s0 mi be me co C hz
  refine q_iload_n C 0 dX4_clash_0 rfl ?_
  refine q_cI (q_runS (As := [.int (iI x)]) (rest := []) C (k_X4_kindOf l (by omega)) wd_973 wd_972 wd_81 wd_971 nd_X4_kindOf rfl (by decide) ⟨Nat.zero_le _, Nat.zero_le _⟩ rfl (Nat.le_of_ble_eq_true rfl) dX4_clash_1) ?_
  rintro z F' ⟨rfl, rfl⟩
  have q1 := kn_pos (x := x) (by omega)
  refine q_iload_n C 1 dX4_clash_4 rfl ?_
  refine q_cI (q_runS (As := [.int (iI y)]) (rest := [.int (iI (kn x))]) C (k_X4_kindOf l (by omega)) wd_973 wd_972 wd_81 wd_971 nd_X4_kindOf rfl (by decide) ⟨Nat.zero_le _, Nat.zero_le _⟩ rfl (Nat.le_of_ble_eq_true rfl) dX4_clash_5) ?_
  rintro z F' ⟨rfl, rfl⟩
  have q5 := kn_pos (x := y) (by omega)
  refine q_icmp_ne C 23 dX4_clash_8 ⟨by omega, by omega⟩ ⟨by omega, by omega⟩ (by decide) (fun h8 => ?_) (fun h8 => ?_)
  · refine q_iconst C 0 dX4_clash_23 ?_
    refine q_zret C dX4_clash_24 (by decide) ?_
    exact ⟨by unfold cls; omega, rfl⟩
  · refine q_iload_n C 0 dX4_clash_11 rfl ?_
    refine q_cI (q_runS (As := [.int (iI x)]) (rest := []) C (k_X4_kindOf l (by omega)) wd_973 wd_972 wd_81 wd_971 nd_X4_kindOf rfl (by decide) ⟨Nat.zero_le _, Nat.zero_le _⟩ rfl (Nat.le_of_ble_eq_true rfl) dX4_clash_12) ?_
    rintro z F' ⟨rfl, rfl⟩
    have q12 := kn_pos (x := x) (by omega)
    refine q_iconst C 2 dX4_clash_15 ?_
    refine q_icmp_eq C 23 dX4_clash_16 ⟨by omega, by omega⟩ ⟨by decide, by decide⟩ (by decide) (fun h16 => ?_) (fun h16 => ?_)
    · refine q_iconst C 0 dX4_clash_23 ?_
      refine q_zret C dX4_clash_24 (by decide) ?_
      exact ⟨by unfold cls; omega, rfl⟩
    · refine q_iconst C 1 dX4_clash_19 ?_
      refine q_goto C 24 dX4_clash_20 (by decide) ?_
      refine q_zret C dX4_clash_24 (by decide) ?_
      exact ⟨by unfold cls; omega, rfl⟩

set_option maxRecDepth 100000 in
set_option maxHeartbeats 4000000 in
theorem k_X4_wordAt (l : Launch) {w : WP} {F : FF} {r : Rw} {x p : Int} (hr : F 111 = r) (hl : 0 ≤ x ∧ x < 16) (hp : 0 ≤ p ∧ p < 6) : Con l yX4_wordAt cX4_wordAt 3 (some .int) 0 w [.ref (adr w 110), .int (iI x), .int (iI p)] F (QI w (fun z F' => z = wa r x p ∧ F = F')) := by
  refine Con.mk (lv := [(0, .ref (adr w 110)), (1, .int (iI x)), (2, .int (iI p))]) (by decide) (Nat.le_of_ble_eq_true rfl) rfl ?_
  intro pg ev s0 mi be me co C hz
  refine q_aload_n C 0 dX4_wordAt_0 rfl ?_
  refine q_get (T := TX4) (i := 0) C kd110 (by decide) rfl uws4 (by decide) wd_865 rfl dX4_wordAt_1 ?_
  refine q_bipush C 16 dX4_wordAt_4 (by decide) ?_
  refine q_bipush C 6 dX4_wordAt_6 (by decide) ?_
  refine q_iload_n C 1 dX4_wordAt_8 rfl ?_
  refine q_imul C dX4_wordAt_9 ?_
  refine q_iadd C dX4_wordAt_10 ?_
  refine q_iload_n C 2 dX4_wordAt_11 rfl ?_
  refine q_iadd C dX4_wordAt_12 ?_
  refine q_iald C kd111 ⟨by omega, by rw [ln111]; omega⟩ dX4_wordAt_13 ?_
  refine q_top (z' := r ((16 + (6 * x)) + p)) (by rw [hr]) ?_
  refine q_iret C dX4_wordAt_14 ?_
  exact ⟨rfl, rfl⟩

set_option maxRecDepth 100000 in
set_option maxHeartbeats 4000000 in
theorem k_X4_lastOf (l : Launch) {w : WP} {F : FF} {r : Rw} {x : Int} (hr : F 111 = r) (hl : 0 ≤ x ∧ x < 16) (hs : 0 ≤ r x ∧ r x ≤ 6) : Con l yX4_lastOf cX4_lastOf 2 (some .int) 1 w [.ref (adr w 110), .int (iI x)] F (QI w (fun z F' => z = la r x ∧ F = F')) := by
  refine Con.mk (lv := [(0, .ref (adr w 110)), (1, .int (iI x))]) (by decide) (Nat.le_of_ble_eq_true rfl) rfl ?_
  intro pg ev s0 mi be me co C hz
  refine q_aload_n C 0 dX4_lastOf_0 rfl ?_
  refine q_get (T := TX4) (i := 0) C kd110 (by decide) rfl uws4 (by decide) wd_865 rfl dX4_lastOf_1 ?_
  refine q_iconst C 0 dX4_lastOf_4 ?_
  refine q_iload_n C 1 dX4_lastOf_5 rfl ?_
  refine q_iadd C dX4_lastOf_6 ?_
  refine q_iald C kd111 ⟨by omega, by rw [ln111]; omega⟩ dX4_lastOf_7 ?_
  refine q_top (z' := r x) (by rw [hr, Int.zero_add]) ?_
  refine q_if_ne C 15 dX4_lastOf_8 ⟨by omega, by omega⟩  (by decide) (fun h8 => ?_) (fun h8 => ?_)
  · refine q_aload_n C 0 dX4_lastOf_15 rfl ?_
    refine q_iload_n C 1 dX4_lastOf_16 rfl ?_
    refine q_aload_n C 0 dX4_lastOf_17 rfl ?_
    refine q_get (T := TX4) (i := 0) C kd110 (by decide) rfl uws4 (by decide) wd_865 rfl dX4_lastOf_18 ?_
    refine q_iconst C 0 dX4_lastOf_21 ?_
    refine q_iload_n C 1 dX4_lastOf_22 rfl ?_
    refine q_iadd C dX4_lastOf_23 ?_
    refine q_iald C kd111 ⟨by omega, by rw [ln111]; omega⟩ dX4_lastOf_24 ?_
    refine q_top (z' := r x) (by rw [hr, Int.zero_add]) ?_
    refine q_iconst C 1 dX4_lastOf_25 ?_
    refine q_isub C dX4_lastOf_26 ?_
    refine q_cI (q_runV (As := [.int (iI x), .int (iI ((r x) - 1))]) (rest := []) C (k_X4_wordAt l hr (x := x) (p := (r x) - 1) ⟨by omega, by omega⟩ ⟨by omega, by omega⟩) kd110 (by decide) rfl wd_948 wd_947 wd_25 wd_81 wd_945 nd_X4_wordAt rfl (by decide) ⟨Nat.zero_le _, Nat.zero_le _⟩ rfl (Nat.le_of_ble_eq_true rfl) dX4_lastOf_27) ?_
    rintro z F' ⟨rfl, rfl⟩
    refine q_iret C dX4_lastOf_30 ?_
    exact ⟨by unfold la; first | rw [if_pos (by omega)] | rw [if_neg (by omega)], rfl⟩
  · refine q_iconst C (-1) dX4_lastOf_11 ?_
    refine q_goto C 30 dX4_lastOf_12 (by decide) ?_
    refine q_iret C dX4_lastOf_30 ?_
    exact ⟨by unfold la; first | rw [if_pos (by omega)] | rw [if_neg (by omega)], rfl⟩

set_option maxRecDepth 100000 in
set_option maxHeartbeats 4000000 in
theorem k_X4_lineOfWord (l : Launch) {w : WP} {F : FF} {r : Rw} {x : Int} (hr : F 111 = r) (hI : Iv r) (hx : 0 ≤ x ∧ x < 40) : Con l yX4_lineOfWord cX4_lineOfWord 4 (some .int) 1 w [.ref (adr w 110), .int (iI x)] F (QI w (fun z F' => z = home r x ∧ F = F')) := by
  refine Con.mk (lv := [(0, .ref (adr w 110)), (1, .int (iI x))]) (by decide) (Nat.le_of_ble_eq_true rfl) rfl ?_
  intro pg ev s0 mi be me co C hz
  refine q_iconst C 0 dX4_lineOfWord_0 ?_
  refine q_istore_n (lv' := [(2, .int (iI 0)), (0, .ref (adr w 110)), (1, .int (iI x))]) C dX4_lineOfWord_1 (by decide) rfl ?_
  refine q_lv (lv' := [(0, .ref (adr w 110)), (1, .int (iI x)), (2, .int (iI 0))]) [1, 2, 0] rfl ?_
  refine wf1 (P := fun (i : Int) => Wq pg l ev _ s0 mi _ be me co _ w _ _ _ 2 [(0, .ref (adr w 110)), (1, .int (iI x)), (2, .int (iI i))] [] F) (I := fun (i : Int) => 0 ≤ i ∧ i ≤ 16 ∧ ∀ y p, 0 ≤ y → y < i → 0 ≤ p → p < r y → wa r y p ≠ x) (μ := fun (i : Int) => (16 - i).toNat) ?_ 0 (⟨by omega, by omega, fun y p a c => by omega⟩)
  intro i hI' ih2
  (try dsimp only at hI'); (try dsimp only at ih2); (try dsimp only)
  obtain ⟨hi0, hi1, hi⟩ := hI'
  refine q_iload_n C 2 dX4_lineOfWord_2 rfl ?_
  refine q_bipush C 16 dX4_lineOfWord_3 (by decide) ?_
  refine q_icmp_ge C 46 dX4_lineOfWord_5 ⟨by omega, by omega⟩ ⟨by decide, by decide⟩ (by decide) (fun h5 => ?_) (fun h5 => ?_)
  · refine q_iconst C (-1) dX4_lineOfWord_46 ?_
    refine q_iret C dX4_lineOfWord_47 ?_
    exact ⟨(home_none hI (fun y p a c e f => hi y p a (by omega) e f)).symm, rfl⟩
  · refine q_iconst C 0 dX4_lineOfWord_8 ?_
    refine q_istore_n (lv' := [(3, .int (iI 0)), (0, .ref (adr w 110)), (1, .int (iI x)), (2, .int (iI i))]) C dX4_lineOfWord_9 (by decide) rfl ?_
    refine q_lv (lv' := [(0, .ref (adr w 110)), (1, .int (iI x)), (2, .int (iI i)), (3, .int (iI 0))]) [1, 2, 3, 0] rfl ?_
    refine wf1 (P := fun (p : Int) => Wq pg l ev _ s0 mi _ be me co _ w _ _ _ 10 [(0, .ref (adr w 110)), (1, .int (iI x)), (2, .int (iI i)), (3, .int (iI p))] [] F) (I := fun (p : Int) => 0 ≤ p ∧ p ≤ 6 ∧ ∀ q, 0 ≤ q → q < p → wa r i q ≠ x) (μ := fun (p : Int) => (6 - p).toNat) ?_ 0 (⟨by omega, by omega, fun q a c => by omega⟩)
    intro p hI' ih10
    (try dsimp only at hI'); (try dsimp only at ih10); (try dsimp only)
    obtain ⟨hp0, hp1, hp⟩ := hI'
    refine q_iload_n C 3 dX4_lineOfWord_10 rfl ?_
    refine q_aload_n C 0 dX4_lineOfWord_11 rfl ?_
    refine q_get (T := TX4) (i := 0) C kd110 (by decide) rfl uws4 (by decide) wd_865 rfl dX4_lineOfWord_12 ?_
    refine q_iconst C 0 dX4_lineOfWord_15 ?_
    refine q_iload_n C 2 dX4_lineOfWord_16 rfl ?_
    refine q_iadd C dX4_lineOfWord_17 ?_
    refine q_iald C kd111 ⟨by omega, by rw [ln111]; omega⟩ dX4_lineOfWord_18 ?_
    refine q_top (z' := r i) (by rw [hr, Int.zero_add]) ?_
    have q_0 := hI.sz (l := i) (by omega) (by omega)
    refine q_icmp_ge C 40 dX4_lineOfWord_19 ⟨by omega, by omega⟩ ⟨by omega, by omega⟩ (by decide) (fun h19 => ?_) (fun h19 => ?_)
    · refine q_iinc (lv' := [(2, .int (iI (i + 1))), (0, .ref (adr w 110)), (1, .int (iI x)), (3, .int (iI p))]) C 2 dX4_lineOfWord_40 rfl (by decide) rfl ?_
      refine q_goto C 2 dX4_lineOfWord_43 (by decide) ?_
      refine q_lv (lv' := [(0, .ref (adr w 110)), (1, .int (iI x)), (2, .int (iI (i + 1)))]) [1, 2, 0] rfl ?_
      exact ih2 (i + 1) (⟨by omega, by omega, fun y p a c e f => by rcases (show y < i ∨ y = i by omega) with g | g; exact hi y p a g e f; subst g; exact hp p e (by omega)⟩) (by omega)
    · refine q_aload_n C 0 dX4_lineOfWord_22 rfl ?_
      refine q_iload_n C 2 dX4_lineOfWord_23 rfl ?_
      refine q_iload_n C 3 dX4_lineOfWord_24 rfl ?_
      refine q_cI (q_runV (As := [.int (iI i), .int (iI p)]) (rest := []) C (k_X4_wordAt l hr (x := i) (p := p) ⟨by omega, by omega⟩ ⟨by omega, by omega⟩) kd110 (by decide) rfl wd_948 wd_947 wd_25 wd_81 wd_945 nd_X4_wordAt rfl (by decide) ⟨Nat.zero_le _, Nat.zero_le _⟩ rfl (Nat.le_of_ble_eq_true rfl) dX4_lineOfWord_25) ?_
      rintro z F' ⟨rfl, rfl⟩
      have q25 := hI.wd (l := i) (p := p) (by omega) (by omega) (by omega) (by omega)
      refine q_iload_n C 1 dX4_lineOfWord_28 rfl ?_
      refine q_icmp_ne C 34 dX4_lineOfWord_29 ⟨by omega, by omega⟩ ⟨by omega, by omega⟩ (by decide) (fun h29 => ?_) (fun h29 => ?_)
      · refine q_iinc (lv' := [(3, .int (iI (p + 1))), (0, .ref (adr w 110)), (1, .int (iI x)), (2, .int (iI i))]) C 3 dX4_lineOfWord_34 rfl (by decide) rfl ?_
        refine q_goto C 10 dX4_lineOfWord_37 (by decide) ?_
        refine q_lv (lv' := [(0, .ref (adr w 110)), (1, .int (iI x)), (2, .int (iI i)), (3, .int (iI (p + 1)))]) [1, 2, 3, 0] rfl ?_
        exact ih10 (p + 1) (⟨by omega, by omega, fun q a c => by rcases (show q < p ∨ q = p by omega) with g | g; exact hp q a g; subst g; assumption⟩) (by omega)
      · refine q_iload_n C 2 dX4_lineOfWord_32 rfl ?_
        refine q_iret C dX4_lineOfWord_33 ?_
        exact ⟨(home_is hI hi0 (by omega) hp0 (by omega) (by assumption)).symm, rfl⟩

set_option maxRecDepth 100000 in
set_option maxHeartbeats 4000000 in
theorem k_X4_placeOfWord (l : Launch) {w : WP} {F : FF} {r : Rw} {x : Int} (hr : F 111 = r) (hI : Iv r) (hx : 0 ≤ x ∧ x < 40) : Con l yX4_placeOfWord cX4_placeOfWord 4 (some .int) 2 w [.ref (adr w 110), .int (iI x)] F (QI w (fun z F' => z = plc r x ∧ F = F')) := by
  refine Con.mk (lv := [(0, .ref (adr w 110)), (1, .int (iI x))]) (by decide) (Nat.le_of_ble_eq_true rfl) rfl ?_
  intro pg ev s0 mi be me co C hz
  have hpr := plc_range hI (x := x)
  have hh := home_range r x
  refine q_aload_n C 0 dX4_placeOfWord_0 rfl ?_
  refine q_iload_n C 1 dX4_placeOfWord_1 rfl ?_
  refine q_cI (q_runV (As := [.int (iI x)]) (rest := []) C (k_X4_lineOfWord l hr hI (x := x) ⟨by omega, by omega⟩) kd110 (by decide) rfl wd_944 wd_943 wd_24 wd_81 wd_941 nd_X4_lineOfWord rfl (by decide) ⟨Nat.zero_le _, Nat.zero_le _⟩ rfl (Nat.le_of_ble_eq_true rfl) dX4_placeOfWord_2) ?_
  rintro z F' ⟨rfl, rfl⟩
  have q2 := home_range r x
  refine q_istore_n (lv' := [(2, .int (iI (home r x))), (0, .ref (adr w 110)), (1, .int (iI x))]) C dX4_placeOfWord_5 (by decide) rfl ?_
  refine q_iconst C 0 dX4_placeOfWord_6 ?_
  refine q_istore_n (lv' := [(3, .int (iI 0)), (2, .int (iI (home r x))), (0, .ref (adr w 110)), (1, .int (iI x))]) C dX4_placeOfWord_7 (by decide) rfl ?_
  refine q_lv (lv' := [(0, .ref (adr w 110)), (1, .int (iI x)), (2, .int (iI (home r x))), (3, .int (iI 0))]) [2, 3, 1, 0] rfl ?_
  refine wf1 (P := fun (p : Int) => Wq pg l ev _ s0 mi _ be me co _ w _ _ _ 8 [(0, .ref (adr w 110)), (1, .int (iI x)), (2, .int (iI (home r x))), (3, .int (iI p))] [] F) (I := fun (p : Int) => 0 ≤ p ∧ (home r x ≠ -1 → p ≤ plc r x)) (μ := fun (p : Int) => (6 - p).toNat) ?_ 0 (⟨by omega, fun h => (home_at hI h).2.2.1⟩)
  intro p hI' ih8
  (try dsimp only at hI'); (try dsimp only at ih8); (try dsimp only)
  obtain ⟨hp0, hp1⟩ := hI'
  refine q_iload_n C 2 dX4_placeOfWord_8 rfl ?_
  refine q_iconst C (-1) dX4_placeOfWord_9 ?_
  refine q_icmp_eq C 29 dX4_placeOfWord_10 ⟨by omega, by omega⟩ ⟨by decide, by decide⟩ (by decide) (fun h10 => ?_) (fun h10 => ?_)
  · refine q_iload_n C 2 dX4_placeOfWord_29 rfl ?_
    refine q_iconst C (-1) dX4_placeOfWord_30 ?_
    refine q_icmp_ne C 38 dX4_placeOfWord_31 ⟨by omega, by omega⟩ ⟨by decide, by decide⟩ (by decide) (fun h31 => ?_) (fun h31 => ?_)
    · refine q_iload_n C 3 dX4_placeOfWord_38 rfl ?_
      refine q_iret C dX4_placeOfWord_39 ?_
      first | (exfalso; omega) | exact ⟨(if_pos (by assumption)).symm, rfl⟩ | exact ⟨plc_eq hI (by omega) hp0 (hp1 (by omega)) (by assumption), rfl⟩
    · refine q_iconst C (-1) dX4_placeOfWord_34 ?_
      refine q_goto C 39 dX4_placeOfWord_35 (by decide) ?_
      refine q_iret C dX4_placeOfWord_39 ?_
      first | (exfalso; omega) | exact ⟨(if_pos (by assumption)).symm, rfl⟩ | exact ⟨plc_eq hI (by omega) hp0 (hp1 (by omega)) (by assumption), rfl⟩
  · have hpl := hp1 (by omega)
    have hha := home_at hI (x := x) (by omega)
    have hwd := hI.wd (l := home r x) (p := p) (by omega) (by omega) (by omega) (by omega)
    refine q_aload_n C 0 dX4_placeOfWord_13 rfl ?_
    refine q_iload_n C 2 dX4_placeOfWord_14 rfl ?_
    refine q_iload_n C 3 dX4_placeOfWord_15 rfl ?_
    refine q_cI (q_runV (As := [.int (iI (home r x)), .int (iI p)]) (rest := []) C (k_X4_wordAt l hr (x := home r x) (p := p) ⟨by omega, by omega⟩ ⟨by omega, by omega⟩) kd110 (by decide) rfl wd_948 wd_947 wd_25 wd_81 wd_945 nd_X4_wordAt rfl (by decide) ⟨Nat.zero_le _, Nat.zero_le _⟩ rfl (Nat.le_of_ble_eq_true rfl) dX4_placeOfWord_16) ?_
    rintro z F' ⟨rfl, rfl⟩
    refine q_iload_n C 1 dX4_placeOfWord_19 rfl ?_
    refine q_icmp_eq C 29 dX4_placeOfWord_20 ⟨by omega, by omega⟩ ⟨by omega, by omega⟩ (by decide) (fun h20 => ?_) (fun h20 => ?_)
    · refine q_iload_n C 2 dX4_placeOfWord_29 rfl ?_
      refine q_iconst C (-1) dX4_placeOfWord_30 ?_
      refine q_icmp_ne C 38 dX4_placeOfWord_31 ⟨by omega, by omega⟩ ⟨by decide, by decide⟩ (by decide) (fun h31 => ?_) (fun h31 => ?_)
      · refine q_iload_n C 3 dX4_placeOfWord_38 rfl ?_
        refine q_iret C dX4_placeOfWord_39 ?_
        first | (exfalso; omega) | exact ⟨(if_pos (by assumption)).symm, rfl⟩ | exact ⟨plc_eq hI (by omega) hp0 (hp1 (by omega)) (by assumption), rfl⟩
      · refine q_iconst C (-1) dX4_placeOfWord_34 ?_
        refine q_goto C 39 dX4_placeOfWord_35 (by decide) ?_
        refine q_iret C dX4_placeOfWord_39 ?_
        first | (exfalso; omega) | exact ⟨(if_pos (by assumption)).symm, rfl⟩ | exact ⟨plc_eq hI (by omega) hp0 (hp1 (by omega)) (by assumption), rfl⟩
    · refine q_iinc (lv' := [(3, .int (iI (p + 1))), (0, .ref (adr w 110)), (1, .int (iI x)), (2, .int (iI (home r x)))]) C 3 dX4_placeOfWord_23 rfl (by decide) rfl ?_
      refine q_goto C 8 dX4_placeOfWord_26 (by decide) ?_
      refine q_lv (lv' := [(0, .ref (adr w 110)), (1, .int (iI x)), (2, .int (iI (home r x))), (3, .int (iI (p + 1)))]) [1, 2, 3, 0] rfl ?_
      exact ih8 (p + 1) (⟨by omega, fun h => by have h2 := hp1 h; have h3 := (home_at hI h).2.2.2.2; rcases (show p = plc r x ∨ p + 1 ≤ plc r x by omega) with g | g; rw [← g] at h3; exact absurd h3 (by assumption); exact g⟩) (by omega)

set_option maxRecDepth 100000 in
set_option maxHeartbeats 4000000 in
theorem k_X4_inBag (l : Launch) {w : WP} {F : FF} {r : Rw} (hr : F 111 = r) (hI : Iv r)  : Con l yX4_inBag cX4_inBag 3 (some .int) 0 w [.ref (adr w 110)] F (QI w (fun z F' => z = bg r ∧ F = F')) := by
  refine Con.mk (lv := [(0, .ref (adr w 110))]) (by decide) (Nat.le_of_ble_eq_true rfl) rfl ?_
  intro pg ev s0 mi be me co C hz
  refine q_bipush C 40 dX4_inBag_0 (by decide) ?_
  refine q_istore_n (lv' := [(1, .int (iI 40)), (0, .ref (adr w 110))]) C dX4_inBag_2 (by decide) rfl ?_
  refine q_iconst C 0 dX4_inBag_3 ?_
  refine q_istore_n (lv' := [(2, .int (iI 0)), (1, .int (iI 40)), (0, .ref (adr w 110))]) C dX4_inBag_4 (by decide) rfl ?_
  refine q_lv (lv' := [(0, .ref (adr w 110)), (1, .int (iI 40)), (2, .int (iI 0))]) [2, 1, 0] rfl ?_
  refine wf2 (P := fun (i : Int) (n : Int) => Wq pg l ev _ s0 mi _ be me co _ w _ _ _ 5 [(0, .ref (adr w 110)), (1, .int (iI n)), (2, .int (iI i))] [] F) (I := fun (i : Int) (n : Int) => 0 ≤ i ∧ i ≤ 16 ∧ n = 40 - sm (fun x => r x) i) (μ := fun (i : Int) (n : Int) => (16 - i).toNat) ?_ 0 40 (⟨by omega, by omega, rfl⟩)
  intro i n hI' ih5
  (try dsimp only at hI'); (try dsimp only at ih5); (try dsimp only)
  obtain ⟨hi0, hi1, hi2⟩ := hI'
  refine q_iload_n C 2 dX4_inBag_5 rfl ?_
  refine q_bipush C 16 dX4_inBag_6 (by decide) ?_
  refine q_icmp_ge C 28 dX4_inBag_8 ⟨by omega, by omega⟩ ⟨by decide, by decide⟩ (by decide) (fun h8 => ?_) (fun h8 => ?_)
  · refine q_iload_n C 1 dX4_inBag_28 rfl ?_
    refine q_iret C dX4_inBag_29 ?_
    exact ⟨by rw [hi2, show i = 16 by omega]; rfl, rfl⟩
  · refine q_iload_n C 1 dX4_inBag_11 rfl ?_
    refine q_aload_n C 0 dX4_inBag_12 rfl ?_
    refine q_get (T := TX4) (i := 0) C kd110 (by decide) rfl uws4 (by decide) wd_865 rfl dX4_inBag_13 ?_
    refine q_iconst C 0 dX4_inBag_16 ?_
    refine q_iload_n C 2 dX4_inBag_17 rfl ?_
    refine q_iadd C dX4_inBag_18 ?_
    refine q_iald C kd111 ⟨by omega, by rw [ln111]; omega⟩ dX4_inBag_19 ?_
    refine q_top (z' := r i) (by rw [hr, Int.zero_add]) ?_
    have q_0 := hI.sz (l := i) (by omega) (by omega)
    refine q_isub C dX4_inBag_20 ?_
    refine q_istore_n (lv' := [(1, .int (iI (n - (r i)))), (0, .ref (adr w 110)), (2, .int (iI i))]) C dX4_inBag_21 (by decide) rfl ?_
    refine q_iinc (lv' := [(2, .int (iI (i + 1))), (1, .int (iI (n - (r i)))), (0, .ref (adr w 110))]) C 2 dX4_inBag_22 rfl (by decide) rfl ?_
    refine q_goto C 5 dX4_inBag_25 (by decide) ?_
    refine q_lv (lv' := [(0, .ref (adr w 110)), (1, .int (iI (n - (r i)))), (2, .int (iI (i + 1)))]) [2, 1, 0] rfl ?_
    exact ih5 (i + 1) (n - (r i)) (⟨by omega, by omega, by rw [sm_s hi0, hi2]; omega⟩) (by omega)

set_option maxRecDepth 100000 in
set_option maxHeartbeats 4000000 in
theorem k_X4_beatsOn (l : Launch) {w : WP} {F : FF} {r : Rw} {x : Int} (hr : F 111 = r) (hI : Iv r) (hl : 0 ≤ x ∧ x < 16) : Con l yX4_beatsOn cX4_beatsOn 4 (some .int) 1 w [.ref (adr w 110), .int (iI x)] F (QI w (fun z F' => z = bo (wa r x) (r x) ∧ F = F')) := by
  refine Con.mk (lv := [(0, .ref (adr w 110)), (1, .int (iI x))]) (by decide) (Nat.le_of_ble_eq_true rfl) rfl ?_
  intro pg ev s0 mi be me co C hz
  refine q_iconst C 0 dX4_beatsOn_0 ?_
  refine q_istore_n (lv' := [(2, .int (iI 0)), (0, .ref (adr w 110)), (1, .int (iI x))]) C dX4_beatsOn_1 (by decide) rfl ?_
  refine q_iconst C 0 dX4_beatsOn_2 ?_
  refine q_istore_n (lv' := [(3, .int (iI 0)), (2, .int (iI 0)), (0, .ref (adr w 110)), (1, .int (iI x))]) C dX4_beatsOn_3 (by decide) rfl ?_
  refine q_lv (lv' := [(0, .ref (adr w 110)), (1, .int (iI x)), (2, .int (iI 0)), (3, .int (iI 0))]) [2, 3, 1, 0] rfl ?_
  refine wf2 (P := fun (p : Int) (n : Int) => Wq pg l ev _ s0 mi _ be me co _ w _ _ _ 4 [(0, .ref (adr w 110)), (1, .int (iI x)), (2, .int (iI n)), (3, .int (iI p))] [] F) (I := fun (p : Int) (n : Int) => 0 ≤ p ∧ p ≤ r x ∧ n = bo (wa r x) p) (μ := fun (p : Int) (n : Int) => (r x - p).toNat) ?_ 0 0 (⟨by omega, (hI.sz hl.1 hl.2).1, rfl⟩)
  intro p n hI' ih4
  (try dsimp only at hI'); (try dsimp only at ih4); (try dsimp only)
  obtain ⟨hp0, hp1, hn⟩ := hI'
  refine q_iload_n C 3 dX4_beatsOn_4 rfl ?_
  refine q_aload_n C 0 dX4_beatsOn_5 rfl ?_
  refine q_get (T := TX4) (i := 0) C kd110 (by decide) rfl uws4 (by decide) wd_865 rfl dX4_beatsOn_6 ?_
  refine q_iconst C 0 dX4_beatsOn_9 ?_
  refine q_iload_n C 1 dX4_beatsOn_10 rfl ?_
  refine q_iadd C dX4_beatsOn_11 ?_
  refine q_iald C kd111 ⟨by omega, by rw [ln111]; omega⟩ dX4_beatsOn_12 ?_
  refine q_top (z' := r x) (by rw [hr, Int.zero_add]) ?_
  have q_0 := hI.sz (l := x) (by omega) (by omega)
  refine q_icmp_ge C 34 dX4_beatsOn_13 ⟨by omega, by omega⟩ ⟨by omega, by omega⟩ (by decide) (fun h13 => ?_) (fun h13 => ?_)
  · refine q_iload_n C 2 dX4_beatsOn_34 rfl ?_
    refine q_iret C dX4_beatsOn_35 ?_
    exact ⟨by rw [hn, show r x = p by omega], rfl⟩
  · refine q_iload_n C 2 dX4_beatsOn_16 rfl ?_
    refine q_aload_n C 0 dX4_beatsOn_17 rfl ?_
    refine q_iload_n C 1 dX4_beatsOn_18 rfl ?_
    refine q_iload_n C 3 dX4_beatsOn_19 rfl ?_
    refine q_cI (q_runV (As := [.int (iI x), .int (iI p)]) (rest := [.int (iI n)]) C (k_X4_wordAt l hr (x := x) (p := p) ⟨by omega, by omega⟩ ⟨by omega, by omega⟩) kd110 (by decide) rfl wd_948 wd_947 wd_25 wd_81 wd_945 nd_X4_wordAt rfl (by decide) ⟨Nat.zero_le _, Nat.zero_le _⟩ rfl (Nat.le_of_ble_eq_true rfl) dX4_beatsOn_20) ?_
    rintro z F' ⟨rfl, rfl⟩
    have q20 := hI.wd (l := x) (p := p) (by omega) (by omega) (by omega) (by omega)
    refine q_cI (q_runS (As := [.int (iI (wa r x p))]) (rest := [.int (iI n)]) C (k_X4_beatsOf l (by omega)) wd_963 wd_962 wd_81 wd_961 nd_X4_beatsOf rfl (by decide) ⟨Nat.zero_le _, Nat.zero_le _⟩ rfl (Nat.le_of_ble_eq_true rfl) dX4_beatsOn_23) ?_
    rintro z F' ⟨rfl, rfl⟩
    have q23 := bt_pos (x := wa r x p) (by omega)
    refine q_iadd C dX4_beatsOn_26 ?_
    refine q_istore_n (lv' := [(2, .int (iI (n + (bt (wa r x p))))), (0, .ref (adr w 110)), (1, .int (iI x)), (3, .int (iI p))]) C dX4_beatsOn_27 (by decide) rfl ?_
    refine q_iinc (lv' := [(3, .int (iI (p + 1))), (2, .int (iI (n + (bt (wa r x p))))), (0, .ref (adr w 110)), (1, .int (iI x))]) C 3 dX4_beatsOn_28 rfl (by decide) rfl ?_
    refine q_goto C 4 dX4_beatsOn_31 (by decide) ?_
    refine q_lv (lv' := [(0, .ref (adr w 110)), (1, .int (iI x)), (2, .int (iI (n + (bt (wa r x p))))), (3, .int (iI (p + 1)))]) [2, 3, 1, 0] rfl ?_
    exact ih4 (p + 1) (n + (bt (wa r x p))) (⟨by omega, by omega, by rw [bo_s hp0, hn]⟩) (by omega)

set_option maxRecDepth 100000 in
set_option maxHeartbeats 4000000 in
theorem k_X4_wordWith (l : Launch) {w : WP} {F : FF} {r : Rw} {x y p k : Int} (hr : F 111 = r) (hI : Iv r) (hy : 0 ≤ y ∧ y < 16) (hp : 0 ≤ p ∧ p ≤ r y) (hs : r y < 6) (hk : 0 ≤ k ∧ k ≤ r y) : Con l yX4_wordWith cX4_wordWith 5 (some .int) 1 w [.ref (adr w 110), .int (iI x), .int (iI y), .int (iI p), .int (iI k)] F (QI w (fun z F' => z = ww r x y p k ∧ F = F')) := by
  refine Con.mk (lv := [(0, .ref (adr w 110)), (1, .int (iI x)), (2, .int (iI y)), (3, .int (iI p)), (4, .int (iI k))]) (by decide) (Nat.le_of_ble_eq_true rfl) rfl ?_
  intro pg ev s0 mi be me co C hz
  refine q_iload C 4 dX4_wordWith_0 rfl ?_
  refine q_iload_n C 3 dX4_wordWith_2 rfl ?_
  refine q_icmp_ge C 16 dX4_wordWith_3 ⟨by omega, by omega⟩ ⟨by omega, by omega⟩ (by decide) (fun h3 => ?_) (fun h3 => ?_)
  · refine q_iload C 4 dX4_wordWith_16 rfl ?_
    refine q_iload_n C 3 dX4_wordWith_18 rfl ?_
    refine q_icmp_ne C 26 dX4_wordWith_19 ⟨by omega, by omega⟩ ⟨by omega, by omega⟩ (by decide) (fun h19 => ?_) (fun h19 => ?_)
    · refine q_aload_n C 0 dX4_wordWith_26 rfl ?_
      refine q_iload_n C 2 dX4_wordWith_27 rfl ?_
      refine q_iload C 4 dX4_wordWith_28 rfl ?_
      refine q_iconst C 1 dX4_wordWith_30 ?_
      refine q_isub C dX4_wordWith_31 ?_
      refine q_cI (q_runV (As := [.int (iI y), .int (iI (k - 1))]) (rest := []) C (k_X4_wordAt l hr (x := y) (p := k - 1) ⟨by omega, by omega⟩ ⟨by omega, by omega⟩) kd110 (by decide) rfl wd_948 wd_947 wd_25 wd_81 wd_945 nd_X4_wordAt rfl (by decide) ⟨Nat.zero_le _, Nat.zero_le _⟩ rfl (Nat.le_of_ble_eq_true rfl) dX4_wordWith_32) ?_
      rintro z F' ⟨rfl, rfl⟩
      refine q_iret C dX4_wordWith_35 ?_
      exact ⟨by unfold ww; first | rw [if_pos (by omega)] | rw [if_neg (by omega), if_pos (by omega)] | rw [if_neg (by omega), if_neg (by omega)], rfl⟩
    · refine q_iload_n C 1 dX4_wordWith_22 rfl ?_
      refine q_goto C 35 dX4_wordWith_23 (by decide) ?_
      refine q_iret C dX4_wordWith_35 ?_
      exact ⟨by unfold ww; first | rw [if_pos (by omega)] | rw [if_neg (by omega), if_pos (by omega)] | rw [if_neg (by omega), if_neg (by omega)], rfl⟩
  · refine q_aload_n C 0 dX4_wordWith_6 rfl ?_
    refine q_iload_n C 2 dX4_wordWith_7 rfl ?_
    refine q_iload C 4 dX4_wordWith_8 rfl ?_
    refine q_cI (q_runV (As := [.int (iI y), .int (iI k)]) (rest := []) C (k_X4_wordAt l hr (x := y) (p := k) ⟨by omega, by omega⟩ ⟨by omega, by omega⟩) kd110 (by decide) rfl wd_948 wd_947 wd_25 wd_81 wd_945 nd_X4_wordAt rfl (by decide) ⟨Nat.zero_le _, Nat.zero_le _⟩ rfl (Nat.le_of_ble_eq_true rfl) dX4_wordWith_10) ?_
    rintro z F' ⟨rfl, rfl⟩
    refine q_goto C 35 dX4_wordWith_13 (by decide) ?_
    refine q_iret C dX4_wordWith_35 ?_
    exact ⟨by unfold ww; first | rw [if_pos (by omega)] | rw [if_neg (by omega), if_pos (by omega)] | rw [if_neg (by omega), if_neg (by omega)], rfl⟩

set_option maxRecDepth 100000 in
set_option maxHeartbeats 4000000 in
theorem k_X4_reason (l : Launch) {w : WP} {F : FF} {r : Rw} {x y p : Int} (hr : F 111 = r) (hI : Iv r) (hx : 0 ≤ x ∧ x < 40) (hy : 0 ≤ y ∧ y < 16) (hp : 0 ≤ p ∧ p ≤ r y) : Con l yX4_reason cX4_reason 6 (some .int) 2 w [.ref (adr w 110), .int (iI x), .int (iI y), .int (iI p)] F (QI w (fun z F' => z = rea r x y p ∧ F = F')) := by
  refine Con.mk (lv := [(0, .ref (adr w 110)), (1, .int (iI x)), (2, .int (iI y)), (3, .int (iI p))]) (by decide) (Nat.le_of_ble_eq_true rfl) rfl ?_
  intro pg ev s0 mi be me co C hz
  refine q_aload_n C 0 dX4_reason_0 rfl ?_
  refine q_get (T := TX4) (i := 0) C kd110 (by decide) rfl uws4 (by decide) wd_865 rfl dX4_reason_1 ?_
  refine q_iconst C 0 dX4_reason_4 ?_
  refine q_iload_n C 2 dX4_reason_5 rfl ?_
  refine q_iadd C dX4_reason_6 ?_
  refine q_iald C kd111 ⟨by omega, by rw [ln111]; omega⟩ dX4_reason_7 ?_
  refine q_top (z' := r y) (by rw [hr, Int.zero_add]) ?_
  have q_0 := hI.sz (l := y) (by omega) (by omega)
  refine q_istore (lv' := [(4, .int (iI (r y))), (0, .ref (adr w 110)), (1, .int (iI x)), (2, .int (iI y)), (3, .int (iI p))]) C dX4_reason_8 (by decide) rfl ?_
  refine q_iload C 0 dX4_reason_10 rfl ?_
  refine q_bipush C 6 dX4_reason_12 (by decide) ?_
  refine q_icmp_ne C 19 dX4_reason_14 ⟨by omega, by omega⟩ ⟨by decide, by decide⟩ (by decide) (fun h14 => ?_) (fun h14 => ?_)
  · refine q_aload_n C 1 dX4_reason_19 rfl ?_
    refine q_iload_n C 3 dX4_reason_20 rfl ?_
    refine q_cI (q_runV (As := [.int (iI y)]) (rest := []) C (k_X4_beatsOn l hr hI (x := y) ⟨by omega, by omega⟩) kd110 (by decide) rfl wd_960 wd_959 wd_28 wd_81 wd_957 nd_X4_beatsOn rfl (by decide) ⟨Nat.zero_le _, Nat.zero_le _⟩ rfl (Nat.le_of_ble_eq_true rfl) dX4_reason_21) ?_
    rintro z F' ⟨rfl, rfl⟩
    have q21 := bo_line hI (l := y) (by omega) (by omega)
    refine q_iload_n C 2 dX4_reason_24 rfl ?_
    refine q_cI (q_runS (As := [.int (iI x)]) (rest := [.int (iI (bo (wa r y) (r y)))]) C (k_X4_beatsOf l (by omega)) wd_963 wd_962 wd_81 wd_961 nd_X4_beatsOf rfl (by decide) ⟨Nat.zero_le _, Nat.zero_le _⟩ rfl (Nat.le_of_ble_eq_true rfl) dX4_reason_25) ?_
    rintro z F' ⟨rfl, rfl⟩
    have q25 := bt_pos (x := x) (by omega)
    refine q_iadd C dX4_reason_28 ?_
    refine q_bipush C 12 dX4_reason_29 (by decide) ?_
    refine q_icmp_le C 36 dX4_reason_31 ⟨by omega, by omega⟩ ⟨by decide, by decide⟩ (by decide) (fun h31 => ?_) (fun h31 => ?_)
    · refine q_iconst C 0 dX4_reason_36 ?_
      refine q_istore (lv' := [(5, .int (iI 0)), (4, .int (iI (r y))), (0, .ref (adr w 110)), (1, .int (iI x)), (2, .int (iI y)), (3, .int (iI p))]) C dX4_reason_37 (by decide) rfl ?_
      refine q_lv (lv' := [(0, .ref (adr w 110)), (1, .int (iI x)), (2, .int (iI y)), (3, .int (iI p)), (4, .int (iI (r y))), (5, .int (iI 0))]) [2, 3, 4, 5, 1, 0] rfl ?_
      refine wf1 (P := fun (k : Int) => Wq pg l ev _ s0 mi _ be me co _ w _ _ _ 39 [(0, .ref (adr w 110)), (1, .int (iI x)), (2, .int (iI y)), (3, .int (iI p)), (4, .int (iI (r y))), (5, .int (iI k))] [] F) (I := fun (k : Int) => 0 ≤ k ∧ k ≤ r y ∧ an (fun k => clb (ww r x y p k) (ww r x y p (k + 1))) k = false) (μ := fun (k : Int) => (r y - k).toNat) ?_ 0 (⟨by omega, by omega, rfl⟩)
      intro k hI' ih39
      (try dsimp only at hI'); (try dsimp only at ih39); (try dsimp only)
      obtain ⟨hk0, hk1, hk⟩ := hI'
      refine q_iload C 5 dX4_reason_39 rfl ?_
      refine q_iload C 4 dX4_reason_41 rfl ?_
      refine q_icmp_ge C 80 dX4_reason_43 ⟨by omega, by omega⟩ ⟨by omega, by omega⟩ (by decide) (fun h43 => ?_) (fun h43 => ?_)
      · refine q_iload_n C 3 dX4_reason_80 rfl ?_
        refine q_if_eq C 90 dX4_reason_81 ⟨by omega, by omega⟩  (by decide) (fun h81 => ?_) (fun h81 => ?_)
        · refine q_iconst C 1 dX4_reason_90 ?_
          refine q_goto C 95 dX4_reason_91 (by decide) ?_
          refine q_istore (lv' := [(5, .int (iI 1)), (0, .ref (adr w 110)), (1, .int (iI x)), (2, .int (iI y)), (3, .int (iI p)), (4, .int (iI (r y)))]) C dX4_reason_95 (by decide) rfl ?_
          refine q_aload_n C 1 dX4_reason_97 rfl ?_
          refine q_get (T := TX4) (i := 0) C kd110 (by decide) rfl uws4 (by decide) wd_865 rfl dX4_reason_98 ?_
          refine q_sipush C 176 dX4_reason_101 (by decide) ?_
          refine q_iald C kd111 ⟨by omega, by rw [ln111]; omega⟩ dX4_reason_104 ?_
          refine q_top (z' := r 176) (by rw [hr]) ?_
          have q_1 := hI.se
          refine q_iconst C 1 dX4_reason_105 ?_
          refine q_icmp_ne C 126 dX4_reason_106 ⟨by omega, by omega⟩ ⟨by decide, by decide⟩ (by decide) (fun h106 => ?_) (fun h106 => ?_)
          · refine q_iconst C 0 dX4_reason_126 ?_
            refine q_iret C dX4_reason_127 ?_
            exact ⟨by unfold rea; rw [if_neg (by omega), if_neg (by omega), if_neg (by rw [show r y = k by omega, hk]; decide)]; first | rw [if_pos (by omega)] | rw [if_neg (by omega)], rfl⟩
          · refine q_iload_n C 2 dX4_reason_109 rfl ?_
            refine q_cI (q_runS (As := [.int (iI x)]) (rest := []) C (k_X4_kindOf l (by omega)) wd_973 wd_972 wd_81 wd_971 nd_X4_kindOf rfl (by decide) ⟨Nat.zero_le _, Nat.zero_le _⟩ rfl (Nat.le_of_ble_eq_true rfl) dX4_reason_110) ?_
            rintro z F' ⟨rfl, rfl⟩
            have q110 := kn_pos (x := x) (by omega)
            refine q_iconst C 3 dX4_reason_113 ?_
            refine q_icmp_ne C 126 dX4_reason_114 ⟨by omega, by omega⟩ ⟨by decide, by decide⟩ (by decide) (fun h114 => ?_) (fun h114 => ?_)
            · refine q_iconst C 0 dX4_reason_126 ?_
              refine q_iret C dX4_reason_127 ?_
              exact ⟨by unfold rea; rw [if_neg (by omega), if_neg (by omega), if_neg (by rw [show r y = k by omega, hk]; decide)]; first | rw [if_pos (by omega)] | rw [if_neg (by omega)], rfl⟩
            · refine q_iload C 0 dX4_reason_117 rfl ?_
              refine q_if_eq C 126 dX4_reason_119 ⟨by decide, by decide⟩  (by decide) (fun h => absurd h (by decide)) (fun _ => ?_)
              refine q_iconst C 4 dX4_reason_122 ?_
              refine q_goto C 127 dX4_reason_123 (by decide) ?_
              refine q_iret C dX4_reason_127 ?_
              exact ⟨by unfold rea; rw [if_neg (by omega), if_neg (by omega), if_neg (by rw [show r y = k by omega, hk]; decide)]; first | rw [if_pos (by omega)] | rw [if_neg (by omega)], rfl⟩
        · refine q_iload_n C 3 dX4_reason_84 rfl ?_
          refine q_iload C 4 dX4_reason_85 rfl ?_
          refine q_icmp_ne C 94 dX4_reason_87 ⟨by omega, by omega⟩ ⟨by omega, by omega⟩ (by decide) (fun h87 => ?_) (fun h87 => ?_)
          · refine q_iconst C 0 dX4_reason_94 ?_
            refine q_istore (lv' := [(5, .int (iI 0)), (0, .ref (adr w 110)), (1, .int (iI x)), (2, .int (iI y)), (3, .int (iI p)), (4, .int (iI (r y)))]) C dX4_reason_95 (by decide) rfl ?_
            refine q_aload_n C 1 dX4_reason_97 rfl ?_
            refine q_get (T := TX4) (i := 0) C kd110 (by decide) rfl uws4 (by decide) wd_865 rfl dX4_reason_98 ?_
            refine q_sipush C 176 dX4_reason_101 (by decide) ?_
            refine q_iald C kd111 ⟨by omega, by rw [ln111]; omega⟩ dX4_reason_104 ?_
            refine q_top (z' := r 176) (by rw [hr]) ?_
            have q_2 := hI.se
            refine q_iconst C 1 dX4_reason_105 ?_
            refine q_icmp_ne C 126 dX4_reason_106 ⟨by omega, by omega⟩ ⟨by decide, by decide⟩ (by decide) (fun h106 => ?_) (fun h106 => ?_)
            · refine q_iconst C 0 dX4_reason_126 ?_
              refine q_iret C dX4_reason_127 ?_
              exact ⟨by unfold rea; rw [if_neg (by omega), if_neg (by omega), if_neg (by rw [show r y = k by omega, hk]; decide)]; first | rw [if_pos (by omega)] | rw [if_neg (by omega)], rfl⟩
            · refine q_iload_n C 2 dX4_reason_109 rfl ?_
              refine q_cI (q_runS (As := [.int (iI x)]) (rest := []) C (k_X4_kindOf l (by omega)) wd_973 wd_972 wd_81 wd_971 nd_X4_kindOf rfl (by decide) ⟨Nat.zero_le _, Nat.zero_le _⟩ rfl (Nat.le_of_ble_eq_true rfl) dX4_reason_110) ?_
              rintro z F' ⟨rfl, rfl⟩
              have q110 := kn_pos (x := x) (by omega)
              refine q_iconst C 3 dX4_reason_113 ?_
              refine q_icmp_ne C 126 dX4_reason_114 ⟨by omega, by omega⟩ ⟨by decide, by decide⟩ (by decide) (fun h114 => ?_) (fun h114 => ?_)
              · refine q_iconst C 0 dX4_reason_126 ?_
                refine q_iret C dX4_reason_127 ?_
                exact ⟨by unfold rea; rw [if_neg (by omega), if_neg (by omega), if_neg (by rw [show r y = k by omega, hk]; decide)]; first | rw [if_pos (by omega)] | rw [if_neg (by omega)], rfl⟩
              · refine q_iload C 0 dX4_reason_117 rfl ?_
                refine q_if_eq C 126 dX4_reason_119 ⟨by decide, by decide⟩  (by decide) (fun _ => ?_) (fun h => absurd h (by decide))
                refine q_iconst C 0 dX4_reason_126 ?_
                refine q_iret C dX4_reason_127 ?_
                exact ⟨by unfold rea; rw [if_neg (by omega), if_neg (by omega), if_neg (by rw [show r y = k by omega, hk]; decide)]; first | rw [if_pos (by omega)] | rw [if_neg (by omega)], rfl⟩
          · refine q_iconst C 1 dX4_reason_90 ?_
            refine q_goto C 95 dX4_reason_91 (by decide) ?_
            refine q_istore (lv' := [(5, .int (iI 1)), (0, .ref (adr w 110)), (1, .int (iI x)), (2, .int (iI y)), (3, .int (iI p)), (4, .int (iI (r y)))]) C dX4_reason_95 (by decide) rfl ?_
            refine q_aload_n C 1 dX4_reason_97 rfl ?_
            refine q_get (T := TX4) (i := 0) C kd110 (by decide) rfl uws4 (by decide) wd_865 rfl dX4_reason_98 ?_
            refine q_sipush C 176 dX4_reason_101 (by decide) ?_
            refine q_iald C kd111 ⟨by omega, by rw [ln111]; omega⟩ dX4_reason_104 ?_
            refine q_top (z' := r 176) (by rw [hr]) ?_
            have q_3 := hI.se
            refine q_iconst C 1 dX4_reason_105 ?_
            refine q_icmp_ne C 126 dX4_reason_106 ⟨by omega, by omega⟩ ⟨by decide, by decide⟩ (by decide) (fun h106 => ?_) (fun h106 => ?_)
            · refine q_iconst C 0 dX4_reason_126 ?_
              refine q_iret C dX4_reason_127 ?_
              exact ⟨by unfold rea; rw [if_neg (by omega), if_neg (by omega), if_neg (by rw [show r y = k by omega, hk]; decide)]; first | rw [if_pos (by omega)] | rw [if_neg (by omega)], rfl⟩
            · refine q_iload_n C 2 dX4_reason_109 rfl ?_
              refine q_cI (q_runS (As := [.int (iI x)]) (rest := []) C (k_X4_kindOf l (by omega)) wd_973 wd_972 wd_81 wd_971 nd_X4_kindOf rfl (by decide) ⟨Nat.zero_le _, Nat.zero_le _⟩ rfl (Nat.le_of_ble_eq_true rfl) dX4_reason_110) ?_
              rintro z F' ⟨rfl, rfl⟩
              have q110 := kn_pos (x := x) (by omega)
              refine q_iconst C 3 dX4_reason_113 ?_
              refine q_icmp_ne C 126 dX4_reason_114 ⟨by omega, by omega⟩ ⟨by decide, by decide⟩ (by decide) (fun h114 => ?_) (fun h114 => ?_)
              · refine q_iconst C 0 dX4_reason_126 ?_
                refine q_iret C dX4_reason_127 ?_
                exact ⟨by unfold rea; rw [if_neg (by omega), if_neg (by omega), if_neg (by rw [show r y = k by omega, hk]; decide)]; first | rw [if_pos (by omega)] | rw [if_neg (by omega)], rfl⟩
              · refine q_iload C 0 dX4_reason_117 rfl ?_
                refine q_if_eq C 126 dX4_reason_119 ⟨by decide, by decide⟩  (by decide) (fun h => absurd h (by decide)) (fun _ => ?_)
                refine q_iconst C 4 dX4_reason_122 ?_
                refine q_goto C 127 dX4_reason_123 (by decide) ?_
                refine q_iret C dX4_reason_127 ?_
                exact ⟨by unfold rea; rw [if_neg (by omega), if_neg (by omega), if_neg (by rw [show r y = k by omega, hk]; decide)]; first | rw [if_pos (by omega)] | rw [if_neg (by omega)], rfl⟩
      · refine q_aload_n C 0 dX4_reason_46 rfl ?_
        refine q_iload_n C 1 dX4_reason_47 rfl ?_
        refine q_iload_n C 2 dX4_reason_48 rfl ?_
        refine q_iload_n C 3 dX4_reason_49 rfl ?_
        refine q_iload C 5 dX4_reason_50 rfl ?_
        refine q_cI (q_runV (As := [.int (iI x), .int (iI y), .int (iI p), .int (iI k)]) (rest := []) C (k_X4_wordWith l hr hI (x := x) (y := y) (p := p) (k := k) ⟨by omega, by omega⟩ ⟨by omega, by omega⟩ (by omega) ⟨by omega, by omega⟩) kd110 (by decide) rfl wd_967 wd_966 wd_29 wd_81 wd_964 nd_X4_wordWith rfl (by decide) ⟨Nat.zero_le _, Nat.zero_le _⟩ rfl (Nat.le_of_ble_eq_true rfl) dX4_reason_52) ?_
        rintro z F' ⟨rfl, rfl⟩
        have q52 := ww_range hI (x := x) (y := y) (q := p) (k := k) ⟨by omega, by omega⟩ ⟨by omega, by omega⟩ ⟨by omega, by omega⟩ (by omega) (by omega)
        refine q_aload_n C 0 dX4_reason_55 rfl ?_
        refine q_iload_n C 1 dX4_reason_56 rfl ?_
        refine q_iload_n C 2 dX4_reason_57 rfl ?_
        refine q_iload_n C 3 dX4_reason_58 rfl ?_
        refine q_iload C 5 dX4_reason_59 rfl ?_
        refine q_iconst C 1 dX4_reason_61 ?_
        refine q_iadd C dX4_reason_62 ?_
        refine q_cI (q_runV (As := [.int (iI x), .int (iI y), .int (iI p), .int (iI (k + 1))]) (rest := [.int (iI (ww r x y p k))]) C (k_X4_wordWith l hr hI (x := x) (y := y) (p := p) (k := k + 1) ⟨by omega, by omega⟩ ⟨by omega, by omega⟩ (by omega) ⟨by omega, by omega⟩) kd110 (by decide) rfl wd_967 wd_966 wd_29 wd_81 wd_964 nd_X4_wordWith rfl (by decide) ⟨Nat.zero_le _, Nat.zero_le _⟩ rfl (Nat.le_of_ble_eq_true rfl) dX4_reason_63) ?_
        rintro z F' ⟨rfl, rfl⟩
        have q63 := ww_range hI (x := x) (y := y) (q := p) (k := k + 1) ⟨by omega, by omega⟩ ⟨by omega, by omega⟩ ⟨by omega, by omega⟩ (by omega) (by omega)
        refine q_cI (q_runS (As := [.int (iI (ww r x y p k)), .int (iI (ww r x y p (k + 1)))]) (rest := []) C (k_X4_clash l (by omega) (by omega)) wd_970 wd_969 wd_81 wd_968 nd_X4_clash rfl (by decide) ⟨Nat.zero_le _, Nat.zero_le _⟩ rfl (Nat.le_of_ble_eq_true rfl) dX4_reason_66) ?_
        rintro z F' ⟨⟨rfl, hc66⟩ | ⟨rfl, hc66⟩, rfl⟩
        · refine q_if_eq C 74 dX4_reason_69 ⟨by decide, by decide⟩  (by decide) (fun h => absurd h (by decide)) (fun _ => ?_)
          refine q_iconst C 3 dX4_reason_72 ?_
          refine q_iret C dX4_reason_73 ?_
          exact ⟨by unfold rea; rw [if_neg (by omega), if_neg (by omega), if_pos (an_iff.mpr ⟨k, hk0, by omega, decide_eq_true (by assumption)⟩)], rfl⟩
        · refine q_if_eq C 74 dX4_reason_69 ⟨by decide, by decide⟩  (by decide) (fun _ => ?_) (fun h => absurd h (by decide))
          refine q_iinc (lv' := [(5, .int (iI (k + 1))), (0, .ref (adr w 110)), (1, .int (iI x)), (2, .int (iI y)), (3, .int (iI p)), (4, .int (iI (r y)))]) C 5 dX4_reason_74 rfl (by decide) rfl ?_
          refine q_goto C 39 dX4_reason_77 (by decide) ?_
          refine q_lv (lv' := [(0, .ref (adr w 110)), (1, .int (iI x)), (2, .int (iI y)), (3, .int (iI p)), (4, .int (iI (r y))), (5, .int (iI (k + 1)))]) [1, 2, 3, 4, 5, 0] rfl ?_
          exact ih39 (k + 1) (⟨by omega, by omega, by rw [an_s hk0, hk]; show decide _ = false; exact decide_eq_false (by assumption)⟩) (by omega)
    · refine q_iconst C 2 dX4_reason_34 ?_
      refine q_iret C dX4_reason_35 ?_
      exact ⟨by unfold rea; rw [if_neg (by omega), if_pos (by omega)], rfl⟩
  · refine q_iconst C 1 dX4_reason_17 ?_
    refine q_iret C dX4_reason_18 ?_
    exact ⟨by unfold rea; rw [if_pos (by omega)], rfl⟩

set_option maxRecDepth 100000 in
set_option maxHeartbeats 4000000 in
theorem k_X4_hasKind (l : Launch) {w : WP} {F : FF} {r : Rw} {x j : Int} (hr : F 111 = r) (hI : Iv r) (hl : 0 ≤ x ∧ x < 16) (hj : 0 ≤ j ∧ j < 4) : Con l yX4_hasKind cX4_hasKind 5 (some .boolean) 1 w [.ref (adr w 110), .int (iI x), .int (iI j)] F (QI w (fun z F' => (z = 1 ∧ hk (wa r x) j (r x) = true ∨ z = 0 ∧ hk (wa r x) j (r x) = false) ∧ F = F')) := by
  refine Con.mk (lv := [(0, .ref (adr w 110)), (1, .int (iI x)), (2, .int (iI j))]) (by decide) (Nat.le_of_ble_eq_true rfl) rfl ?_
  intro pg ev s0 mi be me co C hz
  refine q_iconst C 0 dX4_hasKind_0 ?_
  refine q_istore_n (lv' := [(3, .int (iI 0)), (0, .ref (adr w 110)), (1, .int (iI x)), (2, .int (iI j))]) C dX4_hasKind_1 (by decide) rfl ?_
  refine q_iconst C 0 dX4_hasKind_2 ?_
  refine q_istore (lv' := [(4, .int (iI 0)), (3, .int (iI 0)), (0, .ref (adr w 110)), (1, .int (iI x)), (2, .int (iI j))]) C dX4_hasKind_3 (by decide) rfl ?_
  refine q_lv (lv' := [(0, .ref (adr w 110)), (1, .int (iI x)), (2, .int (iI j)), (3, .int (iI 0)), (4, .int (iI 0))]) [2, 3, 4, 1, 0] rfl ?_
  refine wf2 (P := fun (p : Int) (t : Int) => Wq pg l ev _ s0 mi _ be me co _ w _ _ _ 5 [(0, .ref (adr w 110)), (1, .int (iI x)), (2, .int (iI j)), (3, .int (iI t)), (4, .int (iI p))] [] F) (I := fun (p : Int) (t : Int) => 0 ≤ p ∧ p ≤ r x ∧ (t = 1 ∧ hk (wa r x) j p = true ∨ t = 0 ∧ hk (wa r x) j p = false)) (μ := fun (p : Int) (t : Int) => (r x - p).toNat) ?_ 0 0 (⟨by omega, (hI.sz hl.1 hl.2).1, Or.inr ⟨rfl, rfl⟩⟩)
  intro p t hI' ih5
  (try dsimp only at hI'); (try dsimp only at ih5); (try dsimp only)
  obtain ⟨hp0, hp1, ht⟩ := hI'
  refine q_iload C 4 dX4_hasKind_5 rfl ?_
  refine q_aload_n C 0 dX4_hasKind_7 rfl ?_
  refine q_get (T := TX4) (i := 0) C kd110 (by decide) rfl uws4 (by decide) wd_865 rfl dX4_hasKind_8 ?_
  refine q_iconst C 0 dX4_hasKind_11 ?_
  refine q_iload_n C 1 dX4_hasKind_12 rfl ?_
  refine q_iadd C dX4_hasKind_13 ?_
  refine q_iald C kd111 ⟨by omega, by rw [ln111]; omega⟩ dX4_hasKind_14 ?_
  refine q_top (z' := r x) (by rw [hr, Int.zero_add]) ?_
  have q_0 := hI.sz (l := x) (by omega) (by omega)
  refine q_icmp_ge C 48 dX4_hasKind_15 ⟨by omega, by omega⟩ ⟨by omega, by omega⟩ (by decide) (fun h15 => ?_) (fun h15 => ?_)
  · refine q_iload_n C 3 dX4_hasKind_48 rfl ?_
    refine q_zret C dX4_hasKind_49 (by omega) ?_
    exact ⟨by rw [show r x = p by omega]; exact ht, rfl⟩
  · refine q_iload_n C 3 dX4_hasKind_18 rfl ?_
    refine q_if_ne C 36 dX4_hasKind_19 ⟨by omega, by omega⟩  (by decide) (fun h19 => ?_) (fun h19 => ?_)
    · refine q_iconst C 1 dX4_hasKind_36 ?_
      refine q_goto C 41 dX4_hasKind_37 (by decide) ?_
      refine q_istore_n (lv' := [(3, .int (iI 1)), (0, .ref (adr w 110)), (1, .int (iI x)), (2, .int (iI j)), (4, .int (iI p))]) C dX4_hasKind_41 (by decide) rfl ?_
      refine q_iinc (lv' := [(4, .int (iI (p + 1))), (3, .int (iI 1)), (0, .ref (adr w 110)), (1, .int (iI x)), (2, .int (iI j))]) C 4 dX4_hasKind_42 rfl (by decide) rfl ?_
      refine q_goto C 5 dX4_hasKind_45 (by decide) ?_
      refine q_lv (lv' := [(0, .ref (adr w 110)), (1, .int (iI x)), (2, .int (iI j)), (3, .int (iI 1)), (4, .int (iI (p + 1)))]) [2, 3, 4, 1, 0] rfl ?_
      exact ih5 (p + 1) 1 (⟨by omega, by omega, hk_step hp0 ht (by omega)⟩) (by omega)
    · refine q_aload_n C 0 dX4_hasKind_22 rfl ?_
      refine q_iload_n C 1 dX4_hasKind_23 rfl ?_
      refine q_iload C 4 dX4_hasKind_24 rfl ?_
      refine q_cI (q_runV (As := [.int (iI x), .int (iI p)]) (rest := []) C (k_X4_wordAt l hr (x := x) (p := p) ⟨by omega, by omega⟩ ⟨by omega, by omega⟩) kd110 (by decide) rfl wd_948 wd_947 wd_25 wd_81 wd_945 nd_X4_wordAt rfl (by decide) ⟨Nat.zero_le _, Nat.zero_le _⟩ rfl (Nat.le_of_ble_eq_true rfl) dX4_hasKind_26) ?_
      rintro z F' ⟨rfl, rfl⟩
      have q26 := hI.wd (l := x) (p := p) (by omega) (by omega) (by omega) (by omega)
      refine q_cI (q_runS (As := [.int (iI (wa r x p))]) (rest := []) C (k_X4_kindOf l (by omega)) wd_973 wd_972 wd_81 wd_971 nd_X4_kindOf rfl (by decide) ⟨Nat.zero_le _, Nat.zero_le _⟩ rfl (Nat.le_of_ble_eq_true rfl) dX4_hasKind_29) ?_
      rintro z F' ⟨rfl, rfl⟩
      have q29 := kn_pos (x := wa r x p) (by omega)
      refine q_iload_n C 2 dX4_hasKind_32 rfl ?_
      refine q_icmp_ne C 40 dX4_hasKind_33 ⟨by omega, by omega⟩ ⟨by omega, by omega⟩ (by decide) (fun h33 => ?_) (fun h33 => ?_)
      · refine q_iconst C 0 dX4_hasKind_40 ?_
        refine q_istore_n (lv' := [(3, .int (iI 0)), (0, .ref (adr w 110)), (1, .int (iI x)), (2, .int (iI j)), (4, .int (iI p))]) C dX4_hasKind_41 (by decide) rfl ?_
        refine q_iinc (lv' := [(4, .int (iI (p + 1))), (3, .int (iI 0)), (0, .ref (adr w 110)), (1, .int (iI x)), (2, .int (iI j))]) C 4 dX4_hasKind_42 rfl (by decide) rfl ?_
        refine q_goto C 5 dX4_hasKind_45 (by decide) ?_
        refine q_lv (lv' := [(0, .ref (adr w 110)), (1, .int (iI x)), (2, .int (iI j)), (3, .int (iI 0)), (4, .int (iI (p + 1)))]) [2, 3, 4, 1, 0] rfl ?_
        exact ih5 (p + 1) 0 (⟨by omega, by omega, hk_step hp0 ht (by omega)⟩) (by omega)
      · refine q_iconst C 1 dX4_hasKind_36 ?_
        refine q_goto C 41 dX4_hasKind_37 (by decide) ?_
        refine q_istore_n (lv' := [(3, .int (iI 1)), (0, .ref (adr w 110)), (1, .int (iI x)), (2, .int (iI j)), (4, .int (iI p))]) C dX4_hasKind_41 (by decide) rfl ?_
        refine q_iinc (lv' := [(4, .int (iI (p + 1))), (3, .int (iI 1)), (0, .ref (adr w 110)), (1, .int (iI x)), (2, .int (iI j))]) C 4 dX4_hasKind_42 rfl (by decide) rfl ?_
        refine q_goto C 5 dX4_hasKind_45 (by decide) ?_
        refine q_lv (lv' := [(0, .ref (adr w 110)), (1, .int (iI x)), (2, .int (iI j)), (3, .int (iI 1)), (4, .int (iI (p + 1)))]) [2, 3, 4, 1, 0] rfl ?_
        exact ih5 (p + 1) 1 (⟨by omega, by omega, hk_step hp0 ht (by omega)⟩) (by omega)

set_option maxRecDepth 100000 in
set_option maxHeartbeats 4000000 in
theorem k_X4_lineWorth (l : Launch) {w : WP} {F : FF} {r : Rw} {x : Int} (hr : F 111 = r) (hI : Iv r) (hl : 0 ≤ x ∧ x < 16) : Con l yX4_lineWorth cX4_lineWorth 4 (some .int) 2 w [.ref (adr w 110), .int (iI x)] F (QI w (fun z F' => z = lw r x ∧ F = F')) := by
  refine Con.mk (lv := [(0, .ref (adr w 110)), (1, .int (iI x))]) (by decide) (Nat.le_of_ble_eq_true rfl) rfl ?_
  intro pg ev s0 mi be me co C hz
  refine q_aload_n C 0 dX4_lineWorth_0 rfl ?_
  refine q_iload_n C 1 dX4_lineWorth_1 rfl ?_
  refine q_cI (q_runV (As := [.int (iI x)]) (rest := []) C (k_X4_beatsOn l hr hI (x := x) ⟨by omega, by omega⟩) kd110 (by decide) rfl wd_960 wd_959 wd_28 wd_81 wd_957 nd_X4_beatsOn rfl (by decide) ⟨Nat.zero_le _, Nat.zero_le _⟩ rfl (Nat.le_of_ble_eq_true rfl) dX4_lineWorth_2) ?_
  rintro z F' ⟨rfl, rfl⟩
  have q2 := bo_line hI (l := x) (by omega) (by omega)
  refine q_istore_n (lv' := [(2, .int (iI (bo (wa r x) (r x)))), (0, .ref (adr w 110)), (1, .int (iI x))]) C dX4_lineWorth_5 (by decide) rfl ?_
  refine q_iload_n C 0 dX4_lineWorth_6 rfl ?_
  refine q_aload_n C 1 dX4_lineWorth_7 rfl ?_
  refine q_iload_n C 2 dX4_lineWorth_8 rfl ?_
  refine q_iconst C 0 dX4_lineWorth_9 ?_
  refine q_cI (q_runV (As := [.int (iI x), .int (iI 0)]) (rest := [.int (iI (bo (wa r x) (r x)))]) C (k_X4_hasKind l hr hI (x := x) (j := 0) ⟨by omega, by omega⟩ ⟨by omega, by omega⟩) kd110 (by decide) rfl wd_1076 wd_1075 wd_48 wd_81 wd_1073 nd_X4_hasKind rfl (by decide) ⟨Nat.zero_le _, Nat.zero_le _⟩ rfl (Nat.le_of_ble_eq_true rfl) dX4_lineWorth_10) ?_
  rintro z F' ⟨⟨rfl, hh10⟩ | ⟨rfl, hh10⟩, rfl⟩
  · refine q_if_eq C 29 dX4_lineWorth_13 ⟨by decide, by decide⟩  (by decide) (fun h => absurd h (by decide)) (fun _ => ?_)
    refine q_aload_n C 1 dX4_lineWorth_16 rfl ?_
    refine q_iload_n C 2 dX4_lineWorth_17 rfl ?_
    refine q_iconst C 1 dX4_lineWorth_18 ?_
    refine q_cI (q_runV (As := [.int (iI x), .int (iI 1)]) (rest := [.int (iI (bo (wa r x) (r x)))]) C (k_X4_hasKind l hr hI (x := x) (j := 1) ⟨by omega, by omega⟩ ⟨by omega, by omega⟩) kd110 (by decide) rfl wd_1076 wd_1075 wd_48 wd_81 wd_1073 nd_X4_hasKind rfl (by decide) ⟨Nat.zero_le _, Nat.zero_le _⟩ rfl (Nat.le_of_ble_eq_true rfl) dX4_lineWorth_19) ?_
    rintro z F' ⟨⟨rfl, hh19⟩ | ⟨rfl, hh19⟩, rfl⟩
    · refine q_if_eq C 29 dX4_lineWorth_22 ⟨by decide, by decide⟩  (by decide) (fun h => absurd h (by decide)) (fun _ => ?_)
      refine q_iconst C 5 dX4_lineWorth_25 ?_
      refine q_goto C 30 dX4_lineWorth_26 (by decide) ?_
      refine q_iadd C dX4_lineWorth_30 ?_
      refine q_istore_n (lv' := [(3, .int (iI ((bo (wa r x) (r x)) + 5))), (2, .int (iI (bo (wa r x) (r x)))), (0, .ref (adr w 110)), (1, .int (iI x))]) C dX4_lineWorth_31 (by decide) rfl ?_
      refine q_iload_n C 0 dX4_lineWorth_32 rfl ?_
      refine q_iload_n C 1 dX4_lineWorth_33 rfl ?_
      refine q_bipush C 8 dX4_lineWorth_34 (by decide) ?_
      refine q_icmp_ne C 43 dX4_lineWorth_36 ⟨by omega, by omega⟩ ⟨by decide, by decide⟩ (by decide) (fun h36 => ?_) (fun h36 => ?_)
      · refine q_iconst C 0 dX4_lineWorth_43 ?_
        refine q_iadd C dX4_lineWorth_44 ?_
        refine q_iret C dX4_lineWorth_45 ?_
        exact ⟨by unfold lw LW; (first | rw [if_pos ⟨by assumption, by assumption⟩] | rw [if_neg (fun g => by first | (rw [hh10] at g; exact absurd g.1 (by decide)) | (rw [hh19] at g; exact absurd g.2 (by decide)))]); first | rw [if_pos (by omega)] | rw [if_neg (by omega)], rfl⟩
      · refine q_iconst C 3 dX4_lineWorth_39 ?_
        refine q_goto C 44 dX4_lineWorth_40 (by decide) ?_
        refine q_iadd C dX4_lineWorth_44 ?_
        refine q_iret C dX4_lineWorth_45 ?_
        exact ⟨by unfold lw LW; (first | rw [if_pos ⟨by assumption, by assumption⟩] | rw [if_neg (fun g => by first | (rw [hh10] at g; exact absurd g.1 (by decide)) | (rw [hh19] at g; exact absurd g.2 (by decide)))]); first | rw [if_pos (by omega)] | rw [if_neg (by omega)], rfl⟩
    · refine q_if_eq C 29 dX4_lineWorth_22 ⟨by decide, by decide⟩  (by decide) (fun _ => ?_) (fun h => absurd h (by decide))
      refine q_iconst C 0 dX4_lineWorth_29 ?_
      refine q_iadd C dX4_lineWorth_30 ?_
      refine q_istore_n (lv' := [(3, .int (iI ((bo (wa r x) (r x)) + 0))), (2, .int (iI (bo (wa r x) (r x)))), (0, .ref (adr w 110)), (1, .int (iI x))]) C dX4_lineWorth_31 (by decide) rfl ?_
      refine q_iload_n C 0 dX4_lineWorth_32 rfl ?_
      refine q_iload_n C 1 dX4_lineWorth_33 rfl ?_
      refine q_bipush C 8 dX4_lineWorth_34 (by decide) ?_
      refine q_icmp_ne C 43 dX4_lineWorth_36 ⟨by omega, by omega⟩ ⟨by decide, by decide⟩ (by decide) (fun h36 => ?_) (fun h36 => ?_)
      · refine q_iconst C 0 dX4_lineWorth_43 ?_
        refine q_iadd C dX4_lineWorth_44 ?_
        refine q_iret C dX4_lineWorth_45 ?_
        exact ⟨by unfold lw LW; (first | rw [if_pos ⟨by assumption, by assumption⟩] | rw [if_neg (fun g => by first | (rw [hh10] at g; exact absurd g.1 (by decide)) | (rw [hh19] at g; exact absurd g.2 (by decide)))]); first | rw [if_pos (by omega)] | rw [if_neg (by omega)], rfl⟩
      · refine q_iconst C 3 dX4_lineWorth_39 ?_
        refine q_goto C 44 dX4_lineWorth_40 (by decide) ?_
        refine q_iadd C dX4_lineWorth_44 ?_
        refine q_iret C dX4_lineWorth_45 ?_
        exact ⟨by unfold lw LW; (first | rw [if_pos ⟨by assumption, by assumption⟩] | rw [if_neg (fun g => by first | (rw [hh10] at g; exact absurd g.1 (by decide)) | (rw [hh19] at g; exact absurd g.2 (by decide)))]); first | rw [if_pos (by omega)] | rw [if_neg (by omega)], rfl⟩
  · refine q_if_eq C 29 dX4_lineWorth_13 ⟨by decide, by decide⟩  (by decide) (fun _ => ?_) (fun h => absurd h (by decide))
    refine q_iconst C 0 dX4_lineWorth_29 ?_
    refine q_iadd C dX4_lineWorth_30 ?_
    refine q_istore_n (lv' := [(3, .int (iI ((bo (wa r x) (r x)) + 0))), (2, .int (iI (bo (wa r x) (r x)))), (0, .ref (adr w 110)), (1, .int (iI x))]) C dX4_lineWorth_31 (by decide) rfl ?_
    refine q_iload_n C 0 dX4_lineWorth_32 rfl ?_
    refine q_iload_n C 1 dX4_lineWorth_33 rfl ?_
    refine q_bipush C 8 dX4_lineWorth_34 (by decide) ?_
    refine q_icmp_ne C 43 dX4_lineWorth_36 ⟨by omega, by omega⟩ ⟨by decide, by decide⟩ (by decide) (fun h36 => ?_) (fun h36 => ?_)
    · refine q_iconst C 0 dX4_lineWorth_43 ?_
      refine q_iadd C dX4_lineWorth_44 ?_
      refine q_iret C dX4_lineWorth_45 ?_
      exact ⟨by unfold lw LW; (first | rw [if_pos ⟨by assumption, by assumption⟩] | rw [if_neg (fun g => by first | (rw [hh10] at g; exact absurd g.1 (by decide)) | (rw [hh19] at g; exact absurd g.2 (by decide)))]); first | rw [if_pos (by omega)] | rw [if_neg (by omega)], rfl⟩
    · refine q_iconst C 3 dX4_lineWorth_39 ?_
      refine q_goto C 44 dX4_lineWorth_40 (by decide) ?_
      refine q_iadd C dX4_lineWorth_44 ?_
      refine q_iret C dX4_lineWorth_45 ?_
      exact ⟨by unfold lw LW; (first | rw [if_pos ⟨by assumption, by assumption⟩] | rw [if_neg (fun g => by first | (rw [hh10] at g; exact absurd g.1 (by decide)) | (rw [hh19] at g; exact absurd g.2 (by decide)))]); first | rw [if_pos (by omega)] | rw [if_neg (by omega)], rfl⟩

set_option maxRecDepth 100000 in
set_option maxHeartbeats 4000000 in
theorem k_X4_lineEnding (l : Launch) {w : WP} {F : FF} {r : Rw} {x : Int} (hr : F 111 = r) (hI : Iv r) (hl : 0 ≤ x ∧ x < 16) : Con l yX4_lineEnding cX4_lineEnding 2 (some .int) 2 w [.ref (adr w 110), .int (iI x)] F (QI w (fun z F' => z = le r x ∧ F = F')) := by
  refine Con.mk (lv := [(0, .ref (adr w 110)), (1, .int (iI x))]) (by decide) (Nat.le_of_ble_eq_true rfl) rfl ?_
  intro pg ev s0 mi be me co C hz
  refine q_aload_n C 0 dX4_lineEnding_0 rfl ?_
  refine q_get (T := TX4) (i := 0) C kd110 (by decide) rfl uws4 (by decide) wd_865 rfl dX4_lineEnding_1 ?_
  refine q_iconst C 0 dX4_lineEnding_4 ?_
  refine q_iload_n C 1 dX4_lineEnding_5 rfl ?_
  refine q_iadd C dX4_lineEnding_6 ?_
  refine q_iald C kd111 ⟨by omega, by rw [ln111]; omega⟩ dX4_lineEnding_7 ?_
  refine q_top (z' := r x) (by rw [hr, Int.zero_add]) ?_
  have q_0 := hI.sz (l := x) (by omega) (by omega)
  refine q_if_ne C 13 dX4_lineEnding_8 ⟨by omega, by omega⟩  (by decide) (fun h8 => ?_) (fun h8 => ?_)
  · refine q_aload_n C 0 dX4_lineEnding_13 rfl ?_
    refine q_aload_n C 0 dX4_lineEnding_14 rfl ?_
    refine q_get (T := TX4) (i := 0) C kd110 (by decide) rfl uws4 (by decide) wd_865 rfl dX4_lineEnding_15 ?_
    refine q_bipush C 112 dX4_lineEnding_18 (by decide) ?_
    refine q_iload_n C 1 dX4_lineEnding_20 rfl ?_
    refine q_iadd C dX4_lineEnding_21 ?_
    refine q_iald C kd111 ⟨by omega, by rw [ln111]; omega⟩ dX4_lineEnding_22 ?_
    refine q_top (z' := r (112 + x)) (by rw [hr]) ?_
    have q_1 := hI.ld (l := x) (by omega) (by omega)
    refine q_if_le C 40 dX4_lineEnding_23 ⟨by omega, by omega⟩  (by decide) (fun h23 => ?_) (fun h23 => ?_)
    · refine q_iload_n C 1 dX4_lineEnding_40 rfl ?_
      have qsr := src_range hI hl.1 hl.2
      have qsw := src_words hI hl.1 hl.2
      unfold src at qsr qsw
      first | rw [if_pos (by assumption)] at qsr qsw | rw [if_neg (by omega)] at qsr qsw
      refine q_cI (q_runV (As := [.int (iI x)]) (rest := []) C (k_X4_lastOf l hr (x := x) ⟨by omega, by omega⟩ (hI.sz (by omega) (by omega))) kd110 (by decide) rfl wd_981 wd_980 wd_31 wd_81 wd_978 nd_X4_lastOf rfl (by decide) ⟨Nat.zero_le _, Nat.zero_le _⟩ rfl (Nat.le_of_ble_eq_true rfl) dX4_lineEnding_41) ?_
      rintro z F' ⟨rfl, rfl⟩
      have q41 := la_word hI (l := x) (by omega) (by omega) (by omega)
      refine q_cI (q_runS (As := [.int (iI (la r x))]) (rest := []) C (k_X4_endingOf l (by omega)) wd_1028 wd_1027 wd_81 wd_1026 nd_X4_endingOf rfl (by decide) ⟨Nat.zero_le _, Nat.zero_le _⟩ rfl (Nat.le_of_ble_eq_true rfl) dX4_lineEnding_44) ?_
      rintro z F' ⟨rfl, rfl⟩
      have q44 := en_pos (x := la r x) (by omega)
      refine q_iret C dX4_lineEnding_47 ?_
      exact ⟨by unfold le; rw [if_neg (by omega)]; first | rw [if_pos (by omega)] | rw [if_neg (by omega)], rfl⟩
    · refine q_aload_n C 0 dX4_lineEnding_26 rfl ?_
      refine q_get (T := TX4) (i := 0) C kd110 (by decide) rfl uws4 (by decide) wd_865 rfl dX4_lineEnding_27 ?_
      refine q_bipush C 112 dX4_lineEnding_30 (by decide) ?_
      refine q_iload_n C 1 dX4_lineEnding_32 rfl ?_
      refine q_iadd C dX4_lineEnding_33 ?_
      refine q_iald C kd111 ⟨by omega, by rw [ln111]; omega⟩ dX4_lineEnding_34 ?_
      refine q_top (z' := r (112 + x)) (by rw [hr]) ?_
      have q_2 := hI.ld (l := x) (by omega) (by omega)
      refine q_iconst C 1 dX4_lineEnding_35 ?_
      refine q_isub C dX4_lineEnding_36 ?_
      refine q_goto C 41 dX4_lineEnding_37 (by decide) ?_
      have qsr := src_range hI hl.1 hl.2
      have qsw := src_words hI hl.1 hl.2
      unfold src at qsr qsw
      first | rw [if_pos (by assumption)] at qsr qsw | rw [if_neg (by omega)] at qsr qsw
      refine q_cI (q_runV (As := [.int (iI ((r (112 + x)) - 1))]) (rest := []) C (k_X4_lastOf l hr (x := (r (112 + x)) - 1) ⟨by omega, by omega⟩ (hI.sz (by omega) (by omega))) kd110 (by decide) rfl wd_981 wd_980 wd_31 wd_81 wd_978 nd_X4_lastOf rfl (by decide) ⟨Nat.zero_le _, Nat.zero_le _⟩ rfl (Nat.le_of_ble_eq_true rfl) dX4_lineEnding_41) ?_
      rintro z F' ⟨rfl, rfl⟩
      have q41 := la_word hI (l := (r (112 + x)) - 1) (by omega) (by omega) (by omega)
      refine q_cI (q_runS (As := [.int (iI (la r ((r (112 + x)) - 1)))]) (rest := []) C (k_X4_endingOf l (by omega)) wd_1028 wd_1027 wd_81 wd_1026 nd_X4_endingOf rfl (by decide) ⟨Nat.zero_le _, Nat.zero_le _⟩ rfl (Nat.le_of_ble_eq_true rfl) dX4_lineEnding_44) ?_
      rintro z F' ⟨rfl, rfl⟩
      have q44 := en_pos (x := la r ((r (112 + x)) - 1)) (by omega)
      refine q_iret C dX4_lineEnding_47 ?_
      exact ⟨by unfold le; rw [if_neg (by omega)]; first | rw [if_pos (by omega)] | rw [if_neg (by omega)], rfl⟩
  · refine q_iconst C (-1) dX4_lineEnding_11 ?_
    refine q_iret C dX4_lineEnding_12 ?_
    exact ⟨by unfold le; rw [if_pos (by omega)], rfl⟩

set_option maxRecDepth 100000 in
set_option maxHeartbeats 4000000 in
theorem k_X4_borrowerOf (l : Launch) {w : WP} {F : FF} {r : Rw} {x : Int} (hr : F 111 = r) (hI : Iv r) (hl : 0 ≤ x ∧ x < 16) : Con l yX4_borrowerOf cX4_borrowerOf 3 (some .int) 0 w [.ref (adr w 110), .int (iI x)] F (QI w (fun z F' => z = bor r x ∧ F = F')) := by
  refine Con.mk (lv := [(0, .ref (adr w 110)), (1, .int (iI x))]) (by decide) (Nat.le_of_ble_eq_true rfl) rfl ?_
  intro pg ev s0 mi be me co C hz
  refine q_iconst C 0 dX4_borrowerOf_0 ?_
  refine q_istore_n (lv' := [(2, .int (iI 0)), (0, .ref (adr w 110)), (1, .int (iI x))]) C dX4_borrowerOf_1 (by decide) rfl ?_
  refine q_lv (lv' := [(0, .ref (adr w 110)), (1, .int (iI x)), (2, .int (iI 0))]) [1, 2, 0] rfl ?_
  refine wf1 (P := fun (o : Int) => Wq pg l ev _ s0 mi _ be me co _ w _ _ _ 2 [(0, .ref (adr w 110)), (1, .int (iI x)), (2, .int (iI o))] [] F) (I := fun (o : Int) => 0 ≤ o ∧ o ≤ 16 ∧ ∀ i, 0 ≤ i → i < o → r (112 + i) ≠ x + 1) (μ := fun (o : Int) => (16 - o).toNat) ?_ 0 (⟨by omega, by omega, fun i a c => by omega⟩)
  intro o hI' ih2
  (try dsimp only at hI'); (try dsimp only at ih2); (try dsimp only)
  obtain ⟨ho0, ho1, ho⟩ := hI'
  refine q_iload_n C 2 dX4_borrowerOf_2 rfl ?_
  refine q_bipush C 16 dX4_borrowerOf_3 (by decide) ?_
  refine q_icmp_ge C 31 dX4_borrowerOf_5 ⟨by omega, by omega⟩ ⟨by decide, by decide⟩ (by decide) (fun h5 => ?_) (fun h5 => ?_)
  · refine q_iconst C (-1) dX4_borrowerOf_31 ?_
    refine q_iret C dX4_borrowerOf_32 ?_
    exact ⟨(fs_no (by omega) (fun i a c => decide_eq_false (ho i a (by omega)))).symm, rfl⟩
  · refine q_aload_n C 0 dX4_borrowerOf_8 rfl ?_
    refine q_get (T := TX4) (i := 0) C kd110 (by decide) rfl uws4 (by decide) wd_865 rfl dX4_borrowerOf_9 ?_
    refine q_bipush C 112 dX4_borrowerOf_12 (by decide) ?_
    refine q_iload_n C 2 dX4_borrowerOf_14 rfl ?_
    refine q_iadd C dX4_borrowerOf_15 ?_
    refine q_iald C kd111 ⟨by omega, by rw [ln111]; omega⟩ dX4_borrowerOf_16 ?_
    refine q_top (z' := r (112 + o)) (by rw [hr]) ?_
    have q_0 := hI.ld (l := o) (by omega) (by omega)
    refine q_iload_n C 1 dX4_borrowerOf_17 rfl ?_
    refine q_iconst C 1 dX4_borrowerOf_18 ?_
    refine q_iadd C dX4_borrowerOf_19 ?_
    refine q_icmp_ne C 25 dX4_borrowerOf_20 ⟨by omega, by omega⟩ ⟨by omega, by omega⟩ (by decide) (fun h20 => ?_) (fun h20 => ?_)
    · refine q_iinc (lv' := [(2, .int (iI (o + 1))), (0, .ref (adr w 110)), (1, .int (iI x))]) C 2 dX4_borrowerOf_25 rfl (by decide) rfl ?_
      refine q_goto C 2 dX4_borrowerOf_28 (by decide) ?_
      refine q_lv (lv' := [(0, .ref (adr w 110)), (1, .int (iI x)), (2, .int (iI (o + 1)))]) [1, 2, 0] rfl ?_
      exact ih2 (o + 1) (⟨by omega, by omega, fun i a c => by rcases (show i < o ∨ i = o by omega) with g | g; exact ho i a g; subst g; assumption⟩) (by omega)
    · refine q_iload_n C 2 dX4_borrowerOf_23 rfl ?_
      refine q_iret C dX4_borrowerOf_24 ?_
      exact ⟨(bor_is hI hl.1 ho0 (by omega) (by assumption)).symm, rfl⟩

set_option maxRecDepth 100000 in
set_option maxHeartbeats 4000000 in
theorem k_X4_doorWords (l : Launch) {w : WP} {F : FF} {r : Rw} {d : Int} (hr : F 111 = r) (hI : Iv r) (hd : 0 ≤ d ∧ d < 4) : Con l yX4_doorWords cX4_doorWords 4 (some .int) 0 w [.ref (adr w 110), .int (iI d)] F (QI w (fun z F' => z = dwo r d ∧ F = F')) := by
  refine Con.mk (lv := [(0, .ref (adr w 110)), (1, .int (iI d))]) (by decide) (Nat.le_of_ble_eq_true rfl) rfl ?_
  intro pg ev s0 mi be me co C hz
  refine q_iconst C 0 dX4_doorWords_0 ?_
  refine q_istore_n (lv' := [(2, .int (iI 0)), (0, .ref (adr w 110)), (1, .int (iI d))]) C dX4_doorWords_1 (by decide) rfl ?_
  refine q_iconst C 4 dX4_doorWords_2 ?_
  refine q_iload_n C 2 dX4_doorWords_3 rfl ?_
  refine q_imul C dX4_doorWords_4 ?_
  refine q_istore_n (lv' := [(3, .int (iI (4 * d))), (2, .int (iI 0)), (0, .ref (adr w 110)), (1, .int (iI d))]) C dX4_doorWords_5 (by decide) rfl ?_
  refine q_lv (lv' := [(0, .ref (adr w 110)), (1, .int (iI d)), (2, .int (iI 0)), (3, .int (iI (4 * d)))]) [2, 3, 1, 0] rfl ?_
  refine wf2 (P := fun (o : Int) (n : Int) => Wq pg l ev _ s0 mi _ be me co _ w _ _ _ 6 [(0, .ref (adr w 110)), (1, .int (iI d)), (2, .int (iI n)), (3, .int (iI o))] [] F) (I := fun (o : Int) (n : Int) => 4 * d ≤ o ∧ o ≤ 4 * d + 4 ∧ n = sm (fun i => r (4 * d + i)) (o - 4 * d)) (μ := fun (o : Int) (n : Int) => (4 * d + 4 - o).toNat) ?_ (4 * d) 0 (⟨by omega, by omega, by rw [show 4 * d - 4 * d = 0 by omega]; rfl⟩)
  intro o n hI' ih6
  (try dsimp only at hI'); (try dsimp only at ih6); (try dsimp only)
  obtain ⟨ho0, ho1, hn⟩ := hI'
  have hnr := sm_rng hI hd (o := o) (by omega) (by omega)
  refine q_iload_n C 3 dX4_doorWords_6 rfl ?_
  refine q_iconst C 4 dX4_doorWords_7 ?_
  refine q_iload_n C 1 dX4_doorWords_8 rfl ?_
  refine q_imul C dX4_doorWords_9 ?_
  refine q_iconst C 4 dX4_doorWords_10 ?_
  refine q_iadd C dX4_doorWords_11 ?_
  refine q_icmp_ge C 32 dX4_doorWords_12 ⟨by omega, by omega⟩ ⟨by omega, by omega⟩ (by decide) (fun h12 => ?_) (fun h12 => ?_)
  · refine q_iload_n C 2 dX4_doorWords_32 rfl ?_
    refine q_iret C dX4_doorWords_33 ?_
    exact ⟨by rw [hn, show o - 4 * d = 4 by omega]; rfl, rfl⟩
  · refine q_iload_n C 2 dX4_doorWords_15 rfl ?_
    refine q_aload_n C 0 dX4_doorWords_16 rfl ?_
    refine q_get (T := TX4) (i := 0) C kd110 (by decide) rfl uws4 (by decide) wd_865 rfl dX4_doorWords_17 ?_
    refine q_iconst C 0 dX4_doorWords_20 ?_
    refine q_iload_n C 3 dX4_doorWords_21 rfl ?_
    refine q_iadd C dX4_doorWords_22 ?_
    refine q_iald C kd111 ⟨by omega, by rw [ln111]; omega⟩ dX4_doorWords_23 ?_
    refine q_top (z' := r o) (by rw [hr, Int.zero_add]) ?_
    have q_0 := hI.sz (l := o) (by omega) (by omega)
    refine q_iadd C dX4_doorWords_24 ?_
    refine q_istore_n (lv' := [(2, .int (iI (n + (r o)))), (0, .ref (adr w 110)), (1, .int (iI d)), (3, .int (iI o))]) C dX4_doorWords_25 (by decide) rfl ?_
    refine q_iinc (lv' := [(3, .int (iI (o + 1))), (2, .int (iI (n + (r o)))), (0, .ref (adr w 110)), (1, .int (iI d))]) C 3 dX4_doorWords_26 rfl (by decide) rfl ?_
    refine q_goto C 6 dX4_doorWords_29 (by decide) ?_
    refine q_lv (lv' := [(0, .ref (adr w 110)), (1, .int (iI d)), (2, .int (iI (n + (r o)))), (3, .int (iI (o + 1)))]) [2, 3, 1, 0] rfl ?_
    exact ih6 (o + 1) (n + (r o)) (⟨by omega, by omega, by rw [show o + 1 - 4 * d = (o - 4 * d) + 1 by omega, sm_s (by omega), hn, show 4 * d + (o - 4 * d) = o by omega]⟩) (by omega)
