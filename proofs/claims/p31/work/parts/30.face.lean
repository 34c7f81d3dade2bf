/-! the face -/
theorem Fr.elF {F : FF} {b : Nat} {x : Int} : Fr F (elF F b x) b := fun k q => elF_k (by omega) (by omega)
theorem rem_other {r : Rw} {x l : Int} (hI : Iv r) (hx : home r x ≠ -1) (h0 : 0 ≤ l) (h1 : l < 16) (hne : home r x ≠ l) : rem r (home r x) (plc r x) l = r l := by
  obtain ⟨a, b, c, d, _⟩ := home_at hI hx
  rw [rem_sz hI ⟨a, b⟩ ⟨c, d⟩ h0 h1, if_neg (by omega)]
theorem hb11 : IsB 11 := by unfold IsB; decide
theorem kd83 : kd 83 = 7 := rfl
theorem kd84 : kd 84 = 6 := rfl
theorem ln83 : ln 83 = 2 := rfl
theorem ln84 : ln 84 = 2 := rfl
theorem mostS_range (k : Int) : 1 ≤ mostS k ∧ mostS k ≤ 200 := by unfold mostS; split <;> (try split) <;> omega
theorem bg_range {r : Rw} (hI : Iv r) : 0 ≤ bg r ∧ bg r ≤ 40 := by
  rw [← hI.cn]
  unfold cnt
  refine ⟨sm_nn (fun i _ _ => by split <;> omega), ?_⟩
  exact sm_le (c := 1) (n := 40) (by omega) (fun i _ _ => by split <;> omega)
theorem wat_W0 {r : Rw} {l p z : Int} (h : (0 ≤ p ∧ p < r l) ∧ z = wa r l p ∨ ¬ (0 ≤ p ∧ p < r l) ∧ z = -1) : z = W0 r l p := by
  unfold W0
  rcases h with ⟨a, b⟩ | ⟨a, b⟩
  · rw [if_pos a, b]
  · rw [if_neg a, b]
theorem W0_range {r : Rw} {l p : Int} (hI : Iv r) (h0 : 0 ≤ l) (h1 : l < 16) : -1 ≤ W0 r l p ∧ W0 r l p < 40 := by
  unfold W0
  split
  · rename_i h
    have := hI.wd h0 h1 h.1 h.2
    omega
  · omega
theorem rem_home_x {r : Rw} {x : Int} (hI : Iv r) (hx : home r x ≠ -1) : home (rem r (home r x) (plc r x)) x = -1 := by
  obtain ⟨a, b, c, d, e⟩ := home_at hI hx
  rw [rem_home hI ⟨a, b⟩ ⟨c, d⟩, if_pos e.symm]

set_option maxRecDepth 100000 in
set_option maxHeartbeats 4000000 in
theorem k_X3_isPlaceToPut (l : Launch) {w : WP} {F : FF} {A : AS} {d y p : Int} (hA : CI F A) (hd : inR d) (hy : inR y) (hp : inR p) : Con l yX3_isPlaceToPut cX3_isPlaceToPut 4 (some .boolean) 2 w [.ref (adr w 0), .int (iI d), .int (iI y), .int (iI p)] F (QI w (fun z F' => (z = 1 ∧ (0 ≤ d ∧ d < 4 ∧ 0 ≤ y ∧ y < 4 ∧ 0 ≤ p ∧ p ≤ A.r (4 * d + y)) ∨ z = 0 ∧ ¬ (0 ≤ d ∧ d < 4 ∧ 0 ≤ y ∧ y < 4 ∧ 0 ≤ p ∧ p ≤ A.r (4 * d + y))) ∧ F = F')) := by
  refine Con.mk (lv := [(0, .ref (adr w 0)), (1, .int (iI d)), (2, .int (iI y)), (3, .int (iI p))]) (by decide) (Nat.le_of_ble_eq_true rfl) rfl ?_
  intro pg ev s0 mi be me co C hz
  have hB := hA.b
  have hI := hB.iv
  have hJ := CJ.refl hA
  have hv := hA.v.2.2.2.1
  refine q_iload_n C 1 dX3_isPlaceToPut_0 rfl ?_
  refine q_iload_n C 2 dX3_isPlaceToPut_1 rfl ?_
  refine q_cI (q_runS (As := [.int (iI d), .int (iI y)]) (rest := []) C (k_X3_isLine l (x := d) (y := y) ⟨by omega, by omega⟩ ⟨by omega, by omega⟩) wd_301 wd_300 wd_13 wd_299 nd_X3_isLine rfl (by decide) ⟨Nat.zero_le _, Nat.zero_le _⟩ rfl (Nat.le_of_ble_eq_true rfl) dX3_isPlaceToPut_2) ?_
  rintro z F' ⟨⟨rfl, hq2⟩ | ⟨rfl, hq2⟩, rfl⟩
  · refine q_if_eq C 32 dX3_isPlaceToPut_5 ⟨by decide, by decide⟩  (by decide) (fun h => absurd h (by decide)) (fun _ => ?_)
    refine q_iload_n C 3 dX3_isPlaceToPut_8 rfl ?_
    refine q_if_lt C 32 dX3_isPlaceToPut_9 ⟨by omega, by omega⟩  (by decide) (fun h9 => ?_) (fun h9 => ?_)
    · refine q_iconst C 0 dX3_isPlaceToPut_32 ?_
      refine q_zret C dX3_isPlaceToPut_33 (by decide) ?_
      exact ⟨by omega, rfl⟩
    · refine q_iload_n C 3 dX3_isPlaceToPut_12 rfl ?_
      refine q_aload_n C 0 dX3_isPlaceToPut_13 rfl ?_
      refine q_get (T := TX3) (i := 0) C kd0 (by decide) rfl uws3 (by decide) wd_133 rfl dX3_isPlaceToPut_14 ?_
      refine q_iload_n C 1 dX3_isPlaceToPut_17 rfl ?_
      refine q_iload_n C 2 dX3_isPlaceToPut_18 rfl ?_
      refine q_cI (q_runS (As := [.int (iI d), .int (iI y)]) (rest := [.ref (adr w 1), .int (iI p)]) C (k_X3_lineNumber l) wd_308 wd_307 wd_13 wd_306 nd_X3_lineNumber rfl (by decide) ⟨Nat.zero_le _, Nat.zero_le _⟩ rfl (Nat.le_of_ble_eq_true rfl) dX3_isPlaceToPut_19) ?_
      rintro z F' ⟨rfl, rfl⟩
      refine q_cI (q_runV (As := [.int (iI (4 * d + y))]) (rest := [.int (iI p)]) C (k_X0_sizeOf l hb1 hB ⟨by omega, by omega⟩) hb1.k0 (by decide) rfl wd_461 wd_459 wd_460 wd_14 wd_458 nd_X0_sizeOf rfl (by decide) ⟨Nat.zero_le _, Nat.zero_le _⟩ rfl (Nat.le_of_ble_eq_true rfl) dX3_isPlaceToPut_22) ?_
      rintro z F' ⟨rfl, rfl⟩
      have q22 := (hI).sz (l := 4 * d + y) (by omega) (by omega)
      refine q_icmp_gt C 32 dX3_isPlaceToPut_25 ⟨by omega, by omega⟩ ⟨by omega, by omega⟩ (by decide) (fun h25 => ?_) (fun h25 => ?_)
      · refine q_iconst C 0 dX3_isPlaceToPut_32 ?_
        refine q_zret C dX3_isPlaceToPut_33 (by decide) ?_
        exact ⟨by omega, rfl⟩
      · refine q_iconst C 1 dX3_isPlaceToPut_28 ?_
        refine q_goto C 33 dX3_isPlaceToPut_29 (by decide) ?_
        refine q_zret C dX3_isPlaceToPut_33 (by decide) ?_
        exact ⟨by omega, rfl⟩
  · refine q_if_eq C 32 dX3_isPlaceToPut_5 ⟨by decide, by decide⟩  (by decide) (fun _ => ?_) (fun h => absurd h (by decide))
    refine q_iconst C 0 dX3_isPlaceToPut_32 ?_
    refine q_zret C dX3_isPlaceToPut_33 (by decide) ?_
    exact ⟨by omega, rfl⟩

set_option maxRecDepth 100000 in
set_option maxHeartbeats 4000000 in
theorem k_X3_greatestOf (l : Launch) {w : WP} {F : FF} {k : Int} (hk : 0 ≤ k ∧ k < 3) : Con l yX3_greatestOf cX3_greatestOf 1 (some .int) 0 w [.int (iI k)] F (QI w (fun z F' => z = mostS k ∧ F = F')) := by
  refine Con.mk (lv := [(0, .int (iI k))]) (by decide) (Nat.le_of_ble_eq_true rfl) rfl ?_
  intro pg ev s0 mi be me co C hz
  refine q_iload_n C 0 dX3_greatestOf_0 rfl ?_
  rcases (show k = 0 ∨ k = 1 ∨ (k ≠ 0 ∧ k ≠ 1) by omega) with hsw | hsw | hsw
  · refine q_look C 28 dX3_greatestOf_1 rfl ⟨by omega, by omega⟩ (by rw [hsw] <;> rfl) (by decide) ?_
    refine q_iconst C 1 dX3_greatestOf_28 ?_
    refine q_iret C dX3_greatestOf_29 ?_
    exact ⟨by subst hsw; rfl, rfl⟩
  · refine q_look C 30 dX3_greatestOf_1 rfl ⟨by omega, by omega⟩ (by rw [hsw] <;> rfl) (by decide) ?_
    refine q_sipush C 200 dX3_greatestOf_30 (by decide) ?_
    refine q_iret C dX3_greatestOf_33 ?_
    exact ⟨by subst hsw; rfl, rfl⟩
  · refine q_look C 34 dX3_greatestOf_1 rfl ⟨by omega, by omega⟩ (by rw [show k = 2 by omega] <;> rfl) (by decide) ?_
    refine q_bipush C 9 dX3_greatestOf_34 (by decide) ?_
    refine q_iret C dX3_greatestOf_36 ?_
    exact ⟨by rw [show k = 2 by omega]; decide, rfl⟩

set_option maxRecDepth 100000 in
set_option maxHeartbeats 4000000 in
theorem k_X3_put (l : Launch) {w : WP} {F : FF} {A : AS} {x d y p : Int} (hA : CI F A) (hx : inR x) (hd : inR d) (hy : inR y) (hp : inR p) (hT : putT A x d y p = 0) : Con l yX3_put cX3_put 7 (some .int) 4 w [.ref (adr w 0), .int (iI x), .int (iI d), .int (iI y), .int (iI p)] F (QI w (fun z F' => putT A x d y p = 0 ∧ z = putZ A x d y p ∧ CJ F F' (putN A x d y p))) := by
  refine Con.mk (lv := [(0, .ref (adr w 0)), (1, .int (iI x)), (2, .int (iI d)), (3, .int (iI y)), (4, .int (iI p))]) (by decide) (Nat.le_of_ble_eq_true rfl) rfl ?_
  intro pg ev s0 mi be me co C hz
  have hB := hA.b
  have hI := hB.iv
  have hJ := CJ.refl hA
  have hv := hA.v.2.2.2.1
  obtain ⟨hx1, hx2⟩ := id hx
  obtain ⟨hd1, hd2⟩ := id hd
  obtain ⟨hy1, hy2⟩ := id hy
  obtain ⟨hp1, hp2⟩ := id hp
  refine q_iload_n C 1 dX3_put_0 rfl ?_
  refine q_cI (q_runS (As := [.int (iI x)]) (rest := []) C (k_X3_isWord l (x := x) ⟨by omega, by omega⟩) wd_174 wd_173 wd_13 wd_172 nd_X3_isWord rfl (by decide) ⟨Nat.zero_le _, Nat.zero_le _⟩ rfl (Nat.le_of_ble_eq_true rfl) dX3_put_1) ?_
  rintro z F' ⟨⟨rfl, hq1⟩ | ⟨rfl, hq1⟩, rfl⟩
  · refine q_if_eq C 18 dX3_put_4 ⟨by decide, by decide⟩  (by decide) (fun h => absurd h (by decide)) (fun _ => ?_)
    refine q_aload_n C 0 dX3_put_7 rfl ?_
    refine q_iload_n C 2 dX3_put_8 rfl ?_
    refine q_iload_n C 3 dX3_put_9 rfl ?_
    refine q_iload C 4 dX3_put_10 rfl ?_
    refine q_cI (q_runV (As := [.int (iI d), .int (iI y), .int (iI p)]) (rest := []) C (k_X3_isPlaceToPut l hA (d := d) (y := y) (p := p) ⟨by omega, by omega⟩ ⟨by omega, by omega⟩ ⟨by omega, by omega⟩) kd0 (by decide) rfl wd_457 wd_456 wd_4 wd_13 wd_454 nd_X3_isPlaceToPut rfl (by decide) ⟨Nat.zero_le _, Nat.zero_le _⟩ rfl (Nat.le_of_ble_eq_true rfl) dX3_put_12) ?_
    rintro z F' ⟨⟨rfl, hq12⟩ | ⟨rfl, hq12⟩, rfl⟩
    · refine q_if_ne C 28 dX3_put_15 ⟨by decide, by decide⟩  (by decide) (fun _ => ?_) (fun h => absurd h (by decide))
      refine q_aload_n C 0 dX3_put_28 rfl ?_
      refine q_get (T := TX3) (i := 0) C kd0 (by decide) rfl uws3 (by decide) wd_133 rfl dX3_put_29 ?_
      refine q_iload_n C 1 dX3_put_32 rfl ?_
      refine q_cI (q_runV (As := [.int (iI x)]) (rest := []) C (k_X0_isInBag l hb1 hB (x := x) ⟨by omega, by omega⟩) hb1.k0 (by decide) rfl wd_581 wd_579 wd_580 wd_14 wd_578 nd_X0_isInBag rfl (by decide) ⟨Nat.zero_le _, Nat.zero_le _⟩ rfl (Nat.le_of_ble_eq_true rfl) dX3_put_33) ?_
      rintro z F' ⟨⟨rfl, hg33⟩ | ⟨rfl, hg33⟩, rfl⟩
      · refine q_if_ne C 49 dX3_put_36 ⟨by decide, by decide⟩  (by decide) (fun _ => ?_) (fun h => absurd h (by decide))
        refine q_aload_n C 0 dX3_put_49 rfl ?_
        refine q_get (T := TX3) (i := 2) C kd0 (by decide) rfl uws3 (by decide) wd_135 rfl dX3_put_50 ?_
        refine q_aload_n C 0 dX3_put_53 rfl ?_
        refine q_get (T := TX3) (i := 0) C kd0 (by decide) rfl uws3 (by decide) wd_133 rfl dX3_put_54 ?_
        refine q_cV (q_runV (As := [.ref (adr w 1)]) (rest := []) C (k_X1_save l (hJ).1.h (hJ).1.b) kd21 (by decide) rfl wd_601 wd_599 wd_600 wd_15 wd_598 nd_X1_save rfl (by decide) ⟨Nat.zero_le _, Nat.zero_le _⟩ rfl (Nat.le_of_ble_eq_true rfl) dX3_put_57) ?_
        rintro G1 ⟨hHG1, hfG1⟩
        have hJG1 := (hJ).sav hHG1 hfG1
        have hBG1 : BI G1 1 A.r := hJG1.1.b
        refine q_iload_n C 2 dX3_put_60 rfl ?_
        refine q_iload_n C 3 dX3_put_61 rfl ?_
        refine q_cI (q_runS (As := [.int (iI d), .int (iI y)]) (rest := []) C (k_X3_lineNumber l) wd_308 wd_307 wd_13 wd_306 nd_X3_lineNumber rfl (by decide) ⟨Nat.zero_le _, Nat.zero_le _⟩ rfl (Nat.le_of_ble_eq_true rfl) dX3_put_62) ?_
        rintro z F' ⟨rfl, rfl⟩
        refine q_istore (lv' := [(5, .int (iI (4 * d + y))), (0, .ref (adr w 0)), (1, .int (iI x)), (2, .int (iI d)), (3, .int (iI y)), (4, .int (iI p))]) C dX3_put_65 (by decide) rfl ?_
        refine q_aload_n C 1 dX3_put_67 rfl ?_
        refine q_get (T := TX3) (i := 0) C kd0 (by decide) rfl uws3 (by decide) wd_133 rfl dX3_put_68 ?_
        refine q_iload_n C 2 dX3_put_71 rfl ?_
        refine q_iload C 0 dX3_put_72 rfl ?_
        refine q_iload C 5 dX3_put_74 rfl ?_
        refine q_cI (q_runV (As := [.int (iI x), .int (iI (4 * d + y)), .int (iI p)]) (rest := []) C (k_X0_refusal l hb1 hBG1 ⟨by omega, by omega⟩ ⟨by omega, by omega⟩ ⟨by omega, by omega⟩) hb1.k0 (by decide) rfl wd_470 wd_468 wd_469 wd_14 wd_467 nd_X0_refusal rfl (by decide) ⟨Nat.zero_le _, Nat.zero_le _⟩ rfl (Nat.le_of_ble_eq_true rfl) dX3_put_76) ?_
        rintro z F' ⟨rfl, rfl⟩
        have qrr := rea_range A.r x (4 * d + y) p
        refine q_istore (lv' := [(6, .int (iI (rea A.r x (4 * d + y) p))), (5, .int (iI (4 * d + y))), (0, .ref (adr w 0)), (1, .int (iI x)), (2, .int (iI d)), (3, .int (iI y)), (4, .int (iI p))]) C dX3_put_79 (by decide) rfl ?_
        refine q_iload C 0 dX3_put_81 rfl ?_
        refine q_if_eq C 102 dX3_put_83 ⟨by omega, by omega⟩  (by decide) (fun h83 => ?_) (fun h83 => ?_)
        · have qlt := rea_lt hI (l := 4 * d + y) ⟨by omega, by omega⟩ h83
          refine q_aload_n C 2 dX3_put_102 rfl ?_
          refine q_get (T := TX3) (i := 0) C kd0 (by decide) rfl uws3 (by decide) wd_133 rfl dX3_put_103 ?_
          refine q_iload_n C 3 dX3_put_106 rfl ?_
          refine q_iload C 1 dX3_put_107 rfl ?_
          refine q_iload C 6 dX3_put_109 rfl ?_
          refine q_cV (q_runV (As := [.int (iI x), .int (iI (4 * d + y)), .int (iI p)]) (rest := []) C (k_X0_insertWord l hb1 hBG1 (x := x) (y := 4 * d + y) (q := p) ⟨by omega, by omega⟩ (by first | assumption | (rw [rem_home_x hI (by assumption)])) ⟨by omega, by omega⟩ ⟨by omega, by omega⟩ (by omega)) hb1.k0 (by decide) rfl wd_610 wd_608 wd_609 wd_14 wd_607 nd_X0_insertWord rfl (by decide) ⟨Nat.zero_le _, Nat.zero_le _⟩ rfl (Nat.le_of_ble_eq_true rfl) dX3_put_111) ?_
          rintro G2 ⟨hEG2, hfG2⟩
          have hJG2 := (hJG1).wr hEG2 hfG2 (nb_ins (hJG1).1.v.1 ⟨by omega, by omega⟩ ⟨by omega, by omega⟩ (by omega))
          have hIs := hEG2.iv
          refine q_aload_n C 2 dX3_put_114 rfl ?_
          refine q_get (T := TX3) (i := 0) C kd0 (by decide) rfl uws3 (by decide) wd_133 rfl dX3_put_115 ?_
          refine q_dup C dX3_put_118 rfl ?_
          refine q_getN (T := TX0) (i := 11) C hb1.k0 (by decide) rfl uws0 (by decide) nw_57 rfl dX3_put_119 ?_
          refine q_iconst C 1 dX3_put_122 ?_
          refine q_iadd C dX3_put_123 ?_
          refine q_putN (T := TX0) (tyX := tyX0) (i := 11) (j := 11) (z := ((G2 1 11) + 1)) (ty := .int) C rfl hb1.k0 (by decide) rfl uws0 tyX0_ok nmX0 (by decide) (kd_ln.1 hb1.k0) nw_57 rfl rfl rfl rfl (fsS_0_11 w _ _ _) (Nat.le_of_ble_eq_true rfl) dX3_put_124 ?_
          refine q_iconst C 0 dX3_put_127 ?_
          refine q_iret C dX3_put_128 ?_
          exact ⟨hT, (by unfold putZ; omega), (by unfold putN; rw [if_pos (by omega)]; exact (hJG2).pt)⟩
        · refine q_aload_n C 2 dX3_put_86 rfl ?_
          refine q_get (T := TX3) (i := 0) C kd0 (by decide) rfl uws3 (by decide) wd_133 rfl dX3_put_87 ?_
          refine q_dup C dX3_put_90 rfl ?_
          refine q_getN (T := TX0) (i := 12) C hb1.k0 (by decide) rfl uws0 (by decide) nw_58 rfl dX3_put_91 ?_
          refine q_iconst C 1 dX3_put_94 ?_
          refine q_iadd C dX3_put_95 ?_
          refine q_putN (T := TX0) (tyX := tyX0) (i := 12) (j := 12) (z := ((G1 1 12) + 1)) (ty := .int) C rfl hb1.k0 (by decide) rfl uws0 tyX0_ok nmX0 (by decide) (kd_ln.1 hb1.k0) nw_58 rfl rfl rfl rfl (fsS_0_12 w _ _ _) (Nat.le_of_ble_eq_true rfl) dX3_put_96 ?_
          refine q_iload C 0 dX3_put_99 rfl ?_
          refine q_iret C dX3_put_101 ?_
          exact ⟨hT, (by unfold putZ; rfl), (by unfold putN; rw [if_neg (by omega)]; exact (hJG1).rf)⟩
      · refine q_if_ne C 49 dX3_put_36 ⟨by decide, by decide⟩  (by decide) (fun h => absurd h (by decide)) (fun _ => ?_)
        exact absurd (hT.symm.trans (show putT A x d y p = 2 from (by unfold putT; rw [if_neg (by omega), if_pos (by omega)]))) (by decide)
    · refine q_if_ne C 28 dX3_put_15 ⟨by decide, by decide⟩  (by decide) (fun h => absurd h (by decide)) (fun _ => ?_)
      exact absurd (hT.symm.trans (show putT A x d y p = 1 from (by unfold putT; rw [if_pos (by omega)]))) (by decide)
  · refine q_if_eq C 18 dX3_put_4 ⟨by decide, by decide⟩  (by decide) (fun _ => ?_) (fun h => absurd h (by decide))
    exact absurd (hT.symm.trans (show putT A x d y p = 1 from (by unfold putT; rw [if_pos (by omega)]))) (by decide)

set_option maxRecDepth 100000 in
set_option maxHeartbeats 4000000 in
theorem k_X3_takeOff (l : Launch) {w : WP} {F : FF} {A : AS} {x : Int} (hA : CI F A) (hx : inR x) (hT : takeOffT A x = 0) : Con l yX3_takeOff cX3_takeOff 3 (some .int) 4 w [.ref (adr w 0), .int (iI x)] F (QI w (fun z F' => takeOffT A x = 0 ∧ z = takeOffZ A x ∧ CJ F F' (takeOffN A x))) := by
  refine Con.mk (lv := [(0, .ref (adr w 0)), (1, .int (iI x))]) (by decide) (Nat.le_of_ble_eq_true rfl) rfl ?_
  intro pg ev s0 mi be me co C hz
  have hB := hA.b
  have hI := hB.iv
  have hJ := CJ.refl hA
  have hv := hA.v.2.2.2.1
  obtain ⟨hx1, hx2⟩ := id hx
  refine q_iload_n C 1 dX3_takeOff_0 rfl ?_
  refine q_cI (q_runS (As := [.int (iI x)]) (rest := []) C (k_X3_isWord l (x := x) ⟨by omega, by omega⟩) wd_174 wd_173 wd_13 wd_172 nd_X3_isWord rfl (by decide) ⟨Nat.zero_le _, Nat.zero_le _⟩ rfl (Nat.le_of_ble_eq_true rfl) dX3_takeOff_1) ?_
  rintro z F' ⟨⟨rfl, hq1⟩ | ⟨rfl, hq1⟩, rfl⟩
  · refine q_if_ne C 17 dX3_takeOff_4 ⟨by decide, by decide⟩  (by decide) (fun _ => ?_) (fun h => absurd h (by decide))
    refine q_aload_n C 0 dX3_takeOff_17 rfl ?_
    refine q_get (T := TX3) (i := 0) C kd0 (by decide) rfl uws3 (by decide) wd_133 rfl dX3_takeOff_18 ?_
    refine q_iload_n C 1 dX3_takeOff_21 rfl ?_
    refine q_cI (q_runV (As := [.int (iI x)]) (rest := []) C (k_X0_isInBag l hb1 hB (x := x) ⟨by omega, by omega⟩) hb1.k0 (by decide) rfl wd_581 wd_579 wd_580 wd_14 wd_578 nd_X0_isInBag rfl (by decide) ⟨Nat.zero_le _, Nat.zero_le _⟩ rfl (Nat.le_of_ble_eq_true rfl) dX3_takeOff_22) ?_
    rintro z F' ⟨⟨rfl, hg22⟩ | ⟨rfl, hg22⟩, rfl⟩
    · refine q_if_eq C 38 dX3_takeOff_25 ⟨by decide, by decide⟩  (by decide) (fun h => absurd h (by decide)) (fun _ => ?_)
      exact absurd (hT.symm.trans (show takeOffT A x = 2 from (by unfold takeOffT; rw [if_neg (by omega), if_pos (by omega)]))) (by decide)
    · refine q_if_eq C 38 dX3_takeOff_25 ⟨by decide, by decide⟩  (by decide) (fun _ => ?_) (fun h => absurd h (by decide))
      refine q_aload_n C 0 dX3_takeOff_38 rfl ?_
      refine q_get (T := TX3) (i := 2) C kd0 (by decide) rfl uws3 (by decide) wd_135 rfl dX3_takeOff_39 ?_
      refine q_aload_n C 0 dX3_takeOff_42 rfl ?_
      refine q_get (T := TX3) (i := 0) C kd0 (by decide) rfl uws3 (by decide) wd_133 rfl dX3_takeOff_43 ?_
      refine q_cV (q_runV (As := [.ref (adr w 1)]) (rest := []) C (k_X1_save l (hJ).1.h (hJ).1.b) kd21 (by decide) rfl wd_601 wd_599 wd_600 wd_15 wd_598 nd_X1_save rfl (by decide) ⟨Nat.zero_le _, Nat.zero_le _⟩ rfl (Nat.le_of_ble_eq_true rfl) dX3_takeOff_46) ?_
      rintro G1 ⟨hHG1, hfG1⟩
      have hJG1 := (hJ).sav hHG1 hfG1
      have hBG1 : BI G1 1 A.r := hJG1.1.b
      refine q_aload_n C 0 dX3_takeOff_49 rfl ?_
      refine q_get (T := TX3) (i := 0) C kd0 (by decide) rfl uws3 (by decide) wd_133 rfl dX3_takeOff_50 ?_
      refine q_iload_n C 1 dX3_takeOff_53 rfl ?_
      refine q_cI (q_runV (As := [.int (iI x)]) (rest := []) C (k_X0_homeOf l hb1 hBG1 ⟨by omega, by omega⟩) hb1.k0 (by decide) rfl wd_466 wd_464 wd_465 wd_14 wd_463 nd_X0_homeOf rfl (by decide) ⟨Nat.zero_le _, Nat.zero_le _⟩ rfl (Nat.le_of_ble_eq_true rfl) dX3_takeOff_54) ?_
      rintro z F' ⟨rfl, rfl⟩
      have q54 := home_range A.r x
      refine q_istore_n (lv' := [(2, .int (iI (home A.r x))), (0, .ref (adr w 0)), (1, .int (iI x))]) C dX3_takeOff_57 (by decide) rfl ?_
      refine q_aload_n C 1 dX3_takeOff_58 rfl ?_
      refine q_get (T := TX3) (i := 0) C kd0 (by decide) rfl uws3 (by decide) wd_133 rfl dX3_takeOff_59 ?_
      refine q_iload_n C 2 dX3_takeOff_62 rfl ?_
      refine q_cV (q_runV (As := [.int (iI x)]) (rest := []) C (k_X0_removeWord l hb1 hBG1 (x := x) ⟨by omega, by omega⟩ (by omega)) hb1.k0 (by decide) rfl wd_551 wd_549 wd_550 wd_14 wd_619 nd_X0_removeWord rfl (by decide) ⟨Nat.zero_le _, Nat.zero_le _⟩ rfl (Nat.le_of_ble_eq_true rfl) dX3_takeOff_63) ?_
      rintro G2 ⟨hEG2, hfG2⟩
      have hJG2 := (hJG1).wr hEG2 hfG2 (nb_rem (hJG1).1.v.1 hI (by omega))
      have hIs := hEG2.iv
      refine q_iload_n C 0 dX3_takeOff_66 rfl ?_
      refine q_cI (q_runS (As := [.int (iI (home A.r x))]) (rest := []) C (k_X3_lineCode l ⟨by omega, by omega⟩) wd_334 wd_333 wd_13 wd_620 nd_X3_lineCode rfl (by decide) ⟨Nat.zero_le _, Nat.zero_le _⟩ rfl (Nat.le_of_ble_eq_true rfl) dX3_takeOff_67) ?_
      rintro z F' ⟨rfl, rfl⟩
      refine q_iret C dX3_takeOff_70 ?_
      exact ⟨hT, rfl, hJG2⟩
  · refine q_if_ne C 17 dX3_takeOff_4 ⟨by decide, by decide⟩  (by decide) (fun h => absurd h (by decide)) (fun _ => ?_)
    exact absurd (hT.symm.trans (show takeOffT A x = 1 from (by unfold takeOffT; rw [if_pos (by omega)]))) (by decide)

set_option maxRecDepth 100000 in
set_option maxHeartbeats 4000000 in
theorem k_X3_move (l : Launch) {w : WP} {F : FF} {A : AS} {x d y : Int} (hA : CI F A) (hx : inR x) (hd : inR d) (hy : inR y) (hT : moveT A x d y = 0) : Con l yX3_move cX3_move 7 (some .int) 4 w [.ref (adr w 0), .int (iI x), .int (iI d), .int (iI y)] F (QI w (fun z F' => moveT A x d y = 0 ∧ z = moveZ A x d y ∧ CJ F F' (moveN A x d y))) := by
  refine Con.mk (lv := [(0, .ref (adr w 0)), (1, .int (iI x)), (2, .int (iI d)), (3, .int (iI y))]) (by decide) (Nat.le_of_ble_eq_true rfl) rfl ?_
  intro pg ev s0 mi be me co C hz
  have hB := hA.b
  have hI := hB.iv
  have hJ := CJ.refl hA
  have hv := hA.v.2.2.2.1
  obtain ⟨hx1, hx2⟩ := id hx
  obtain ⟨hd1, hd2⟩ := id hd
  obtain ⟨hy1, hy2⟩ := id hy
  refine q_iload_n C 1 dX3_move_0 rfl ?_
  refine q_cI (q_runS (As := [.int (iI x)]) (rest := []) C (k_X3_isWord l (x := x) ⟨by omega, by omega⟩) wd_174 wd_173 wd_13 wd_172 nd_X3_isWord rfl (by decide) ⟨Nat.zero_le _, Nat.zero_le _⟩ rfl (Nat.le_of_ble_eq_true rfl) dX3_move_1) ?_
  rintro z F' ⟨⟨rfl, hq1⟩ | ⟨rfl, hq1⟩, rfl⟩
  · refine q_if_eq C 15 dX3_move_4 ⟨by decide, by decide⟩  (by decide) (fun h => absurd h (by decide)) (fun _ => ?_)
    refine q_iload_n C 2 dX3_move_7 rfl ?_
    refine q_iload_n C 3 dX3_move_8 rfl ?_
    refine q_cI (q_runS (As := [.int (iI d), .int (iI y)]) (rest := []) C (k_X3_isLine l (x := d) (y := y) ⟨by omega, by omega⟩ ⟨by omega, by omega⟩) wd_301 wd_300 wd_13 wd_299 nd_X3_isLine rfl (by decide) ⟨Nat.zero_le _, Nat.zero_le _⟩ rfl (Nat.le_of_ble_eq_true rfl) dX3_move_9) ?_
    rintro z F' ⟨⟨rfl, hq9⟩ | ⟨rfl, hq9⟩, rfl⟩
    · refine q_if_ne C 25 dX3_move_12 ⟨by decide, by decide⟩  (by decide) (fun _ => ?_) (fun h => absurd h (by decide))
      refine q_iload_n C 2 dX3_move_25 rfl ?_
      refine q_iload_n C 3 dX3_move_26 rfl ?_
      refine q_cI (q_runS (As := [.int (iI d), .int (iI y)]) (rest := []) C (k_X3_lineNumber l) wd_308 wd_307 wd_13 wd_306 nd_X3_lineNumber rfl (by decide) ⟨Nat.zero_le _, Nat.zero_le _⟩ rfl (Nat.le_of_ble_eq_true rfl) dX3_move_27) ?_
      rintro z F' ⟨rfl, rfl⟩
      refine q_istore (lv' := [(4, .int (iI (4 * d + y))), (0, .ref (adr w 0)), (1, .int (iI x)), (2, .int (iI d)), (3, .int (iI y))]) C dX3_move_30 (by decide) rfl ?_
      refine q_aload_n C 1 dX3_move_32 rfl ?_
      refine q_get (T := TX3) (i := 0) C kd0 (by decide) rfl uws3 (by decide) wd_133 rfl dX3_move_33 ?_
      refine q_iload_n C 2 dX3_move_36 rfl ?_
      refine q_cI (q_runV (As := [.int (iI x)]) (rest := []) C (k_X0_isInBag l hb1 hB (x := x) ⟨by omega, by omega⟩) hb1.k0 (by decide) rfl wd_581 wd_579 wd_580 wd_14 wd_578 nd_X0_isInBag rfl (by decide) ⟨Nat.zero_le _, Nat.zero_le _⟩ rfl (Nat.le_of_ble_eq_true rfl) dX3_move_37) ?_
      rintro z F' ⟨⟨rfl, hg37⟩ | ⟨rfl, hg37⟩, rfl⟩
      · refine q_if_ne C 56 dX3_move_40 ⟨by decide, by decide⟩  (by decide) (fun _ => ?_) (fun h => absurd h (by decide))
        exact absurd (hT.symm.trans (show moveT A x d y = 2 from (by unfold moveT; rw [if_neg (by omega), if_pos (by omega)]))) (by decide)
      · refine q_if_ne C 56 dX3_move_40 ⟨by decide, by decide⟩  (by decide) (fun h => absurd h (by decide)) (fun _ => ?_)
        refine q_aload_n C 1 dX3_move_43 rfl ?_
        refine q_get (T := TX3) (i := 0) C kd0 (by decide) rfl uws3 (by decide) wd_133 rfl dX3_move_44 ?_
        refine q_iload_n C 2 dX3_move_47 rfl ?_
        refine q_cI (q_runV (As := [.int (iI x)]) (rest := []) C (k_X0_homeOf l hb1 hB ⟨by omega, by omega⟩) hb1.k0 (by decide) rfl wd_466 wd_464 wd_465 wd_14 wd_463 nd_X0_homeOf rfl (by decide) ⟨Nat.zero_le _, Nat.zero_le _⟩ rfl (Nat.le_of_ble_eq_true rfl) dX3_move_48) ?_
        rintro z F' ⟨rfl, rfl⟩
        have q48 := home_range A.r x
        refine q_iload C 0 dX3_move_51 rfl ?_
        refine q_icmp_ne C 66 dX3_move_53 ⟨by omega, by omega⟩ ⟨by omega, by omega⟩ (by decide) (fun h53 => ?_) (fun h53 => ?_)
        · refine q_aload_n C 1 dX3_move_66 rfl ?_
          refine q_get (T := TX3) (i := 2) C kd0 (by decide) rfl uws3 (by decide) wd_135 rfl dX3_move_67 ?_
          refine q_aload_n C 1 dX3_move_70 rfl ?_
          refine q_get (T := TX3) (i := 0) C kd0 (by decide) rfl uws3 (by decide) wd_133 rfl dX3_move_71 ?_
          refine q_cV (q_runV (As := [.ref (adr w 1)]) (rest := []) C (k_X1_save l (hJ).1.h (hJ).1.b) kd21 (by decide) rfl wd_601 wd_599 wd_600 wd_15 wd_598 nd_X1_save rfl (by decide) ⟨Nat.zero_le _, Nat.zero_le _⟩ rfl (Nat.le_of_ble_eq_true rfl) dX3_move_74) ?_
          rintro G1 ⟨hHG1, hfG1⟩
          have hJG1 := (hJ).sav hHG1 hfG1
          have hBG1 : BI G1 1 A.r := hJG1.1.b
          refine q_aload_n C 1 dX3_move_77 rfl ?_
          refine q_get (T := TX3) (i := 0) C kd0 (by decide) rfl uws3 (by decide) wd_133 rfl dX3_move_78 ?_
          refine q_iload C 0 dX3_move_81 rfl ?_
          refine q_cI (q_runV (As := [.int (iI (4 * d + y))]) (rest := []) C (k_X0_sizeOf l hb1 hBG1 ⟨by omega, by omega⟩) hb1.k0 (by decide) rfl wd_461 wd_459 wd_460 wd_14 wd_458 nd_X0_sizeOf rfl (by decide) ⟨Nat.zero_le _, Nat.zero_le _⟩ rfl (Nat.le_of_ble_eq_true rfl) dX3_move_83) ?_
          rintro z F' ⟨rfl, rfl⟩
          have q83 := (hI).sz (l := 4 * d + y) (by omega) (by omega)
          refine q_istore (lv' := [(5, .int (iI (A.r (4 * d + y)))), (4, .int (iI (4 * d + y))), (0, .ref (adr w 0)), (1, .int (iI x)), (2, .int (iI d)), (3, .int (iI y))]) C dX3_move_86 (by decide) rfl ?_
          refine q_aload_n C 2 dX3_move_88 rfl ?_
          refine q_get (T := TX3) (i := 0) C kd0 (by decide) rfl uws3 (by decide) wd_133 rfl dX3_move_89 ?_
          refine q_iload_n C 3 dX3_move_92 rfl ?_
          refine q_iload C 1 dX3_move_93 rfl ?_
          refine q_iload C 0 dX3_move_95 rfl ?_
          refine q_cI (q_runV (As := [.int (iI x), .int (iI (4 * d + y)), .int (iI (A.r (4 * d + y)))]) (rest := []) C (k_X0_refusal l hb1 hBG1 ⟨by omega, by omega⟩ ⟨by omega, by omega⟩ ⟨by omega, by omega⟩) hb1.k0 (by decide) rfl wd_470 wd_468 wd_469 wd_14 wd_467 nd_X0_refusal rfl (by decide) ⟨Nat.zero_le _, Nat.zero_le _⟩ rfl (Nat.le_of_ble_eq_true rfl) dX3_move_97) ?_
          rintro z F' ⟨rfl, rfl⟩
          have qrr := rea_range A.r x (4 * d + y) (A.r (4 * d + y))
          refine q_istore (lv' := [(6, .int (iI (rea A.r x (4 * d + y) (A.r (4 * d + y))))), (5, .int (iI (A.r (4 * d + y)))), (4, .int (iI (4 * d + y))), (0, .ref (adr w 0)), (1, .int (iI x)), (2, .int (iI d)), (3, .int (iI y))]) C dX3_move_100 (by decide) rfl ?_
          refine q_iload C 0 dX3_move_102 rfl ?_
          refine q_if_eq C 123 dX3_move_104 ⟨by omega, by omega⟩  (by decide) (fun h104 => ?_) (fun h104 => ?_)
          · have qlt := rea_lt hI (l := 4 * d + y) ⟨by omega, by omega⟩ h104
            refine q_aload_n C 3 dX3_move_123 rfl ?_
            refine q_get (T := TX3) (i := 0) C kd0 (by decide) rfl uws3 (by decide) wd_133 rfl dX3_move_124 ?_
            refine q_iload_n C 4 dX3_move_127 rfl ?_
            refine q_cV (q_runV (As := [.int (iI x)]) (rest := []) C (k_X0_removeWord l hb1 hBG1 (x := x) ⟨by omega, by omega⟩ (by omega)) hb1.k0 (by decide) rfl wd_551 wd_549 wd_550 wd_14 wd_619 nd_X0_removeWord rfl (by decide) ⟨Nat.zero_le _, Nat.zero_le _⟩ rfl (Nat.le_of_ble_eq_true rfl) dX3_move_128) ?_
            rintro G2 ⟨hEG2, hfG2⟩
            have hJG2 := (hJG1).wr hEG2 hfG2 (nb_rem (hJG1).1.v.1 hI (by omega))
            have hIs := hEG2.iv
            have qro := rem_other hI (x := x) (by omega) (l := 4 * d + y) (by omega) (by omega) (by omega)
            refine q_aload_n C 3 dX3_move_131 rfl ?_
            refine q_get (T := TX3) (i := 0) C kd0 (by decide) rfl uws3 (by decide) wd_133 rfl dX3_move_132 ?_
            refine q_iload_n C 4 dX3_move_135 rfl ?_
            refine q_iload C 2 dX3_move_136 rfl ?_
            refine q_iload C 1 dX3_move_138 rfl ?_
            refine q_cV (q_runV (As := [.int (iI x), .int (iI (4 * d + y)), .int (iI (A.r (4 * d + y)))]) (rest := []) C (k_X0_insertWord l hb1 hEG2 (x := x) (y := 4 * d + y) (q := A.r (4 * d + y)) ⟨by omega, by omega⟩ (by first | assumption | (rw [rem_home_x hI (by assumption)])) ⟨by omega, by omega⟩ ⟨by omega, by omega⟩ (by omega)) hb1.k0 (by decide) rfl wd_610 wd_608 wd_609 wd_14 wd_607 nd_X0_insertWord rfl (by decide) ⟨Nat.zero_le _, Nat.zero_le _⟩ rfl (Nat.le_of_ble_eq_true rfl) dX3_move_140) ?_
            rintro G3 ⟨hEG3, hfG3⟩
            have hJG3 := (hJG2).wr hEG3 hfG3 (nb_ins (hJG2).1.v.1 ⟨by omega, by omega⟩ ⟨by omega, by omega⟩ (by omega))
            have hIs := hEG3.iv
            refine q_aload_n C 3 dX3_move_143 rfl ?_
            refine q_get (T := TX3) (i := 0) C kd0 (by decide) rfl uws3 (by decide) wd_133 rfl dX3_move_144 ?_
            refine q_dup C dX3_move_147 rfl ?_
            refine q_getN (T := TX0) (i := 11) C hb1.k0 (by decide) rfl uws0 (by decide) nw_57 rfl dX3_move_148 ?_
            refine q_iconst C 1 dX3_move_151 ?_
            refine q_iadd C dX3_move_152 ?_
            refine q_putN (T := TX0) (tyX := tyX0) (i := 11) (j := 11) (z := ((G3 1 11) + 1)) (ty := .int) C rfl hb1.k0 (by decide) rfl uws0 tyX0_ok nmX0 (by decide) (kd_ln.1 hb1.k0) nw_57 rfl rfl rfl rfl (fsS_0_11 w _ _ _) (Nat.le_of_ble_eq_true rfl) dX3_move_153 ?_
            refine q_iconst C 0 dX3_move_156 ?_
            refine q_iret C dX3_move_157 ?_
            exact ⟨hT, (by unfold moveZ; omega), (by unfold moveN; rw [if_pos (by omega)]; exact (hJG3).pt)⟩
          · refine q_aload_n C 3 dX3_move_107 rfl ?_
            refine q_get (T := TX3) (i := 0) C kd0 (by decide) rfl uws3 (by decide) wd_133 rfl dX3_move_108 ?_
            refine q_dup C dX3_move_111 rfl ?_
            refine q_getN (T := TX0) (i := 12) C hb1.k0 (by decide) rfl uws0 (by decide) nw_58 rfl dX3_move_112 ?_
            refine q_iconst C 1 dX3_move_115 ?_
            refine q_iadd C dX3_move_116 ?_
            refine q_putN (T := TX0) (tyX := tyX0) (i := 12) (j := 12) (z := ((G1 1 12) + 1)) (ty := .int) C rfl hb1.k0 (by decide) rfl uws0 tyX0_ok nmX0 (by decide) (kd_ln.1 hb1.k0) nw_58 rfl rfl rfl rfl (fsS_0_12 w _ _ _) (Nat.le_of_ble_eq_true rfl) dX3_move_117 ?_
            refine q_iload C 0 dX3_move_120 rfl ?_
            refine q_iret C dX3_move_122 ?_
            exact ⟨hT, (by unfold moveZ; rfl), (by unfold moveN; rw [if_neg (by omega)]; exact (hJG1).rf)⟩
        · exact absurd (hT.symm.trans (show moveT A x d y = 2 from (by unfold moveT; rw [if_neg (by omega), if_pos (by omega)]))) (by decide)
    · refine q_if_ne C 25 dX3_move_12 ⟨by decide, by decide⟩  (by decide) (fun h => absurd h (by decide)) (fun _ => ?_)
      exact absurd (hT.symm.trans (show moveT A x d y = 1 from (by unfold moveT; rw [if_pos (by omega)]))) (by decide)
  · refine q_if_eq C 15 dX3_move_4 ⟨by decide, by decide⟩  (by decide) (fun _ => ?_) (fun h => absurd h (by decide))
    exact absurd (hT.symm.trans (show moveT A x d y = 1 from (by unfold moveT; rw [if_pos (by omega)]))) (by decide)

set_option maxRecDepth 100000 in
set_option maxHeartbeats 4000000 in
theorem k_X3_clearDoor (l : Launch) {w : WP} {F : FF} {A : AS} {d : Int} (hA : CI F A) (hd : inR d) (hT : clearDoorT A d = 0) : Con l yX3_clearDoor cX3_clearDoor 2 (some .int) 5 w [.ref (adr w 0), .int (iI d)] F (QI w (fun z F' => clearDoorT A d = 0 ∧ z = clearDoorZ A d ∧ CJ F F' (clearDoorN A d))) := by
  refine Con.mk (lv := [(0, .ref (adr w 0)), (1, .int (iI d))]) (by decide) (Nat.le_of_ble_eq_true rfl) rfl ?_
  intro pg ev s0 mi be me co C hz
  have hB := hA.b
  have hI := hB.iv
  have hJ := CJ.refl hA
  have hv := hA.v.2.2.2.1
  obtain ⟨hd1, hd2⟩ := id hd
  refine q_iload_n C 1 dX3_clearDoor_0 rfl ?_
  refine q_cI (q_runS (As := [.int (iI d)]) (rest := []) C (k_X3_isDoor l (x := d) ⟨by omega, by omega⟩) wd_304 wd_303 wd_13 wd_302 nd_X3_isDoor rfl (by decide) ⟨Nat.zero_le _, Nat.zero_le _⟩ rfl (Nat.le_of_ble_eq_true rfl) dX3_clearDoor_1) ?_
  rintro z F' ⟨⟨rfl, hq1⟩ | ⟨rfl, hq1⟩, rfl⟩
  · refine q_if_ne C 17 dX3_clearDoor_4 ⟨by decide, by decide⟩  (by decide) (fun _ => ?_) (fun h => absurd h (by decide))
    refine q_aload_n C 0 dX3_clearDoor_17 rfl ?_
    refine q_get (T := TX3) (i := 2) C kd0 (by decide) rfl uws3 (by decide) wd_135 rfl dX3_clearDoor_18 ?_
    refine q_aload_n C 0 dX3_clearDoor_21 rfl ?_
    refine q_get (T := TX3) (i := 0) C kd0 (by decide) rfl uws3 (by decide) wd_133 rfl dX3_clearDoor_22 ?_
    refine q_cV (q_runV (As := [.ref (adr w 1)]) (rest := []) C (k_X1_save l (hJ).1.h (hJ).1.b) kd21 (by decide) rfl wd_601 wd_599 wd_600 wd_15 wd_598 nd_X1_save rfl (by decide) ⟨Nat.zero_le _, Nat.zero_le _⟩ rfl (Nat.le_of_ble_eq_true rfl) dX3_clearDoor_25) ?_
    rintro G1 ⟨hHG1, hfG1⟩
    have hJG1 := (hJ).sav hHG1 hfG1
    have hBG1 : BI G1 1 A.r := hJG1.1.b
    refine q_aload_n C 0 dX3_clearDoor_28 rfl ?_
    refine q_get (T := TX3) (i := 0) C kd0 (by decide) rfl uws3 (by decide) wd_133 rfl dX3_clearDoor_29 ?_
    refine q_iload_n C 1 dX3_clearDoor_32 rfl ?_
    refine q_cI (q_runV (As := [.int (iI d)]) (rest := []) C (k_X0_emptyDoor l hb1 hBG1 ⟨by omega, by omega⟩) hb1.k0 (by decide) rfl wd_640 wd_638 wd_639 wd_14 wd_637 nd_X0_emptyDoor rfl (by decide) ⟨Nat.zero_le _, Nat.zero_le _⟩ rfl (Nat.le_of_ble_eq_true rfl) dX3_clearDoor_33) ?_
    rintro z G2 ⟨rfl, hEG2, hfG2⟩
    have hJG2 := (hJG1).wr hEG2 hfG2 (nb_clr (hJG1).1.v.1 ⟨by omega, by omega⟩)
    have hIs := hEG2.iv
    refine q_iret C dX3_clearDoor_36 ?_
    exact ⟨hT, rfl, hJG2⟩
  · refine q_if_ne C 17 dX3_clearDoor_4 ⟨by decide, by decide⟩  (by decide) (fun h => absurd h (by decide)) (fun _ => ?_)
    exact absurd (hT.symm.trans (show clearDoorT A d = 1 from (by unfold clearDoorT; rw [if_pos (by omega)]))) (by decide)

set_option maxRecDepth 100000 in
set_option maxHeartbeats 4000000 in
theorem k_X3_borrow (l : Launch) {w : WP} {F : FF} {A : AS} {d y e g : Int} (hA : CI F A) (hd : inR d) (hy : inR y) (he : inR e) (hg : inR g) (hT : borrowT A d y e g = 0) : Con l yX3_borrow cX3_borrow 7 (some .int) 3 w [.ref (adr w 0), .int (iI d), .int (iI y), .int (iI e), .int (iI g)] F (QI w (fun z F' => borrowT A d y e g = 0 ∧ z = borrowZ A d y e g ∧ CJ F F' (borrowN A d y e g))) := by
  refine Con.mk (lv := [(0, .ref (adr w 0)), (1, .int (iI d)), (2, .int (iI y)), (3, .int (iI e)), (4, .int (iI g))]) (by decide) (Nat.le_of_ble_eq_true rfl) rfl ?_
  intro pg ev s0 mi be me co C hz
  have hB := hA.b
  have hI := hB.iv
  have hJ := CJ.refl hA
  have hv := hA.v.2.2.2.1
  obtain ⟨hd1, hd2⟩ := id hd
  obtain ⟨hy1, hy2⟩ := id hy
  obtain ⟨he1, he2⟩ := id he
  obtain ⟨hg1, hg2⟩ := id hg
  refine q_iload_n C 1 dX3_borrow_0 rfl ?_
  refine q_iload_n C 2 dX3_borrow_1 rfl ?_
  refine q_cI (q_runS (As := [.int (iI d), .int (iI y)]) (rest := []) C (k_X3_isLine l (x := d) (y := y) ⟨by omega, by omega⟩ ⟨by omega, by omega⟩) wd_301 wd_300 wd_13 wd_299 nd_X3_isLine rfl (by decide) ⟨Nat.zero_le _, Nat.zero_le _⟩ rfl (Nat.le_of_ble_eq_true rfl) dX3_borrow_2) ?_
  rintro z F' ⟨⟨rfl, hq2⟩ | ⟨rfl, hq2⟩, rfl⟩
  · refine q_if_eq C 17 dX3_borrow_5 ⟨by decide, by decide⟩  (by decide) (fun h => absurd h (by decide)) (fun _ => ?_)
    refine q_iload_n C 3 dX3_borrow_8 rfl ?_
    refine q_iload C 4 dX3_borrow_9 rfl ?_
    refine q_cI (q_runS (As := [.int (iI e), .int (iI g)]) (rest := []) C (k_X3_isLine l (x := e) (y := g) ⟨by omega, by omega⟩ ⟨by omega, by omega⟩) wd_301 wd_300 wd_13 wd_299 nd_X3_isLine rfl (by decide) ⟨Nat.zero_le _, Nat.zero_le _⟩ rfl (Nat.le_of_ble_eq_true rfl) dX3_borrow_11) ?_
    rintro z F' ⟨⟨rfl, hq11⟩ | ⟨rfl, hq11⟩, rfl⟩
    · refine q_if_ne C 27 dX3_borrow_14 ⟨by decide, by decide⟩  (by decide) (fun _ => ?_) (fun h => absurd h (by decide))
      refine q_iload_n C 1 dX3_borrow_27 rfl ?_
      refine q_iload_n C 3 dX3_borrow_28 rfl ?_
      refine q_icmp_ne C 42 dX3_borrow_29 ⟨by omega, by omega⟩ ⟨by omega, by omega⟩ (by decide) (fun h29 => ?_) (fun h29 => ?_)
      · refine q_iload_n C 1 dX3_borrow_42 rfl ?_
        refine q_iload_n C 2 dX3_borrow_43 rfl ?_
        refine q_cI (q_runS (As := [.int (iI d), .int (iI y)]) (rest := []) C (k_X3_lineNumber l) wd_308 wd_307 wd_13 wd_306 nd_X3_lineNumber rfl (by decide) ⟨Nat.zero_le _, Nat.zero_le _⟩ rfl (Nat.le_of_ble_eq_true rfl) dX3_borrow_44) ?_
        rintro z F' ⟨rfl, rfl⟩
        refine q_istore (lv' := [(5, .int (iI (4 * d + y))), (0, .ref (adr w 0)), (1, .int (iI d)), (2, .int (iI y)), (3, .int (iI e)), (4, .int (iI g))]) C dX3_borrow_47 (by decide) rfl ?_
        refine q_iload_n C 4 dX3_borrow_49 rfl ?_
        refine q_iload C 5 dX3_borrow_50 rfl ?_
        refine q_cI (q_runS (As := [.int (iI e), .int (iI g)]) (rest := []) C (k_X3_lineNumber l) wd_308 wd_307 wd_13 wd_306 nd_X3_lineNumber rfl (by decide) ⟨Nat.zero_le _, Nat.zero_le _⟩ rfl (Nat.le_of_ble_eq_true rfl) dX3_borrow_52) ?_
        rintro z F' ⟨rfl, rfl⟩
        refine q_istore (lv' := [(6, .int (iI (4 * e + g))), (5, .int (iI (4 * d + y))), (0, .ref (adr w 0)), (1, .int (iI d)), (2, .int (iI y)), (3, .int (iI e)), (4, .int (iI g))]) C dX3_borrow_55 (by decide) rfl ?_
        refine q_aload_n C 2 dX3_borrow_57 rfl ?_
        refine q_get (T := TX3) (i := 0) C kd0 (by decide) rfl uws3 (by decide) wd_133 rfl dX3_borrow_58 ?_
        refine q_iload C 1 dX3_borrow_61 rfl ?_
        refine q_cI (q_runV (As := [.int (iI (4 * d + y))]) (rest := []) C (k_X0_isFreeForLoan l hb1 hB (x := 4 * d + y) ⟨by omega, by omega⟩) hb1.k0 (by decide) rfl wd_658 wd_656 wd_657 wd_14 wd_655 nd_X0_isFreeForLoan rfl (by decide) ⟨Nat.zero_le _, Nat.zero_le _⟩ rfl (Nat.le_of_ble_eq_true rfl) dX3_borrow_63) ?_
        rintro z F' ⟨⟨rfl, hg63⟩ | ⟨rfl, hg63⟩, rfl⟩
        · refine q_if_eq C 81 dX3_borrow_66 ⟨by decide, by decide⟩  (by decide) (fun h => absurd h (by decide)) (fun _ => ?_)
          refine q_aload_n C 2 dX3_borrow_69 rfl ?_
          refine q_get (T := TX3) (i := 0) C kd0 (by decide) rfl uws3 (by decide) wd_133 rfl dX3_borrow_70 ?_
          refine q_iload C 0 dX3_borrow_73 rfl ?_
          refine q_cI (q_runV (As := [.int (iI (4 * e + g))]) (rest := []) C (k_X0_isFreeForLoan l hb1 hB (x := 4 * e + g) ⟨by omega, by omega⟩) hb1.k0 (by decide) rfl wd_658 wd_656 wd_657 wd_14 wd_655 nd_X0_isFreeForLoan rfl (by decide) ⟨Nat.zero_le _, Nat.zero_le _⟩ rfl (Nat.le_of_ble_eq_true rfl) dX3_borrow_75) ?_
          rintro z F' ⟨⟨rfl, hg75⟩ | ⟨rfl, hg75⟩, rfl⟩
          · refine q_if_ne C 91 dX3_borrow_78 ⟨by decide, by decide⟩  (by decide) (fun _ => ?_) (fun h => absurd h (by decide))
            refine q_aload_n C 2 dX3_borrow_91 rfl ?_
            refine q_get (T := TX3) (i := 2) C kd0 (by decide) rfl uws3 (by decide) wd_135 rfl dX3_borrow_92 ?_
            refine q_aload_n C 2 dX3_borrow_95 rfl ?_
            refine q_get (T := TX3) (i := 0) C kd0 (by decide) rfl uws3 (by decide) wd_133 rfl dX3_borrow_96 ?_
            refine q_cV (q_runV (As := [.ref (adr w 1)]) (rest := []) C (k_X1_save l (hJ).1.h (hJ).1.b) kd21 (by decide) rfl wd_601 wd_599 wd_600 wd_15 wd_598 nd_X1_save rfl (by decide) ⟨Nat.zero_le _, Nat.zero_le _⟩ rfl (Nat.le_of_ble_eq_true rfl) dX3_borrow_99) ?_
            rintro G1 ⟨hHG1, hfG1⟩
            have hJG1 := (hJ).sav hHG1 hfG1
            have hBG1 : BI G1 1 A.r := hJG1.1.b
            refine q_aload_n C 2 dX3_borrow_102 rfl ?_
            refine q_get (T := TX3) (i := 0) C kd0 (by decide) rfl uws3 (by decide) wd_133 rfl dX3_borrow_103 ?_
            refine q_iload C 1 dX3_borrow_106 rfl ?_
            refine q_iload C 0 dX3_borrow_108 rfl ?_
            refine q_cV (q_runV (As := [.int (iI (4 * d + y)), .int (iI (4 * e + g))]) (rest := []) C (k_X0_startLoan l hb1 hBG1 (x := 4 * d + y) (y := 4 * e + g) ⟨by omega, by omega⟩ ⟨by omega, by omega⟩ (by omega) (by omega) (by omega) (by omega) (by omega) (by omega) (by omega)) hb1.k0 (by decide) rfl wd_663 wd_661 wd_662 wd_14 wd_660 nd_X0_startLoan rfl (by decide) ⟨Nat.zero_le _, Nat.zero_le _⟩ rfl (Nat.le_of_ble_eq_true rfl) dX3_borrow_110) ?_
            rintro G2 ⟨hEG2, hfG2⟩
            have hJG2 := (hJG1).wr hEG2 hfG2 (nb_lnd (hJG1).1.v.1 ⟨by omega, by omega⟩)
            have hIs := hEG2.iv
            refine q_aload_n C 2 dX3_borrow_113 rfl ?_
            refine q_get (T := TX3) (i := 0) C kd0 (by decide) rfl uws3 (by decide) wd_133 rfl dX3_borrow_114 ?_
            refine q_iload C 1 dX3_borrow_117 rfl ?_
            refine q_cI (q_runV (As := [.int (iI (4 * d + y))]) (rest := []) C (k_X0_endingOn l hb1 hEG2 ⟨by omega, by omega⟩) hb1.k0 (by decide) rfl wd_331 wd_329 wd_330 wd_14 wd_664 nd_X0_endingOn rfl (by decide) ⟨Nat.zero_le _, Nat.zero_le _⟩ rfl (Nat.le_of_ble_eq_true rfl) dX3_borrow_119) ?_
            rintro z F' ⟨rfl, rfl⟩
            refine q_iret C dX3_borrow_122 ?_
            exact ⟨hT, rfl, hJG2⟩
          · refine q_if_ne C 91 dX3_borrow_78 ⟨by decide, by decide⟩  (by decide) (fun h => absurd h (by decide)) (fun _ => ?_)
            exact absurd (hT.symm.trans (show borrowT A d y e g = 3 from (by unfold borrowT; rw [if_neg (by omega), if_neg (by omega), if_pos (by omega)]))) (by decide)
        · refine q_if_eq C 81 dX3_borrow_66 ⟨by decide, by decide⟩  (by decide) (fun _ => ?_) (fun h => absurd h (by decide))
          exact absurd (hT.symm.trans (show borrowT A d y e g = 3 from (by unfold borrowT; rw [if_neg (by omega), if_neg (by omega), if_pos (by omega)]))) (by decide)
      · exact absurd (hT.symm.trans (show borrowT A d y e g = 2 from (by unfold borrowT; rw [if_neg (by omega), if_pos (by omega)]))) (by decide)
    · refine q_if_ne C 27 dX3_borrow_14 ⟨by decide, by decide⟩  (by decide) (fun h => absurd h (by decide)) (fun _ => ?_)
      exact absurd (hT.symm.trans (show borrowT A d y e g = 1 from (by unfold borrowT; rw [if_pos (by omega)]))) (by decide)
  · refine q_if_eq C 17 dX3_borrow_5 ⟨by decide, by decide⟩  (by decide) (fun _ => ?_) (fun h => absurd h (by decide))
    exact absurd (hT.symm.trans (show borrowT A d y e g = 1 from (by unfold borrowT; rw [if_pos (by omega)]))) (by decide)

set_option maxRecDepth 100000 in
set_option maxHeartbeats 4000000 in
theorem k_X3_bringBack (l : Launch) {w : WP} {F : FF} {A : AS} {d y : Int} (hA : CI F A) (hd : inR d) (hy : inR y) (hT : bringBackT A d y = 0) : Con l yX3_bringBack cX3_bringBack 4 (some .int) 3 w [.ref (adr w 0), .int (iI d), .int (iI y)] F (QI w (fun z F' => bringBackT A d y = 0 ∧ z = bringBackZ A d y ∧ CJ F F' (bringBackN A d y))) := by
  refine Con.mk (lv := [(0, .ref (adr w 0)), (1, .int (iI d)), (2, .int (iI y))]) (by decide) (Nat.le_of_ble_eq_true rfl) rfl ?_
  intro pg ev s0 mi be me co C hz
  have hB := hA.b
  have hI := hB.iv
  have hJ := CJ.refl hA
  have hv := hA.v.2.2.2.1
  obtain ⟨hd1, hd2⟩ := id hd
  obtain ⟨hy1, hy2⟩ := id hy
  refine q_iload_n C 1 dX3_bringBack_0 rfl ?_
  refine q_iload_n C 2 dX3_bringBack_1 rfl ?_
  refine q_cI (q_runS (As := [.int (iI d), .int (iI y)]) (rest := []) C (k_X3_isLine l (x := d) (y := y) ⟨by omega, by omega⟩ ⟨by omega, by omega⟩) wd_301 wd_300 wd_13 wd_299 nd_X3_isLine rfl (by decide) ⟨Nat.zero_le _, Nat.zero_le _⟩ rfl (Nat.le_of_ble_eq_true rfl) dX3_bringBack_2) ?_
  rintro z F' ⟨⟨rfl, hq2⟩ | ⟨rfl, hq2⟩, rfl⟩
  · refine q_if_ne C 18 dX3_bringBack_5 ⟨by decide, by decide⟩  (by decide) (fun _ => ?_) (fun h => absurd h (by decide))
    refine q_iload_n C 1 dX3_bringBack_18 rfl ?_
    refine q_iload_n C 2 dX3_bringBack_19 rfl ?_
    refine q_cI (q_runS (As := [.int (iI d), .int (iI y)]) (rest := []) C (k_X3_lineNumber l) wd_308 wd_307 wd_13 wd_306 nd_X3_lineNumber rfl (by decide) ⟨Nat.zero_le _, Nat.zero_le _⟩ rfl (Nat.le_of_ble_eq_true rfl) dX3_bringBack_20) ?_
    rintro z F' ⟨rfl, rfl⟩
    refine q_istore_n (lv' := [(3, .int (iI (4 * d + y))), (0, .ref (adr w 0)), (1, .int (iI d)), (2, .int (iI y))]) C dX3_bringBack_23 (by decide) rfl ?_
    refine q_aload_n C 1 dX3_bringBack_24 rfl ?_
    refine q_get (T := TX3) (i := 0) C kd0 (by decide) rfl uws3 (by decide) wd_133 rfl dX3_bringBack_25 ?_
    have qld := hI.ld (l := 4 * d + y) (by omega) (by omega)
    refine q_iload_n C 0 dX3_bringBack_28 rfl ?_
    refine q_cI (q_runV (As := [.int (iI (4 * d + y))]) (rest := []) C (k_X0_borrows l hb1 hB (x := 4 * d + y) ⟨by omega, by omega⟩) hb1.k0 (by decide) rfl wd_675 wd_673 wd_674 wd_14 wd_672 nd_X0_borrows rfl (by decide) ⟨Nat.zero_le _, Nat.zero_le _⟩ rfl (Nat.le_of_ble_eq_true rfl) dX3_bringBack_29) ?_
    rintro z F' ⟨⟨rfl, hg29⟩ | ⟨rfl, hg29⟩, rfl⟩
    · refine q_if_ne C 45 dX3_bringBack_32 ⟨by decide, by decide⟩  (by decide) (fun _ => ?_) (fun h => absurd h (by decide))
      refine q_aload_n C 1 dX3_bringBack_45 rfl ?_
      refine q_get (T := TX3) (i := 2) C kd0 (by decide) rfl uws3 (by decide) wd_135 rfl dX3_bringBack_46 ?_
      refine q_aload_n C 1 dX3_bringBack_49 rfl ?_
      refine q_get (T := TX3) (i := 0) C kd0 (by decide) rfl uws3 (by decide) wd_133 rfl dX3_bringBack_50 ?_
      refine q_cV (q_runV (As := [.ref (adr w 1)]) (rest := []) C (k_X1_save l (hJ).1.h (hJ).1.b) kd21 (by decide) rfl wd_601 wd_599 wd_600 wd_15 wd_598 nd_X1_save rfl (by decide) ⟨Nat.zero_le _, Nat.zero_le _⟩ rfl (Nat.le_of_ble_eq_true rfl) dX3_bringBack_53) ?_
      rintro G1 ⟨hHG1, hfG1⟩
      have hJG1 := (hJ).sav hHG1 hfG1
      have hBG1 : BI G1 1 A.r := hJG1.1.b
      refine q_aload_n C 1 dX3_bringBack_56 rfl ?_
      refine q_get (T := TX3) (i := 0) C kd0 (by decide) rfl uws3 (by decide) wd_133 rfl dX3_bringBack_57 ?_
      refine q_iload_n C 0 dX3_bringBack_60 rfl ?_
      refine q_cV (q_runV (As := [.int (iI (4 * d + y))]) (rest := []) C (k_X0_endLoan (F := G1) l hb1 (x := 4 * d + y) ⟨by omega, by omega⟩ (LR.of hBG1)) hb1.k0 (by decide) rfl wd_563 wd_561 wd_562 wd_14 wd_677 nd_X0_endLoan rfl (by decide) ⟨Nat.zero_le _, Nat.zero_le _⟩ rfl (Nat.le_of_ble_eq_true rfl) dX3_bringBack_61) ?_
      rintro G2 rfl
      have hEG2 := BI_brb hb1 hBG1 (x := 4 * d + y) ⟨by omega, by omega⟩
      have hJG2 := (hJG1).wr hEG2 Fr.elF (nb_brb (hJG1).1.v.1 ⟨by omega, by omega⟩)
      refine q_aload_n C 1 dX3_bringBack_64 rfl ?_
      refine q_get (T := TX3) (i := 0) C kd0 (by decide) rfl uws3 (by decide) wd_133 rfl dX3_bringBack_65 ?_
      refine q_iload_n C 0 dX3_bringBack_68 rfl ?_
      refine q_cI (q_runV (As := [.int (iI (4 * d + y))]) (rest := []) C (k_X0_endingOn l hb1 hEG2 ⟨by omega, by omega⟩) hb1.k0 (by decide) rfl wd_331 wd_329 wd_330 wd_14 wd_664 nd_X0_endingOn rfl (by decide) ⟨Nat.zero_le _, Nat.zero_le _⟩ rfl (Nat.le_of_ble_eq_true rfl) dX3_bringBack_69) ?_
      rintro z F' ⟨rfl, rfl⟩
      refine q_iret C dX3_bringBack_72 ?_
      exact ⟨hT, rfl, hJG2⟩
    · refine q_if_ne C 45 dX3_bringBack_32 ⟨by decide, by decide⟩  (by decide) (fun h => absurd h (by decide)) (fun _ => ?_)
      exact absurd (hT.symm.trans (show bringBackT A d y = 2 from (by unfold bringBackT; rw [if_neg (by omega), if_pos (by omega)]))) (by decide)
  · refine q_if_ne C 18 dX3_bringBack_5 ⟨by decide, by decide⟩  (by decide) (fun h => absurd h (by decide)) (fun _ => ?_)
    exact absurd (hT.symm.trans (show bringBackT A d y = 1 from (by unfold bringBackT; rw [if_pos (by omega)]))) (by decide)

set_option maxRecDepth 100000 in
set_option maxHeartbeats 4000000 in
theorem k_X3_sleep (l : Launch) {w : WP} {F : FF} {A : AS} {m : Int} (hA : CI F A) (hm : inR m) (hT : sleepT A m = 0) : Con l yX3_sleep cX3_sleep 2 (some .int) 6 w [.ref (adr w 0), .int (iI m)] F (QI w (fun z F' => sleepT A m = 0 ∧ z = sleepZ A m ∧ CJ F F' (sleepN A m))) := by
  refine Con.mk (lv := [(0, .ref (adr w 0)), (1, .int (iI m))]) (by decide) (Nat.le_of_ble_eq_true rfl) rfl ?_
  intro pg ev s0 mi be me co C hz
  have hB := hA.b
  have hI := hB.iv
  have hJ := CJ.refl hA
  have hv := hA.v.2.2.2.1
  obtain ⟨hm1, hm2⟩ := id hm
  refine q_iload_n C 1 dX3_sleep_0 rfl ?_
  refine q_cI (q_runS (As := [.int (iI m)]) (rest := []) C (k_X3_isNights l (x := m) ⟨by omega, by omega⟩) wd_527 wd_526 wd_13 wd_525 nd_X3_isNights rfl (by decide) ⟨Nat.zero_le _, Nat.zero_le _⟩ rfl (Nat.le_of_ble_eq_true rfl) dX3_sleep_1) ?_
  rintro z F' ⟨⟨rfl, hq1⟩ | ⟨rfl, hq1⟩, rfl⟩
  · refine q_if_ne C 17 dX3_sleep_4 ⟨by decide, by decide⟩  (by decide) (fun _ => ?_) (fun h => absurd h (by decide))
    refine q_aload_n C 0 dX3_sleep_17 rfl ?_
    refine q_get (T := TX3) (i := 0) C kd0 (by decide) rfl uws3 (by decide) wd_133 rfl dX3_sleep_18 ?_
    refine q_getN (T := TX0) (i := 9) C hb1.k0 (by decide) rfl uws0 (by decide) nw_53 rfl dX3_sleep_21 ?_
    rw [hB.nt]
    have hnb := hA.v.1; unfold nb at hnb
    refine q_iload_n C 1 dX3_sleep_24 rfl ?_
    refine q_iadd C dX3_sleep_25 ?_
    refine q_sipush C 9999 dX3_sleep_26 (by decide) ?_
    refine q_icmp_le C 42 dX3_sleep_29 ⟨by omega, by omega⟩ ⟨by decide, by decide⟩ (by decide) (fun h29 => ?_) (fun h29 => ?_)
    · refine q_aload_n C 0 dX3_sleep_42 rfl ?_
      refine q_get (T := TX3) (i := 2) C kd0 (by decide) rfl uws3 (by decide) wd_135 rfl dX3_sleep_43 ?_
      refine q_aload_n C 0 dX3_sleep_46 rfl ?_
      refine q_get (T := TX3) (i := 0) C kd0 (by decide) rfl uws3 (by decide) wd_133 rfl dX3_sleep_47 ?_
      refine q_cV (q_runV (As := [.ref (adr w 1)]) (rest := []) C (k_X1_save l (hJ).1.h (hJ).1.b) kd21 (by decide) rfl wd_601 wd_599 wd_600 wd_15 wd_598 nd_X1_save rfl (by decide) ⟨Nat.zero_le _, Nat.zero_le _⟩ rfl (Nat.le_of_ble_eq_true rfl) dX3_sleep_50) ?_
      rintro G1 ⟨hHG1, hfG1⟩
      have hJG1 := (hJ).sav hHG1 hfG1
      have hBG1 : BI G1 1 A.r := hJG1.1.b
      refine q_aload_n C 0 dX3_sleep_53 rfl ?_
      refine q_get (T := TX3) (i := 0) C kd0 (by decide) rfl uws3 (by decide) wd_133 rfl dX3_sleep_54 ?_
      refine q_iload_n C 1 dX3_sleep_57 rfl ?_
      refine q_cI (q_runV (As := [.int (iI m)]) (rest := []) C (k_X0_passNights l hb1 hBG1 (n := m) ⟨by omega, by omega⟩) hb1.k0 (by decide) rfl wd_539 wd_537 wd_538 wd_14 wd_536 nd_X0_passNights rfl (by decide) ⟨Nat.zero_le _, Nat.zero_le _⟩ rfl (Nat.le_of_ble_eq_true rfl) dX3_sleep_58) ?_
      rintro z G2 ⟨rfl, hEG2, hfG2⟩
      have hJG2 := (hJG1).wr hEG2 hfG2 (nb_ngs hI (hJG1).1.v.1 (by omega) (by omega))
      have hIs := hEG2.iv
      refine q_iret C dX3_sleep_61 ?_
      exact ⟨hT, rfl, hJG2⟩
    · exact absurd (hT.symm.trans (show sleepT A m = 2 from (by unfold sleepT; rw [if_neg (by omega), if_pos (by omega)]))) (by decide)
  · refine q_if_ne C 17 dX3_sleep_4 ⟨by decide, by decide⟩  (by decide) (fun h => absurd h (by decide)) (fun _ => ?_)
    exact absurd (hT.symm.trans (show sleepT A m = 1 from (by unfold sleepT; rw [if_pos (by omega)]))) (by decide)

set_option maxRecDepth 100000 in
set_option maxHeartbeats 4000000 in
theorem k_X3_set (l : Launch) {w : WP} {F : FF} {A : AS} {k v : Int} (hA : CI F A) (hk : inR k) (hv : inR v) (hT : setT A k v = 0) : Con l yX3_set cX3_set 4 (some .int) 3 w [.ref (adr w 0), .int (iI k), .int (iI v)] F (QI w (fun z F' => setT A k v = 0 ∧ z = setZ A k v ∧ CJ F F' (setN A k v))) := by
  refine Con.mk (lv := [(0, .ref (adr w 0)), (1, .int (iI k)), (2, .int (iI v))]) (by decide) (Nat.le_of_ble_eq_true rfl) rfl ?_
  intro pg ev s0 mi be me co C hz
  have hB := hA.b
  have hI := hB.iv
  have hJ := CJ.refl hA
  have hv := hA.v.2.2.2.1
  obtain ⟨hk1, hk2⟩ := id hk
  obtain ⟨hv1, hv2⟩ := id hv
  refine q_iload_n C 1 dX3_set_0 rfl ?_
  refine q_cI (q_runS (As := [.int (iI k)]) (rest := []) C (k_X3_isSetting l (x := k) ⟨by omega, by omega⟩) wd_428 wd_427 wd_13 wd_426 nd_X3_isSetting rfl (by decide) ⟨Nat.zero_le _, Nat.zero_le _⟩ rfl (Nat.le_of_ble_eq_true rfl) dX3_set_1) ?_
  rintro z F' ⟨⟨rfl, hq1⟩ | ⟨rfl, hq1⟩, rfl⟩
  · refine q_if_ne C 17 dX3_set_4 ⟨by decide, by decide⟩  (by decide) (fun _ => ?_) (fun h => absurd h (by decide))
    refine q_iload_n C 2 dX3_set_17 rfl ?_
    refine q_if_lt C 29 dX3_set_18 ⟨by omega, by omega⟩  (by decide) (fun h18 => ?_) (fun h18 => ?_)
    · exact absurd (hT.symm.trans (show setT A k v = 2 from (by unfold setT; rw [if_neg (by omega), if_pos (by omega)]))) (by decide)
    · refine q_iload_n C 2 dX3_set_21 rfl ?_
      refine q_iload_n C 1 dX3_set_22 rfl ?_
      refine q_cI (q_runS (As := [.int (iI k)]) (rest := [.int (iI v)]) C (k_X3_greatestOf l (k := k) ⟨by omega, by omega⟩) wd_695 wd_694 wd_13 wd_693 nd_X3_greatestOf rfl (by decide) ⟨Nat.zero_le _, Nat.zero_le _⟩ rfl (Nat.le_of_ble_eq_true rfl) dX3_set_23) ?_
      rintro z F' ⟨rfl, rfl⟩
      have qms := mostS_range k
      refine q_icmp_le C 39 dX3_set_26 ⟨by omega, by omega⟩ ⟨by omega, by omega⟩ (by decide) (fun h26 => ?_) (fun h26 => ?_)
      · refine q_aload_n C 0 dX3_set_39 rfl ?_
        refine q_get (T := TX3) (i := 2) C kd0 (by decide) rfl uws3 (by decide) wd_135 rfl dX3_set_40 ?_
        refine q_aload_n C 0 dX3_set_43 rfl ?_
        refine q_get (T := TX3) (i := 0) C kd0 (by decide) rfl uws3 (by decide) wd_133 rfl dX3_set_44 ?_
        refine q_cV (q_runV (As := [.ref (adr w 1)]) (rest := []) C (k_X1_save l (hJ).1.h (hJ).1.b) kd21 (by decide) rfl wd_601 wd_599 wd_600 wd_15 wd_598 nd_X1_save rfl (by decide) ⟨Nat.zero_le _, Nat.zero_le _⟩ rfl (Nat.le_of_ble_eq_true rfl) dX3_set_47) ?_
        rintro G1 ⟨hHG1, hfG1⟩
        have hJG1 := (hJ).sav hHG1 hfG1
        have hBG1 : BI G1 1 A.r := hJG1.1.b
        refine q_aload_n C 0 dX3_set_50 rfl ?_
        refine q_get (T := TX3) (i := 0) C kd0 (by decide) rfl uws3 (by decide) wd_133 rfl dX3_set_51 ?_
        refine q_iload_n C 1 dX3_set_54 rfl ?_
        refine q_cI (q_runV (As := [.int (iI k)]) (rest := []) C (k_X0_settingValue l hb1 hBG1 ⟨by omega, by omega⟩) hb1.k0 (by decide) rfl wd_433 wd_431 wd_432 wd_14 wd_430 nd_X0_settingValue rfl (by decide) ⟨Nat.zero_le _, Nat.zero_le _⟩ rfl (Nat.le_of_ble_eq_true rfl) dX3_set_55) ?_
        rintro z F' ⟨rfl, rfl⟩
        refine q_istore_n (lv' := [(3, .int (iI (A.r (176 + k)))), (0, .ref (adr w 0)), (1, .int (iI k)), (2, .int (iI v))]) C dX3_set_58 (by decide) rfl ?_
        refine q_aload_n C 1 dX3_set_59 rfl ?_
        refine q_get (T := TX3) (i := 0) C kd0 (by decide) rfl uws3 (by decide) wd_133 rfl dX3_set_60 ?_
        refine q_iload_n C 2 dX3_set_63 rfl ?_
        refine q_iload_n C 3 dX3_set_64 rfl ?_
        refine q_cV (q_runV (As := [.int (iI k), .int (iI v)]) (rest := []) C (k_X0_changeSetting l hb1 hBG1 (k := k) (v := v) ⟨by omega, by omega⟩ ⟨by omega, by omega⟩) hb1.k0 (by decide) rfl wd_700 wd_698 wd_699 wd_14 wd_697 nd_X0_changeSetting rfl (by decide) ⟨Nat.zero_le _, Nat.zero_le _⟩ rfl (Nat.le_of_ble_eq_true rfl) dX3_set_65) ?_
        rintro G2 ⟨hEG2, hfG2⟩
        have hJG2 := (hJG1).wr hEG2 hfG2 (nb_setr (hJG1).1.v.1 ⟨by omega, by omega⟩)
        have hIs := hEG2.iv
        refine q_iload_n C 0 dX3_set_68 rfl ?_
        refine q_iret C dX3_set_69 ?_
        exact ⟨hT, rfl, hJG2⟩
      · exact absurd (hT.symm.trans (show setT A k v = 2 from (by unfold setT; rw [if_neg (by omega), if_pos (by omega)]))) (by decide)
  · refine q_if_ne C 17 dX3_set_4 ⟨by decide, by decide⟩  (by decide) (fun h => absurd h (by decide)) (fun _ => ?_)
    exact absurd (hT.symm.trans (show setT A k v = 1 from (by unfold setT; rw [if_pos (by omega)]))) (by decide)

set_option maxRecDepth 100000 in
set_option maxHeartbeats 4000000 in
theorem k_X3_wordOf (l : Launch) {w : WP} {F : FF} {A : AS} {x k : Int} (hA : CI F A) (hx : inR x) (hk : inR k) (hT : wordOfT A x k = 0) : Con l yX3_wordOf cX3_wordOf 3 (some .int) 3 w [.ref (adr w 0), .int (iI x), .int (iI k)] F (QI w (fun z F' => z = wordOfZ A x k ∧ F = F')) := by
  refine Con.mk (lv := [(0, .ref (adr w 0)), (1, .int (iI x)), (2, .int (iI k))]) (by decide) (Nat.le_of_ble_eq_true rfl) rfl ?_
  intro pg ev s0 mi be me co C hz
  have hB := hA.b
  have hI := hB.iv
  have hJ := CJ.refl hA
  have hv := hA.v.2.2.2.1
  obtain ⟨hx1, hx2⟩ := id hx
  obtain ⟨hk1, hk2⟩ := id hk
  refine q_iload_n C 1 dX3_wordOf_0 rfl ?_
  refine q_cI (q_runS (As := [.int (iI x)]) (rest := []) C (k_X3_isWord l (x := x) ⟨by omega, by omega⟩) wd_174 wd_173 wd_13 wd_172 nd_X3_isWord rfl (by decide) ⟨Nat.zero_le _, Nat.zero_le _⟩ rfl (Nat.le_of_ble_eq_true rfl) dX3_wordOf_1) ?_
  rintro z F' ⟨⟨rfl, hq1⟩ | ⟨rfl, hq1⟩, rfl⟩
  · refine q_if_ne C 17 dX3_wordOf_4 ⟨by decide, by decide⟩  (by decide) (fun _ => ?_) (fun h => absurd h (by decide))
    refine q_iload_n C 2 dX3_wordOf_17 rfl ?_
    refine q_if_lt C 27 dX3_wordOf_18 ⟨by omega, by omega⟩  (by decide) (fun h18 => ?_) (fun h18 => ?_)
    · exact absurd (hT.symm.trans (show wordOfT A x k = 2 from (by unfold wordOfT; rw [if_neg (by omega), if_pos (by omega)]))) (by decide)
    · refine q_iload_n C 2 dX3_wordOf_21 rfl ?_
      refine q_bipush C 7 dX3_wordOf_22 (by decide) ?_
      refine q_icmp_lt C 37 dX3_wordOf_24 ⟨by omega, by omega⟩ ⟨by decide, by decide⟩ (by decide) (fun h24 => ?_) (fun h24 => ?_)
      · refine q_aload_n C 0 dX3_wordOf_37 rfl ?_
        refine q_get (T := TX3) (i := 0) C kd0 (by decide) rfl uws3 (by decide) wd_133 rfl dX3_wordOf_38 ?_
        refine q_iload_n C 1 dX3_wordOf_41 rfl ?_
        refine q_iload_n C 2 dX3_wordOf_42 rfl ?_
        refine q_cI (q_runV (As := [.int (iI x), .int (iI k)]) (rest := []) C (k_X0_wordProperty l hb1 hB ⟨by omega, by omega⟩ ⟨by omega, by omega⟩) hb1.k0 (by decide) rfl wd_262 wd_260 wd_261 wd_14 wd_259 nd_X0_wordProperty rfl (by decide) ⟨Nat.zero_le _, Nat.zero_le _⟩ rfl (Nat.le_of_ble_eq_true rfl) dX3_wordOf_43) ?_
        rintro z F' ⟨rfl, rfl⟩
        refine q_iret C dX3_wordOf_46 ?_
        exact ⟨rfl, rfl⟩
      · exact absurd (hT.symm.trans (show wordOfT A x k = 2 from (by unfold wordOfT; rw [if_neg (by omega), if_pos (by omega)]))) (by decide)
  · refine q_if_ne C 17 dX3_wordOf_4 ⟨by decide, by decide⟩  (by decide) (fun h => absurd h (by decide)) (fun _ => ?_)
    exact absurd (hT.symm.trans (show wordOfT A x k = 1 from (by unfold wordOfT; rw [if_pos (by omega)]))) (by decide)

set_option maxRecDepth 100000 in
set_option maxHeartbeats 4000000 in
theorem k_X3_at (l : Launch) {w : WP} {F : FF} {A : AS} {d y p : Int} (hA : CI F A) (hd : inR d) (hy : inR y) (hp : inR p) (hT : atT A d y p = 0) : Con l yX3_at cX3_at 4 (some .int) 2 w [.ref (adr w 0), .int (iI d), .int (iI y), .int (iI p)] F (QI w (fun z F' => z = atZ A d y p ∧ F = F')) := by
  refine Con.mk (lv := [(0, .ref (adr w 0)), (1, .int (iI d)), (2, .int (iI y)), (3, .int (iI p))]) (by decide) (Nat.le_of_ble_eq_true rfl) rfl ?_
  intro pg ev s0 mi be me co C hz
  have hB := hA.b
  have hI := hB.iv
  have hJ := CJ.refl hA
  have hv := hA.v.2.2.2.1
  obtain ⟨hd1, hd2⟩ := id hd
  obtain ⟨hy1, hy2⟩ := id hy
  obtain ⟨hp1, hp2⟩ := id hp
  refine q_iload_n C 1 dX3_at_0 rfl ?_
  refine q_iload_n C 2 dX3_at_1 rfl ?_
  refine q_cI (q_runS (As := [.int (iI d), .int (iI y)]) (rest := []) C (k_X3_isLine l (x := d) (y := y) ⟨by omega, by omega⟩ ⟨by omega, by omega⟩) wd_301 wd_300 wd_13 wd_299 nd_X3_isLine rfl (by decide) ⟨Nat.zero_le _, Nat.zero_le _⟩ rfl (Nat.le_of_ble_eq_true rfl) dX3_at_2) ?_
  rintro z F' ⟨⟨rfl, hq2⟩ | ⟨rfl, hq2⟩, rfl⟩
  · refine q_if_eq C 18 dX3_at_5 ⟨by decide, by decide⟩  (by decide) (fun h => absurd h (by decide)) (fun _ => ?_)
    refine q_iload_n C 3 dX3_at_8 rfl ?_
    refine q_if_lt C 18 dX3_at_9 ⟨by omega, by omega⟩  (by decide) (fun h9 => ?_) (fun h9 => ?_)
    · exact absurd (hT.symm.trans (show atT A d y p = 1 from (by unfold atT; rw [if_pos (by omega)]))) (by decide)
    · refine q_iload_n C 3 dX3_at_12 rfl ?_
      refine q_bipush C 6 dX3_at_13 (by decide) ?_
      refine q_icmp_lt C 28 dX3_at_15 ⟨by omega, by omega⟩ ⟨by decide, by decide⟩ (by decide) (fun h15 => ?_) (fun h15 => ?_)
      · refine q_aload_n C 0 dX3_at_28 rfl ?_
        refine q_get (T := TX3) (i := 0) C kd0 (by decide) rfl uws3 (by decide) wd_133 rfl dX3_at_29 ?_
        refine q_iload_n C 1 dX3_at_32 rfl ?_
        refine q_iload_n C 2 dX3_at_33 rfl ?_
        refine q_cI (q_runS (As := [.int (iI d), .int (iI y)]) (rest := [.ref (adr w 1)]) C (k_X3_lineNumber l) wd_308 wd_307 wd_13 wd_306 nd_X3_lineNumber rfl (by decide) ⟨Nat.zero_le _, Nat.zero_le _⟩ rfl (Nat.le_of_ble_eq_true rfl) dX3_at_34) ?_
        rintro z F' ⟨rfl, rfl⟩
        refine q_iload_n C 3 dX3_at_37 rfl ?_
        refine q_cI (q_runV (As := [.int (iI (4 * d + y)), .int (iI p)]) (rest := []) C ((k_wat l hb1 hB (x := 4 * d + y) (p := p) ⟨by omega, by omega⟩ ⟨by omega, by omega⟩).post (fun z F9 h => (⟨wat_W0 h.1, h.2⟩ : z = W0 A.r (4 * d + y) p ∧ F = F9))) hb1.k0 (by decide) rfl wd_282 wd_280 wd_281 wd_14 wd_309 nd_X0_wordAt rfl (by decide) ⟨Nat.zero_le _, Nat.zero_le _⟩ rfl (Nat.le_of_ble_eq_true rfl) dX3_at_38) ?_
        rintro z F' ⟨rfl, rfl⟩
        have q38 := W0_range (l := 4 * d + y) (p := p) hI (by omega) (by omega)
        refine q_iret C dX3_at_41 ?_
        exact ⟨rfl, rfl⟩
      · exact absurd (hT.symm.trans (show atT A d y p = 1 from (by unfold atT; rw [if_pos (by omega)]))) (by decide)
  · refine q_if_eq C 18 dX3_at_5 ⟨by decide, by decide⟩  (by decide) (fun _ => ?_) (fun h => absurd h (by decide))
    exact absurd (hT.symm.trans (show atT A d y p = 1 from (by unfold atT; rw [if_pos (by omega)]))) (by decide)

set_option maxRecDepth 100000 in
set_option maxHeartbeats 4000000 in
theorem k_X3_lineOf (l : Launch) {w : WP} {F : FF} {A : AS} {d y k : Int} (hA : CI F A) (hd : inR d) (hy : inR y) (hk : inR k) (hT : lineOfT A d y k = 0) : Con l yX3_lineOf cX3_lineOf 4 (some .int) 4 w [.ref (adr w 0), .int (iI d), .int (iI y), .int (iI k)] F (QI w (fun z F' => z = lineOfZ A d y k ∧ F = F')) := by
  refine Con.mk (lv := [(0, .ref (adr w 0)), (1, .int (iI d)), (2, .int (iI y)), (3, .int (iI k))]) (by decide) (Nat.le_of_ble_eq_true rfl) rfl ?_
  intro pg ev s0 mi be me co C hz
  have hB := hA.b
  have hI := hB.iv
  have hJ := CJ.refl hA
  have hv := hA.v.2.2.2.1
  obtain ⟨hd1, hd2⟩ := id hd
  obtain ⟨hy1, hy2⟩ := id hy
  obtain ⟨hk1, hk2⟩ := id hk
  refine q_iload_n C 1 dX3_lineOf_0 rfl ?_
  refine q_iload_n C 2 dX3_lineOf_1 rfl ?_
  refine q_cI (q_runS (As := [.int (iI d), .int (iI y)]) (rest := []) C (k_X3_isLine l (x := d) (y := y) ⟨by omega, by omega⟩ ⟨by omega, by omega⟩) wd_301 wd_300 wd_13 wd_299 nd_X3_isLine rfl (by decide) ⟨Nat.zero_le _, Nat.zero_le _⟩ rfl (Nat.le_of_ble_eq_true rfl) dX3_lineOf_2) ?_
  rintro z F' ⟨⟨rfl, hq2⟩ | ⟨rfl, hq2⟩, rfl⟩
  · refine q_if_ne C 18 dX3_lineOf_5 ⟨by decide, by decide⟩  (by decide) (fun _ => ?_) (fun h => absurd h (by decide))
    refine q_iload_n C 3 dX3_lineOf_18 rfl ?_
    refine q_if_lt C 28 dX3_lineOf_19 ⟨by omega, by omega⟩  (by decide) (fun h19 => ?_) (fun h19 => ?_)
    · exact absurd (hT.symm.trans (show lineOfT A d y k = 2 from (by unfold lineOfT; rw [if_neg (by omega), if_pos (by omega)]))) (by decide)
    · refine q_iload_n C 3 dX3_lineOf_22 rfl ?_
      refine q_bipush C 8 dX3_lineOf_23 (by decide) ?_
      refine q_icmp_lt C 38 dX3_lineOf_25 ⟨by omega, by omega⟩ ⟨by decide, by decide⟩ (by decide) (fun h25 => ?_) (fun h25 => ?_)
      · refine q_aload_n C 0 dX3_lineOf_38 rfl ?_
        refine q_get (T := TX3) (i := 0) C kd0 (by decide) rfl uws3 (by decide) wd_133 rfl dX3_lineOf_39 ?_
        refine q_iload_n C 1 dX3_lineOf_42 rfl ?_
        refine q_iload_n C 2 dX3_lineOf_43 rfl ?_
        refine q_cI (q_runS (As := [.int (iI d), .int (iI y)]) (rest := [.ref (adr w 1)]) C (k_X3_lineNumber l) wd_308 wd_307 wd_13 wd_306 nd_X3_lineNumber rfl (by decide) ⟨Nat.zero_le _, Nat.zero_le _⟩ rfl (Nat.le_of_ble_eq_true rfl) dX3_lineOf_44) ?_
        rintro z F' ⟨rfl, rfl⟩
        refine q_iload_n C 3 dX3_lineOf_47 rfl ?_
        refine q_cI (q_runV (As := [.int (iI (4 * d + y)), .int (iI k)]) (rest := []) C (k_X0_lineProperty l hb1 hB ⟨by omega, by omega⟩ ⟨by omega, by omega⟩) hb1.k0 (by decide) rfl wd_319 wd_317 wd_318 wd_14 wd_316 nd_X0_lineProperty rfl (by decide) ⟨Nat.zero_le _, Nat.zero_le _⟩ rfl (Nat.le_of_ble_eq_true rfl) dX3_lineOf_48) ?_
        rintro z F' ⟨rfl, rfl⟩
        refine q_iret C dX3_lineOf_51 ?_
        exact ⟨rfl, rfl⟩
      · exact absurd (hT.symm.trans (show lineOfT A d y k = 2 from (by unfold lineOfT; rw [if_neg (by omega), if_pos (by omega)]))) (by decide)
  · refine q_if_ne C 18 dX3_lineOf_5 ⟨by decide, by decide⟩  (by decide) (fun h => absurd h (by decide)) (fun _ => ?_)
    exact absurd (hT.symm.trans (show lineOfT A d y k = 1 from (by unfold lineOfT; rw [if_pos (by omega)]))) (by decide)

set_option maxRecDepth 100000 in
set_option maxHeartbeats 4000000 in
theorem k_X3_doorOf (l : Launch) {w : WP} {F : FF} {A : AS} {d k : Int} (hA : CI F A) (hd : inR d) (hk : inR k) (hT : doorOfT A d k = 0) : Con l yX3_doorOf cX3_doorOf 3 (some .int) 5 w [.ref (adr w 0), .int (iI d), .int (iI k)] F (QI w (fun z F' => z = doorOfZ A d k ∧ F = F')) := by
  refine Con.mk (lv := [(0, .ref (adr w 0)), (1, .int (iI d)), (2, .int (iI k))]) (by decide) (Nat.le_of_ble_eq_true rfl) rfl ?_
  intro pg ev s0 mi be me co C hz
  have hB := hA.b
  have hI := hB.iv
  have hJ := CJ.refl hA
  have hv := hA.v.2.2.2.1
  obtain ⟨hd1, hd2⟩ := id hd
  obtain ⟨hk1, hk2⟩ := id hk
  refine q_iload_n C 1 dX3_doorOf_0 rfl ?_
  refine q_cI (q_runS (As := [.int (iI d)]) (rest := []) C (k_X3_isDoor l (x := d) ⟨by omega, by omega⟩) wd_304 wd_303 wd_13 wd_302 nd_X3_isDoor rfl (by decide) ⟨Nat.zero_le _, Nat.zero_le _⟩ rfl (Nat.le_of_ble_eq_true rfl) dX3_doorOf_1) ?_
  rintro z F' ⟨⟨rfl, hq1⟩ | ⟨rfl, hq1⟩, rfl⟩
  · refine q_if_ne C 17 dX3_doorOf_4 ⟨by decide, by decide⟩  (by decide) (fun _ => ?_) (fun h => absurd h (by decide))
    refine q_iload_n C 2 dX3_doorOf_17 rfl ?_
    refine q_if_lt C 26 dX3_doorOf_18 ⟨by omega, by omega⟩  (by decide) (fun h18 => ?_) (fun h18 => ?_)
    · exact absurd (hT.symm.trans (show doorOfT A d k = 2 from (by unfold doorOfT; rw [if_neg (by omega), if_pos (by omega)]))) (by decide)
    · refine q_iload_n C 2 dX3_doorOf_21 rfl ?_
      refine q_iconst C 5 dX3_doorOf_22 ?_
      refine q_icmp_lt C 36 dX3_doorOf_23 ⟨by omega, by omega⟩ ⟨by decide, by decide⟩ (by decide) (fun h23 => ?_) (fun h23 => ?_)
      · refine q_aload_n C 0 dX3_doorOf_36 rfl ?_
        refine q_get (T := TX3) (i := 0) C kd0 (by decide) rfl uws3 (by decide) wd_133 rfl dX3_doorOf_37 ?_
        refine q_iload_n C 1 dX3_doorOf_40 rfl ?_
        refine q_iload_n C 2 dX3_doorOf_41 rfl ?_
        refine q_cI (q_runV (As := [.int (iI d), .int (iI k)]) (rest := []) C (k_X0_doorProperty l hb1 hB ⟨by omega, by omega⟩ ⟨by omega, by omega⟩) hb1.k0 (by decide) rfl wd_384 wd_382 wd_383 wd_14 wd_381 nd_X0_doorProperty rfl (by decide) ⟨Nat.zero_le _, Nat.zero_le _⟩ rfl (Nat.le_of_ble_eq_true rfl) dX3_doorOf_42) ?_
        rintro z F' ⟨rfl, rfl⟩
        refine q_iret C dX3_doorOf_45 ?_
        exact ⟨rfl, rfl⟩
      · exact absurd (hT.symm.trans (show doorOfT A d k = 2 from (by unfold doorOfT; rw [if_neg (by omega), if_pos (by omega)]))) (by decide)
  · refine q_if_ne C 17 dX3_doorOf_4 ⟨by decide, by decide⟩  (by decide) (fun h => absurd h (by decide)) (fun _ => ?_)
    exact absurd (hT.symm.trans (show doorOfT A d k = 1 from (by unfold doorOfT; rw [if_pos (by omega)]))) (by decide)

set_option maxRecDepth 100000 in
set_option maxHeartbeats 4000000 in
theorem k_X3_setting (l : Launch) {w : WP} {F : FF} {A : AS} {k : Int} (hA : CI F A) (hk : inR k) (hT : settingT A k = 0) : Con l yX3_setting cX3_setting 2 (some .int) 2 w [.ref (adr w 0), .int (iI k)] F (QI w (fun z F' => z = settingZ A k ∧ F = F')) := by
  refine Con.mk (lv := [(0, .ref (adr w 0)), (1, .int (iI k))]) (by decide) (Nat.le_of_ble_eq_true rfl) rfl ?_
  intro pg ev s0 mi be me co C hz
  have hB := hA.b
  have hI := hB.iv
  have hJ := CJ.refl hA
  have hv := hA.v.2.2.2.1
  obtain ⟨hk1, hk2⟩ := id hk
  refine q_iload_n C 1 dX3_setting_0 rfl ?_
  refine q_cI (q_runS (As := [.int (iI k)]) (rest := []) C (k_X3_isSetting l (x := k) ⟨by omega, by omega⟩) wd_428 wd_427 wd_13 wd_426 nd_X3_isSetting rfl (by decide) ⟨Nat.zero_le _, Nat.zero_le _⟩ rfl (Nat.le_of_ble_eq_true rfl) dX3_setting_1) ?_
  rintro z F' ⟨⟨rfl, hq1⟩ | ⟨rfl, hq1⟩, rfl⟩
  · refine q_if_ne C 17 dX3_setting_4 ⟨by decide, by decide⟩  (by decide) (fun _ => ?_) (fun h => absurd h (by decide))
    refine q_aload_n C 0 dX3_setting_17 rfl ?_
    refine q_get (T := TX3) (i := 0) C kd0 (by decide) rfl uws3 (by decide) wd_133 rfl dX3_setting_18 ?_
    refine q_iload_n C 1 dX3_setting_21 rfl ?_
    refine q_cI (q_runV (As := [.int (iI k)]) (rest := []) C (k_X0_settingValue l hb1 hB ⟨by omega, by omega⟩) hb1.k0 (by decide) rfl wd_433 wd_431 wd_432 wd_14 wd_430 nd_X0_settingValue rfl (by decide) ⟨Nat.zero_le _, Nat.zero_le _⟩ rfl (Nat.le_of_ble_eq_true rfl) dX3_setting_22) ?_
    rintro z F' ⟨rfl, rfl⟩
    refine q_iret C dX3_setting_25 ?_
    exact ⟨rfl, rfl⟩
  · refine q_if_ne C 17 dX3_setting_4 ⟨by decide, by decide⟩  (by decide) (fun h => absurd h (by decide)) (fun _ => ?_)
    exact absurd (hT.symm.trans (show settingT A k = 1 from (by unfold settingT; rw [if_pos (by omega)]))) (by decide)

set_option maxRecDepth 100000 in
set_option maxHeartbeats 4000000 in
theorem k_X3_whyNot (l : Launch) {w : WP} {F : FF} {A : AS} {x d y p : Int} (hA : CI F A) (hx : inR x) (hd : inR d) (hy : inR y) (hp : inR p) (hT : whyNotT A x d y p = 0) : Con l yX3_whyNot cX3_whyNot 6 (some .int) 4 w [.ref (adr w 0), .int (iI x), .int (iI d), .int (iI y), .int (iI p)] F (QI w (fun z F' => z = whyNotZ A x d y p ∧ F = F')) := by
  refine Con.mk (lv := [(0, .ref (adr w 0)), (1, .int (iI x)), (2, .int (iI d)), (3, .int (iI y)), (4, .int (iI p))]) (by decide) (Nat.le_of_ble_eq_true rfl) rfl ?_
  intro pg ev s0 mi be me co C hz
  have hB := hA.b
  have hI := hB.iv
  have hJ := CJ.refl hA
  have hv := hA.v.2.2.2.1
  obtain ⟨hx1, hx2⟩ := id hx
  obtain ⟨hd1, hd2⟩ := id hd
  obtain ⟨hy1, hy2⟩ := id hy
  obtain ⟨hp1, hp2⟩ := id hp
  refine q_iload_n C 1 dX3_whyNot_0 rfl ?_
  refine q_cI (q_runS (As := [.int (iI x)]) (rest := []) C (k_X3_isWord l (x := x) ⟨by omega, by omega⟩) wd_174 wd_173 wd_13 wd_172 nd_X3_isWord rfl (by decide) ⟨Nat.zero_le _, Nat.zero_le _⟩ rfl (Nat.le_of_ble_eq_true rfl) dX3_whyNot_1) ?_
  rintro z F' ⟨⟨rfl, hq1⟩ | ⟨rfl, hq1⟩, rfl⟩
  · refine q_if_eq C 18 dX3_whyNot_4 ⟨by decide, by decide⟩  (by decide) (fun h => absurd h (by decide)) (fun _ => ?_)
    refine q_aload_n C 0 dX3_whyNot_7 rfl ?_
    refine q_iload_n C 2 dX3_whyNot_8 rfl ?_
    refine q_iload_n C 3 dX3_whyNot_9 rfl ?_
    refine q_iload C 4 dX3_whyNot_10 rfl ?_
    refine q_cI (q_runV (As := [.int (iI d), .int (iI y), .int (iI p)]) (rest := []) C (k_X3_isPlaceToPut l hA (d := d) (y := y) (p := p) ⟨by omega, by omega⟩ ⟨by omega, by omega⟩ ⟨by omega, by omega⟩) kd0 (by decide) rfl wd_457 wd_456 wd_4 wd_13 wd_454 nd_X3_isPlaceToPut rfl (by decide) ⟨Nat.zero_le _, Nat.zero_le _⟩ rfl (Nat.le_of_ble_eq_true rfl) dX3_whyNot_12) ?_
    rintro z F' ⟨⟨rfl, hq12⟩ | ⟨rfl, hq12⟩, rfl⟩
    · refine q_if_ne C 28 dX3_whyNot_15 ⟨by decide, by decide⟩  (by decide) (fun _ => ?_) (fun h => absurd h (by decide))
      refine q_iload_n C 2 dX3_whyNot_28 rfl ?_
      refine q_iload_n C 3 dX3_whyNot_29 rfl ?_
      refine q_cI (q_runS (As := [.int (iI d), .int (iI y)]) (rest := []) C (k_X3_lineNumber l) wd_308 wd_307 wd_13 wd_306 nd_X3_lineNumber rfl (by decide) ⟨Nat.zero_le _, Nat.zero_le _⟩ rfl (Nat.le_of_ble_eq_true rfl) dX3_whyNot_30) ?_
      rintro z F' ⟨rfl, rfl⟩
      refine q_istore (lv' := [(5, .int (iI (4 * d + y))), (0, .ref (adr w 0)), (1, .int (iI x)), (2, .int (iI d)), (3, .int (iI y)), (4, .int (iI p))]) C dX3_whyNot_33 (by decide) rfl ?_
      refine q_aload_n C 1 dX3_whyNot_35 rfl ?_
      refine q_get (T := TX3) (i := 0) C kd0 (by decide) rfl uws3 (by decide) wd_133 rfl dX3_whyNot_36 ?_
      refine q_iload_n C 2 dX3_whyNot_39 rfl ?_
      refine q_cI (q_runV (As := [.int (iI x)]) (rest := []) C (k_X0_homeOf l hb1 hB ⟨by omega, by omega⟩) hb1.k0 (by decide) rfl wd_466 wd_464 wd_465 wd_14 wd_463 nd_X0_homeOf rfl (by decide) ⟨Nat.zero_le _, Nat.zero_le _⟩ rfl (Nat.le_of_ble_eq_true rfl) dX3_whyNot_40) ?_
      rintro z F' ⟨rfl, rfl⟩
      have q40 := home_range A.r x
      refine q_iload C 0 dX3_whyNot_43 rfl ?_
      refine q_icmp_ne C 52 dX3_whyNot_45 ⟨by omega, by omega⟩ ⟨by omega, by omega⟩ (by decide) (fun h45 => ?_) (fun h45 => ?_)
      · refine q_aload_n C 1 dX3_whyNot_52 rfl ?_
        refine q_get (T := TX3) (i := 0) C kd0 (by decide) rfl uws3 (by decide) wd_133 rfl dX3_whyNot_53 ?_
        refine q_iload_n C 2 dX3_whyNot_56 rfl ?_
        refine q_iload C 0 dX3_whyNot_57 rfl ?_
        refine q_iload C 5 dX3_whyNot_59 rfl ?_
        refine q_cI (q_runV (As := [.int (iI x), .int (iI (4 * d + y)), .int (iI p)]) (rest := []) C (k_X0_refusal l hb1 hB ⟨by omega, by omega⟩ ⟨by omega, by omega⟩ ⟨by omega, by omega⟩) hb1.k0 (by decide) rfl wd_470 wd_468 wd_469 wd_14 wd_467 nd_X0_refusal rfl (by decide) ⟨Nat.zero_le _, Nat.zero_le _⟩ rfl (Nat.le_of_ble_eq_true rfl) dX3_whyNot_61) ?_
        rintro z F' ⟨rfl, rfl⟩
        have qrr := rea_range A.r x (4 * d + y) p
        refine q_iret C dX3_whyNot_64 ?_
        exact ⟨(by unfold whyNotZ; first | (rw [if_pos (by omega)]; done) | (rw [if_neg (by omega)])), rfl⟩
      · refine q_iconst C (-1) dX3_whyNot_48 ?_
        refine q_goto C 64 dX3_whyNot_49 (by decide) ?_
        refine q_iret C dX3_whyNot_64 ?_
        exact ⟨(by unfold whyNotZ; first | (rw [if_pos (by omega)]; done) | (rw [if_neg (by omega)])), rfl⟩
    · refine q_if_ne C 28 dX3_whyNot_15 ⟨by decide, by decide⟩  (by decide) (fun h => absurd h (by decide)) (fun _ => ?_)
      exact absurd (hT.symm.trans (show whyNotT A x d y p = 1 from (by unfold whyNotT; rw [if_pos (by omega)]))) (by decide)
  · refine q_if_eq C 18 dX3_whyNot_4 ⟨by decide, by decide⟩  (by decide) (fun _ => ?_) (fun h => absurd h (by decide))
    exact absurd (hT.symm.trans (show whyNotT A x d y p = 1 from (by unfold whyNotT; rw [if_pos (by omega)]))) (by decide)

set_option maxRecDepth 100000 in
set_option maxHeartbeats 4000000 in
theorem k_X3_bestWord (l : Launch) {w : WP} {F : FF} {A : AS} {d y : Int} (hA : CI F A) (hd : inR d) (hy : inR y) (hT : bestWordT A d y = 0) : Con l yX3_bestWord cX3_bestWord 3 (some .int) 5 w [.ref (adr w 0), .int (iI d), .int (iI y)] F (QI w (fun z F' => z = bestWordZ A d y ∧ F = F')) := by
  refine Con.mk (lv := [(0, .ref (adr w 0)), (1, .int (iI d)), (2, .int (iI y))]) (by decide) (Nat.le_of_ble_eq_true rfl) rfl ?_
  intro pg ev s0 mi be me co C hz
  have hB := hA.b
  have hI := hB.iv
  have hJ := CJ.refl hA
  have hv := hA.v.2.2.2.1
  obtain ⟨hd1, hd2⟩ := id hd
  obtain ⟨hy1, hy2⟩ := id hy
  refine q_iload_n C 1 dX3_bestWord_0 rfl ?_
  refine q_iload_n C 2 dX3_bestWord_1 rfl ?_
  refine q_cI (q_runS (As := [.int (iI d), .int (iI y)]) (rest := []) C (k_X3_isLine l (x := d) (y := y) ⟨by omega, by omega⟩ ⟨by omega, by omega⟩) wd_301 wd_300 wd_13 wd_299 nd_X3_isLine rfl (by decide) ⟨Nat.zero_le _, Nat.zero_le _⟩ rfl (Nat.le_of_ble_eq_true rfl) dX3_bestWord_2) ?_
  rintro z F' ⟨⟨rfl, hq2⟩ | ⟨rfl, hq2⟩, rfl⟩
  · refine q_if_ne C 18 dX3_bestWord_5 ⟨by decide, by decide⟩  (by decide) (fun _ => ?_) (fun h => absurd h (by decide))
    refine q_aload_n C 0 dX3_bestWord_18 rfl ?_
    refine q_get (T := TX3) (i := 0) C kd0 (by decide) rfl uws3 (by decide) wd_133 rfl dX3_bestWord_19 ?_
    refine q_iload_n C 1 dX3_bestWord_22 rfl ?_
    refine q_iload_n C 2 dX3_bestWord_23 rfl ?_
    refine q_cI (q_runS (As := [.int (iI d), .int (iI y)]) (rest := [.ref (adr w 1)]) C (k_X3_lineNumber l) wd_308 wd_307 wd_13 wd_306 nd_X3_lineNumber rfl (by decide) ⟨Nat.zero_le _, Nat.zero_le _⟩ rfl (Nat.le_of_ble_eq_true rfl) dX3_bestWord_24) ?_
    rintro z F' ⟨rfl, rfl⟩
    refine q_cI (q_runV (As := [.int (iI (4 * d + y))]) (rest := []) C (k_X0_bestWordFor l hb1 hB ⟨by omega, by omega⟩) hb1.k0 (by decide) rfl wd_501 wd_499 wd_500 wd_14 wd_498 nd_X0_bestWordFor rfl (by decide) ⟨Nat.zero_le _, Nat.zero_le _⟩ rfl (Nat.le_of_ble_eq_true rfl) dX3_bestWord_27) ?_
    rintro z F' ⟨rfl, rfl⟩
    refine q_iret C dX3_bestWord_30 ?_
    exact ⟨rfl, rfl⟩
  · refine q_if_ne C 18 dX3_bestWord_5 ⟨by decide, by decide⟩  (by decide) (fun h => absurd h (by decide)) (fun _ => ?_)
    exact absurd (hT.symm.trans (show bestWordT A d y = 1 from (by unfold bestWordT; rw [if_pos (by omega)]))) (by decide)
