/-! the law's trials, its calls by number -/

set_option maxRecDepth 100000 in
set_option maxHeartbeats 4000000 in
theorem k_L_bestWord (l : Launch) {w : WP} {F : FF} {r : Rw} {y : Int} (hP : nP w = 114) (hL0 : LwP w 110 40) (hL1 : LwP w 111 16) (hL3 : LwP w 113 14) (hW : TW F 110 r) (hL : TL F 111 r) (hN : TN F 113 r) (hI : Iv r) (hy : 0 ≤ y ∧ y < 16) : ConM l yL_bestWord cL_bestWord 11 (some .int) 6 2 56 w [.ref (adr w 110), .ref (adr w 111), .ref (adr w 113), .int (iI y)] F (QI w (fun z F' => z = bf r y ∧ ∀ k, k ≠ 114 → k ≠ 115 → F' k = F k)) := by
  refine ConM.mk (lv := [(0, .ref (adr w 110)), (1, .ref (adr w 111)), (2, .ref (adr w 113)), (3, .int (iI y))]) (by decide) (Nat.le_of_ble_eq_true rfl) rfl ?_
  intro pg ev s0 mi be me co C hz
  refine q_bipush C 40 dL_bestWord_0 (by decide) ?_
  refine q_newaP 114 C 40 hP (by decide) (by decide) (by decide) dL_bestWord_2 (fun w1 hE1 hL114 hP1 C1 => ?_)
  refine q_lvE (lv' := [(0, .ref (adr w1 110)), (1, .ref (adr w1 111)), (2, .ref (adr w1 113)), (3, .int (iI y))]) (by rw [hE1.2.2.1 110 (hL0.2.1), hE1.2.2.1 111 (hL1.2.1), hE1.2.2.1 113 (hL3.2.1)]) ?_
  replace hL0 := hL0.ex hE1
  replace hL1 := hL1.ex hE1
  replace hL3 := hL3.ex hE1
  refine q_astore (lv' := [(4, .ref (adr w1 114)), (0, .ref (adr w1 110)), (1, .ref (adr w1 111)), (2, .ref (adr w1 113)), (3, .int (iI y))]) C1 dL_bestWord_4 (by decide) rfl ?_
  refine q_bipush C1 16 dL_bestWord_6 (by decide) ?_
  refine q_newaP 115 C1 16 hP1 (by decide) (by decide) (by decide) dL_bestWord_8 (fun w2 hE2 hL115 hP2 C2 => ?_)
  refine q_lvE (lv' := [(4, .ref (adr w2 114)), (0, .ref (adr w2 110)), (1, .ref (adr w2 111)), (2, .ref (adr w2 113)), (3, .int (iI y))]) (by rw [hE2.2.2.1 114 (hL114.2.1), hE2.2.2.1 110 (hL0.2.1), hE2.2.2.1 111 (hL1.2.1), hE2.2.2.1 113 (hL3.2.1)]) ?_
  replace hL0 := hL0.ex hE2
  replace hL1 := hL1.ex hE2
  replace hL3 := hL3.ex hE2
  replace hL114 := hL114.ex hE2
  refine q_astore (lv' := [(5, .ref (adr w2 115)), (4, .ref (adr w2 114)), (0, .ref (adr w2 110)), (1, .ref (adr w2 111)), (2, .ref (adr w2 113)), (3, .int (iI y))]) C2 dL_bestWord_10 (by decide) rfl ?_
  refine q_iconst C2 (-1) dL_bestWord_12 ?_
  refine q_istore (lv' := [(6, .int (iI (-1))), (5, .ref (adr w2 115)), (4, .ref (adr w2 114)), (0, .ref (adr w2 110)), (1, .ref (adr w2 111)), (2, .ref (adr w2 113)), (3, .int (iI y))]) C2 dL_bestWord_13 (by decide) rfl ?_
  refine q_iconst C2 (-1) dL_bestWord_15 ?_
  refine q_istore (lv' := [(7, .int (iI (-1))), (6, .int (iI (-1))), (5, .ref (adr w2 115)), (4, .ref (adr w2 114)), (0, .ref (adr w2 110)), (1, .ref (adr w2 111)), (2, .ref (adr w2 113)), (3, .int (iI y))]) C2 dL_bestWord_16 (by decide) rfl ?_
  have hWZ : TW (zer (zer F 114) 115) 110 r := hW.k (by rw [zer_k (by decide), zer_k (by decide)])
  refine q_aload_n C2 4 dL_bestWord_18 rfl ?_
  refine q_iload_n C2 7 dL_bestWord_19 rfl ?_
  refine q_cI (q_runS (As := [.ref (adr w2 110), .int (iI y)]) (rest := []) C2 (k_L_many (F := (zer (zer F 114) 115)) (r := r) l hL0 hWZ hI (y := y) ⟨by omega, by omega⟩) wd_350 wd_349 wd_12 wd_348 nd_L_many rfl (by decide) ⟨Nat.le_of_ble_eq_true rfl, Nat.le_of_ble_eq_true rfl⟩ rfl (Nat.le_of_ble_eq_true rfl) dL_bestWord_20) ?_
  rintro z F' ⟨rfl, rfl⟩
  have qs20 := hI.sz (l := y) (by omega) (by omega)
  refine q_istore (lv' := [(8, .int (iI (r y))), (7, .int (iI (-1))), (6, .int (iI (-1))), (5, .ref (adr w2 115)), (4, .ref (adr w2 114)), (0, .ref (adr w2 110)), (1, .ref (adr w2 111)), (2, .ref (adr w2 113)), (3, .int (iI y))]) C2 dL_bestWord_23 (by decide) rfl ?_
  refine q_bipush C2 39 dL_bestWord_25 (by decide) ?_
  refine q_istore (lv' := [(9, .int (iI 39)), (8, .int (iI (r y))), (7, .int (iI (-1))), (6, .int (iI (-1))), (5, .ref (adr w2 115)), (4, .ref (adr w2 114)), (0, .ref (adr w2 110)), (1, .ref (adr w2 111)), (2, .ref (adr w2 113)), (3, .int (iI y))]) C2 dL_bestWord_27 (by decide) rfl ?_
  refine q_lv (lv' := [(0, .ref (adr w2 110)), (1, .ref (adr w2 111)), (2, .ref (adr w2 113)), (3, .int (iI y)), (4, .ref (adr w2 114)), (5, .ref (adr w2 115)), (6, .int (iI (-1))), (7, .int (iI (-1))), (8, .int (iI (r y))), (9, .int (iI 39))]) [6, 7, 8, 9, 5, 4, 3, 2, 1, 0] rfl ?_
  refine wf4 (P := fun (i : Int) (bw : Int) (mo : Int) (G : FF) => Wq pg l ev _ s0 mi _ be me co _ w2 _ _ _ 29 [(0, .ref (adr w2 110)), (1, .ref (adr w2 111)), (2, .ref (adr w2 113)), (3, .int (iI y)), (4, .ref (adr w2 114)), (5, .ref (adr w2 115)), (6, .int (iI bw)), (7, .int (iI mo)), (8, .int (iI (r y))), (9, .int (iI i))] [] G) (I := fun (i : Int) (bw : Int) (mo : Int) (G : FF) => -1 ≤ i ∧ i ≤ 39 ∧ BW9 r y i bw mo ∧ ∀ k, k ≠ 114 → k ≠ 115 → G k = F k) (μ := fun (i : Int) (bw : Int) (mo : Int) (G : FF) => (i + 1).toNat) ?_ 39 (-1) (-1) (zer (zer F 114) 115) (⟨by omega, by omega, BW_0, fun k k1 k2 => by rw [zer_k k2, zer_k k1]⟩)
  intro i bw mo G hI' ih29
  (try dsimp only at hI'); (try dsimp only at ih29); (try dsimp only)
  obtain ⟨hi0, hi1, hB, hG⟩ := hI'
  have hmo := BW_mo hI hy hB
  have hWG : TW G 110 r := hW.k (hG 110 (by decide) (by decide))
  have hLG : TL G 111 r := hL.k (hG 111 (by decide) (by decide))
  have hNG : TN G 113 r := hN.k (hG 113 (by decide) (by decide))
  refine q_iload C2 9 dL_bestWord_29 rfl ?_
  refine q_if_lt C2 128 dL_bestWord_31 ⟨by omega, by omega⟩  (by decide) (fun h31 => ?_) (fun h31 => ?_)
  · refine q_iload C2 6 dL_bestWord_128 rfl ?_
    refine q_back hE2 ?_
    refine q_back hE1 ?_
    refine q_miret C ⟨Nat.le_of_ble_eq_true rfl, Nat.le_of_ble_eq_true rfl⟩ dL_bestWord_130 ?_
    exact ⟨BW_bf hI hy hB (by omega), hG⟩
  · have hf := hWG i (by omega) (by omega)
    have hc := whv_c hI i
    refine q_aload_n C2 0 dL_bestWord_34 rfl ?_
    refine q_iload C2 9 dL_bestWord_35 rfl ?_
    refine q_iald9 C2 hL0 ⟨by omega, by omega⟩ dL_bestWord_37 ?_
    refine q_if_ge C2 122 dL_bestWord_38 ⟨by omega, by omega⟩  (by decide) (fun h38 => ?_) (fun h38 => ?_)
    · refine q_iinc (lv' := [(9, .int (iI (i + (-1)))), (0, .ref (adr w2 110)), (1, .ref (adr w2 111)), (2, .ref (adr w2 113)), (3, .int (iI y)), (4, .ref (adr w2 114)), (5, .ref (adr w2 115)), (6, .int (iI bw)), (7, .int (iI mo)), (8, .int (iI (r y)))]) C2 9 dL_bestWord_122 rfl (by decide) rfl ?_
      refine q_goto C2 29 dL_bestWord_125 (by decide) ?_
      refine q_lv (lv' := [(0, .ref (adr w2 110)), (1, .ref (adr w2 111)), (2, .ref (adr w2 113)), (3, .int (iI y)), (4, .ref (adr w2 114)), (5, .ref (adr w2 115)), (6, .int (iI bw)), (7, .int (iI mo)), (8, .int (iI (r y))), (9, .int (iI (i + (-1))))]) [1, 2, 3, 4, 5, 6, 7, 8, 9, 0] rfl ?_
      exact ih29 (i + (-1)) bw mo G (⟨by omega, by omega, by first | exact BW_in hB ⟨by omega, by omega⟩ ⟨hq1, by omega⟩ rfl (by omega) | exact BW_out (z := dw (ins r i y (r y)) (y / 4)) hI hy hB ⟨by omega, by omega⟩ ⟨hq1, by omega⟩ rfl (by omega) | exact BW_no hB (by unfold qf; omega) | (exfalso; omega), by first | exact hG | exact fun k k1 k2 => by rw [hfG k k1 k2, cpF_k k2, cpF_k k1]; exact hG k k1 k2⟩) (by omega)
    · refine q_aload_n C2 0 dL_bestWord_41 rfl ?_
      refine q_aload_n C2 2 dL_bestWord_42 rfl ?_
      refine q_iload C2 9 dL_bestWord_43 rfl ?_
      refine q_iload_n C2 3 dL_bestWord_45 rfl ?_
      refine q_iload C2 8 dL_bestWord_46 rfl ?_
      refine q_cI (q_runS (As := [.ref (adr w2 110), .ref (adr w2 113), .int (iI i), .int (iI y), .int (iI (r y))]) (rest := []) C2 (k_L_reason (F := G) (r := r) l hL0 hWG hI hL3 hNG (x := i) (y := y) (p := r y) ⟨by omega, by omega⟩ ⟨by omega, by omega⟩ ⟨by omega, by omega⟩) wd_449 wd_448 wd_12 wd_447 nd_L_reason rfl (by decide) ⟨Nat.le_of_ble_eq_true rfl, Nat.le_of_ble_eq_true rfl⟩ rfl (Nat.le_of_ble_eq_true rfl) dL_bestWord_48) ?_
      rintro z F' ⟨rfl, rfl⟩
      have qq48 := rea_range r i y (r y)
      refine q_if_ne C2 122 dL_bestWord_51 ⟨by omega, by omega⟩  (by decide) (fun h51 => ?_) (fun h51 => ?_)
      · refine q_iinc (lv' := [(9, .int (iI (i + (-1)))), (0, .ref (adr w2 110)), (1, .ref (adr w2 111)), (2, .ref (adr w2 113)), (3, .int (iI y)), (4, .ref (adr w2 114)), (5, .ref (adr w2 115)), (6, .int (iI bw)), (7, .int (iI mo)), (8, .int (iI (r y)))]) C2 9 dL_bestWord_122 rfl (by decide) rfl ?_
        refine q_goto C2 29 dL_bestWord_125 (by decide) ?_
        refine q_lv (lv' := [(0, .ref (adr w2 110)), (1, .ref (adr w2 111)), (2, .ref (adr w2 113)), (3, .int (iI y)), (4, .ref (adr w2 114)), (5, .ref (adr w2 115)), (6, .int (iI bw)), (7, .int (iI mo)), (8, .int (iI (r y))), (9, .int (iI (i + (-1))))]) [1, 2, 3, 4, 5, 6, 7, 8, 9, 0] rfl ?_
        exact ih29 (i + (-1)) bw mo G (⟨by omega, by omega, by first | exact BW_in hB ⟨by omega, by omega⟩ ⟨hq1, by omega⟩ rfl (by omega) | exact BW_out (z := dw (ins r i y (r y)) (y / 4)) hI hy hB ⟨by omega, by omega⟩ ⟨hq1, by omega⟩ rfl (by omega) | exact BW_no hB (by unfold qf; omega) | (exfalso; omega), by first | exact hG | exact fun k k1 k2 => by rw [hfG k k1 k2, cpF_k k2, cpF_k k1]; exact hG k k1 k2⟩) (by omega)
      · have hq1 : home r i = -1 := by omega
        have qlt := rea_lt hI (l := y) hy h51
        refine q_aload_n C2 0 dL_bestWord_54 rfl ?_
        refine q_aload C2 4 dL_bestWord_55 rfl ?_
        refine q_cV (q_runS (As := [.ref (adr w2 110), .ref (adr w2 114)]) (rest := []) C2 (k_L_copy (F := G) (N := 40) l hL0 hL114) wd_508 wd_507 wd_12 wd_506 nd_L_copy rfl (by decide) ⟨Nat.le_of_ble_eq_true rfl, Nat.le_of_ble_eq_true rfl⟩ rfl (Nat.le_of_ble_eq_true rfl) dL_bestWord_57) ?_
        rintro F' rfl
        refine q_aload_n C2 1 dL_bestWord_60 rfl ?_
        refine q_aload C2 5 dL_bestWord_61 rfl ?_
        refine q_cV (q_runS (As := [.ref (adr w2 111), .ref (adr w2 115)]) (rest := []) C2 (k_L_copy (F := (cpF G 110 114)) (N := 16) l hL1 hL115) wd_508 wd_507 wd_12 wd_506 nd_L_copy rfl (by decide) ⟨Nat.le_of_ble_eq_true rfl, Nat.le_of_ble_eq_true rfl⟩ rfl (Nat.le_of_ble_eq_true rfl) dL_bestWord_63) ?_
        rintro F' rfl
        have hWc : TW (cpF (cpF G 110 114) 111 115) 114 r := fun x x0 x1 => by rw [cpF_k (by decide), cpF_at]; exact hWG x x0 x1
        have hLc : TL (cpF (cpF G 110 114) 111 115) 115 r := fun x x0 x1 => by rw [cpF_at, cpF_k (by decide)]; exact hLG x x0 x1
        refine q_aload C2 4 dL_bestWord_66 rfl ?_
        refine q_aload C2 5 dL_bestWord_68 rfl ?_
        refine q_iload C2 9 dL_bestWord_70 rfl ?_
        refine q_iload_n C2 3 dL_bestWord_72 rfl ?_
        refine q_iload C2 8 dL_bestWord_73 rfl ?_
        refine q_cV (q_runS (As := [.ref (adr w2 114), .ref (adr w2 115), .int (iI i), .int (iI y), .int (iI (r y))]) (rest := []) C2 (k_L_comes (F := (cpF (cpF G 110 114) 111 115)) (r := r) l hL114 hWc hI hL115 hLc (by decide) (x := i) (y := y) (p := r y) ⟨by omega, by omega⟩ hq1 ⟨by omega, by omega⟩ ⟨by omega, by omega⟩ (by omega)) wd_511 wd_510 wd_12 wd_509 nd_L_comes rfl (by decide) ⟨Nat.le_of_ble_eq_true rfl, Nat.le_of_ble_eq_true rfl⟩ rfl (Nat.le_of_ble_eq_true rfl) dL_bestWord_75) ?_
        rintro G1 ⟨hWG1, hLG1, hfG1⟩
        have hIG1 := ins_iv hI (x := i) ⟨by omega, by omega⟩ hq1 hy (q := r y) ⟨by omega, by omega⟩ (by omega)
        refine q_aload C2 4 dL_bestWord_78 rfl ?_
        refine q_aload C2 5 dL_bestWord_80 rfl ?_
        refine q_iload_n C2 3 dL_bestWord_82 rfl ?_
        refine q_iconst C2 4 dL_bestWord_83 ?_
        refine q_idiv C2 dL_bestWord_84 ⟨by omega, by omega⟩ ⟨by decide, by decide⟩ ?_
        refine q_cI (q_runS (As := [.ref (adr w2 114), .ref (adr w2 115), .int (iI (y / 4))]) (rest := []) C2 (k_L_doorWorth (F := G1) (r := (ins r i y (r y))) l hL114 hWG1 hIG1 hL115 hLG1 (d := y / 4) ⟨by omega, by omega⟩) wd_371 wd_370 wd_12 wd_369 nd_L_doorWorth rfl (by decide) ⟨Nat.le_of_ble_eq_true rfl, Nat.le_of_ble_eq_true rfl⟩ rfl (Nat.le_of_ble_eq_true rfl) dL_bestWord_85) ?_
        rintro z F' ⟨rfl, rfl⟩
        have qd85 := dw_range (d := y / 4) hIG1 (by omega) (by omega)
        refine q_istore (lv' := [(10, .int (iI (dw (ins r i y (r y)) (y / 4)))), (0, .ref (adr w2 110)), (1, .ref (adr w2 111)), (2, .ref (adr w2 113)), (3, .int (iI y)), (4, .ref (adr w2 114)), (5, .ref (adr w2 115)), (6, .int (iI bw)), (7, .int (iI mo)), (8, .int (iI (r y))), (9, .int (iI i))]) C2 dL_bestWord_88 (by decide) rfl ?_
        refine q_iload C2 0 dL_bestWord_90 rfl ?_
        refine q_iload C2 8 dL_bestWord_92 rfl ?_
        refine q_icmp_lt C2 102 dL_bestWord_94 ⟨by omega, by omega⟩ ⟨by omega, by omega⟩ (by decide) (fun h94 => ?_) (fun h94 => ?_)
        · refine q_iload C2 7 dL_bestWord_102 rfl ?_
          refine q_istore (lv' := [(6, .int (iI bw)), (10, .int (iI (dw (ins r i y (r y)) (y / 4)))), (0, .ref (adr w2 110)), (1, .ref (adr w2 111)), (2, .ref (adr w2 113)), (3, .int (iI y)), (4, .ref (adr w2 114)), (5, .ref (adr w2 115)), (7, .int (iI mo)), (8, .int (iI (r y))), (9, .int (iI i))]) C2 dL_bestWord_104 (by decide) rfl ?_
          refine q_iload C2 1 dL_bestWord_106 rfl ?_
          refine q_iload C2 8 dL_bestWord_108 rfl ?_
          refine q_icmp_lt C2 118 dL_bestWord_110 ⟨by omega, by omega⟩ ⟨by omega, by omega⟩ (by decide) (fun h110 => ?_) (fun h110 => ?_)
          · refine q_iload C2 8 dL_bestWord_118 rfl ?_
            refine q_istore (lv' := [(7, .int (iI mo)), (6, .int (iI bw)), (10, .int (iI (dw (ins r i y (r y)) (y / 4)))), (0, .ref (adr w2 110)), (1, .ref (adr w2 111)), (2, .ref (adr w2 113)), (3, .int (iI y)), (4, .ref (adr w2 114)), (5, .ref (adr w2 115)), (8, .int (iI (r y))), (9, .int (iI i))]) C2 dL_bestWord_120 (by decide) rfl ?_
            refine q_iinc (lv' := [(9, .int (iI (i + (-1)))), (7, .int (iI mo)), (6, .int (iI bw)), (10, .int (iI (dw (ins r i y (r y)) (y / 4)))), (0, .ref (adr w2 110)), (1, .ref (adr w2 111)), (2, .ref (adr w2 113)), (3, .int (iI y)), (4, .ref (adr w2 114)), (5, .ref (adr w2 115)), (8, .int (iI (r y)))]) C2 10 dL_bestWord_122 rfl (by decide) rfl ?_
            refine q_goto C2 29 dL_bestWord_125 (by decide) ?_
            refine q_lv (lv' := [(0, .ref (adr w2 110)), (1, .ref (adr w2 111)), (2, .ref (adr w2 113)), (3, .int (iI y)), (4, .ref (adr w2 114)), (5, .ref (adr w2 115)), (6, .int (iI bw)), (7, .int (iI mo)), (8, .int (iI (r y))), (9, .int (iI (i + (-1))))]) [4, 5, 6, 7, 8, 9, 2, 1, 10, 0] rfl ?_
            exact ih29 (i + (-1)) bw mo G1 (⟨by omega, by omega, by first | exact BW_in hB ⟨by omega, by omega⟩ ⟨hq1, by omega⟩ rfl (by omega) | exact BW_out (z := dw (ins r i y (r y)) (y / 4)) hI hy hB ⟨by omega, by omega⟩ ⟨hq1, by omega⟩ rfl (by omega) | exact BW_no hB (by unfold qf; omega) | (exfalso; omega), by first | exact hG | exact fun k k1 k2 => by rw [hfG1 k k1 k2, cpF_k k2, cpF_k k1]; exact hG k k1 k2⟩) (by omega)
          · refine q_iload C2 1 dL_bestWord_113 rfl ?_
            refine q_goto C2 120 dL_bestWord_115 (by decide) ?_
            refine q_istore (lv' := [(7, .int (iI (dw (ins r i y (r y)) (y / 4)))), (6, .int (iI bw)), (10, .int (iI (dw (ins r i y (r y)) (y / 4)))), (0, .ref (adr w2 110)), (1, .ref (adr w2 111)), (2, .ref (adr w2 113)), (3, .int (iI y)), (4, .ref (adr w2 114)), (5, .ref (adr w2 115)), (8, .int (iI (r y))), (9, .int (iI i))]) C2 dL_bestWord_120 (by decide) rfl ?_
            refine q_iinc (lv' := [(9, .int (iI (i + (-1)))), (7, .int (iI (dw (ins r i y (r y)) (y / 4)))), (6, .int (iI bw)), (10, .int (iI (dw (ins r i y (r y)) (y / 4)))), (0, .ref (adr w2 110)), (1, .ref (adr w2 111)), (2, .ref (adr w2 113)), (3, .int (iI y)), (4, .ref (adr w2 114)), (5, .ref (adr w2 115)), (8, .int (iI (r y)))]) C2 10 dL_bestWord_122 rfl (by decide) rfl ?_
            refine q_goto C2 29 dL_bestWord_125 (by decide) ?_
            refine q_lv (lv' := [(0, .ref (adr w2 110)), (1, .ref (adr w2 111)), (2, .ref (adr w2 113)), (3, .int (iI y)), (4, .ref (adr w2 114)), (5, .ref (adr w2 115)), (6, .int (iI bw)), (7, .int (iI (dw (ins r i y (r y)) (y / 4)))), (8, .int (iI (r y))), (9, .int (iI (i + (-1))))]) [4, 5, 6, 7, 8, 9, 2, 1, 10, 0] rfl ?_
            exact ih29 (i + (-1)) bw (dw (ins r i y (r y)) (y / 4)) G1 (⟨by omega, by omega, by first | exact BW_in hB ⟨by omega, by omega⟩ ⟨hq1, by omega⟩ rfl (by omega) | exact BW_out (z := dw (ins r i y (r y)) (y / 4)) hI hy hB ⟨by omega, by omega⟩ ⟨hq1, by omega⟩ rfl (by omega) | exact BW_no hB (by unfold qf; omega) | (exfalso; omega), by first | exact hG | exact fun k k1 k2 => by rw [hfG1 k k1 k2, cpF_k k2, cpF_k k1]; exact hG k k1 k2⟩) (by omega)
        · refine q_iload C2 10 dL_bestWord_97 rfl ?_
          refine q_goto C2 104 dL_bestWord_99 (by decide) ?_
          refine q_istore (lv' := [(6, .int (iI i)), (10, .int (iI (dw (ins r i y (r y)) (y / 4)))), (0, .ref (adr w2 110)), (1, .ref (adr w2 111)), (2, .ref (adr w2 113)), (3, .int (iI y)), (4, .ref (adr w2 114)), (5, .ref (adr w2 115)), (7, .int (iI mo)), (8, .int (iI (r y))), (9, .int (iI i))]) C2 dL_bestWord_104 (by decide) rfl ?_
          refine q_iload C2 1 dL_bestWord_106 rfl ?_
          refine q_iload C2 8 dL_bestWord_108 rfl ?_
          refine q_icmp_lt C2 118 dL_bestWord_110 ⟨by omega, by omega⟩ ⟨by omega, by omega⟩ (by decide) (fun h110 => ?_) (fun h110 => ?_)
          · refine q_iload C2 8 dL_bestWord_118 rfl ?_
            refine q_istore (lv' := [(7, .int (iI mo)), (6, .int (iI i)), (10, .int (iI (dw (ins r i y (r y)) (y / 4)))), (0, .ref (adr w2 110)), (1, .ref (adr w2 111)), (2, .ref (adr w2 113)), (3, .int (iI y)), (4, .ref (adr w2 114)), (5, .ref (adr w2 115)), (8, .int (iI (r y))), (9, .int (iI i))]) C2 dL_bestWord_120 (by decide) rfl ?_
            refine q_iinc (lv' := [(9, .int (iI (i + (-1)))), (7, .int (iI mo)), (6, .int (iI i)), (10, .int (iI (dw (ins r i y (r y)) (y / 4)))), (0, .ref (adr w2 110)), (1, .ref (adr w2 111)), (2, .ref (adr w2 113)), (3, .int (iI y)), (4, .ref (adr w2 114)), (5, .ref (adr w2 115)), (8, .int (iI (r y)))]) C2 10 dL_bestWord_122 rfl (by decide) rfl ?_
            refine q_goto C2 29 dL_bestWord_125 (by decide) ?_
            refine q_lv (lv' := [(0, .ref (adr w2 110)), (1, .ref (adr w2 111)), (2, .ref (adr w2 113)), (3, .int (iI y)), (4, .ref (adr w2 114)), (5, .ref (adr w2 115)), (6, .int (iI i)), (7, .int (iI mo)), (8, .int (iI (r y))), (9, .int (iI (i + (-1))))]) [4, 5, 6, 7, 8, 9, 2, 1, 10, 0] rfl ?_
            exact ih29 (i + (-1)) i mo G1 (⟨by omega, by omega, by first | exact BW_in hB ⟨by omega, by omega⟩ ⟨hq1, by omega⟩ rfl (by omega) | exact BW_out (z := dw (ins r i y (r y)) (y / 4)) hI hy hB ⟨by omega, by omega⟩ ⟨hq1, by omega⟩ rfl (by omega) | exact BW_no hB (by unfold qf; omega) | (exfalso; omega), by first | exact hG | exact fun k k1 k2 => by rw [hfG1 k k1 k2, cpF_k k2, cpF_k k1]; exact hG k k1 k2⟩) (by omega)
          · refine q_iload C2 1 dL_bestWord_113 rfl ?_
            refine q_goto C2 120 dL_bestWord_115 (by decide) ?_
            refine q_istore (lv' := [(7, .int (iI (dw (ins r i y (r y)) (y / 4)))), (6, .int (iI i)), (10, .int (iI (dw (ins r i y (r y)) (y / 4)))), (0, .ref (adr w2 110)), (1, .ref (adr w2 111)), (2, .ref (adr w2 113)), (3, .int (iI y)), (4, .ref (adr w2 114)), (5, .ref (adr w2 115)), (8, .int (iI (r y))), (9, .int (iI i))]) C2 dL_bestWord_120 (by decide) rfl ?_
            refine q_iinc (lv' := [(9, .int (iI (i + (-1)))), (7, .int (iI (dw (ins r i y (r y)) (y / 4)))), (6, .int (iI i)), (10, .int (iI (dw (ins r i y (r y)) (y / 4)))), (0, .ref (adr w2 110)), (1, .ref (adr w2 111)), (2, .ref (adr w2 113)), (3, .int (iI y)), (4, .ref (adr w2 114)), (5, .ref (adr w2 115)), (8, .int (iI (r y)))]) C2 10 dL_bestWord_122 rfl (by decide) rfl ?_
            refine q_goto C2 29 dL_bestWord_125 (by decide) ?_
            refine q_lv (lv' := [(0, .ref (adr w2 110)), (1, .ref (adr w2 111)), (2, .ref (adr w2 113)), (3, .int (iI y)), (4, .ref (adr w2 114)), (5, .ref (adr w2 115)), (6, .int (iI i)), (7, .int (iI (dw (ins r i y (r y)) (y / 4)))), (8, .int (iI (r y))), (9, .int (iI (i + (-1))))]) [4, 5, 6, 7, 8, 9, 2, 1, 10, 0] rfl ?_
            exact ih29 (i + (-1)) i (dw (ins r i y (r y)) (y / 4)) G1 (⟨by omega, by omega, by first | exact BW_in hB ⟨by omega, by omega⟩ ⟨hq1, by omega⟩ rfl (by omega) | exact BW_out (z := dw (ins r i y (r y)) (y / 4)) hI hy hB ⟨by omega, by omega⟩ ⟨hq1, by omega⟩ rfl (by omega) | exact BW_no hB (by unfold qf; omega) | (exfalso; omega), by first | exact hG | exact fun k k1 k2 => by rw [hfG1 k k1 k2, cpF_k k2, cpF_k k1]; exact hG k k1 k2⟩) (by omega)

set_option maxRecDepth 100000 in
set_option maxHeartbeats 4000000 in
theorem k_L_would (l : Launch) {w : WP} {F : FF} {A : AS} {x : Int} (hP : nP w = 114) (hL0 : LwP w 110 40) (hL1 : LwP w 111 16) (hL3 : LwP w 113 14) (hL2 : LwP w 112 40) (hTA : TA F 110 111 113 112 A.r) (hA : CI F A) : ConM l yL_would cL_would 17 (some .boolean) 8 6 166 w [.ref (adr w 0), .ref (adr w 110), .ref (adr w 111), .ref (adr w 113), .ref (adr w 112), .int (iI x)] F (QI w (fun z F' => z = 1 ∧ CI F' A ∧ TA F' 110 111 113 112 A.r)) := by
  refine ConM.mk (lv := [(0, .ref (adr w 0)), (1, .ref (adr w 110)), (2, .ref (adr w 111)), (3, .ref (adr w 113)), (4, .ref (adr w 112)), (5, .int (iI x))]) (by decide) (Nat.le_of_ble_eq_true rfl) rfl ?_
  intro pg ev s0 mi be me co C hz
  obtain ⟨hW, hL, hN, hT, hI⟩ := id hTA
  refine q_iload C 5 dL_would_0 rfl ?_
  refine q_bipush C 16 dL_would_2 (by decide) ?_
  refine q_cI (q_runS (As := [.int (iI x), .int (iI 16)]) (rest := []) C (k_L_low (F := F) l (x := x) (n := 16) ⟨by decide, by decide⟩) wd_163 wd_162 wd_12 wd_161 nd_L_low rfl (by decide) ⟨Nat.le_of_ble_eq_true rfl, Nat.le_of_ble_eq_true rfl⟩ rfl (Nat.le_of_ble_eq_true rfl) dL_would_4) ?_
  rintro z F' ⟨rfl, rfl⟩
  have qlo4 := lo_range x 16 (by omega)
  refine q_istore (lv' := [(6, .int (iI (lo x 16))), (0, .ref (adr w 0)), (1, .ref (adr w 110)), (2, .ref (adr w 111)), (3, .ref (adr w 113)), (4, .ref (adr w 112)), (5, .int (iI x))]) C dL_would_7 (by decide) rfl ?_
  refine q_iload C 6 dL_would_9 rfl ?_
  refine q_iconst C 4 dL_would_11 ?_
  refine q_ishr C (srI x 4) (srI_e _ _) dL_would_12 ?_
  refine q_bipush C 40 dL_would_13 (by decide) ?_
  refine q_cI (q_runS (As := [.int (iI (srI x 4)), .int (iI 40)]) (rest := []) C (k_L_low (F := F) l (x := srI x 4) (n := 40) ⟨by decide, by decide⟩) wd_163 wd_162 wd_12 wd_161 nd_L_low rfl (by decide) ⟨Nat.le_of_ble_eq_true rfl, Nat.le_of_ble_eq_true rfl⟩ rfl (Nat.le_of_ble_eq_true rfl) dL_would_15) ?_
  rintro z F' ⟨rfl, rfl⟩
  have qlo15 := lo_range (srI x 4) 40 (by omega)
  refine q_istore (lv' := [(7, .int (iI (lo (srI x 4) 40))), (6, .int (iI (lo x 16))), (0, .ref (adr w 0)), (1, .ref (adr w 110)), (2, .ref (adr w 111)), (3, .ref (adr w 113)), (4, .ref (adr w 112)), (5, .int (iI x))]) C dL_would_18 (by decide) rfl ?_
  refine q_iload C 7 dL_would_20 rfl ?_
  refine q_bipush C 9 dL_would_22 (by decide) ?_
  refine q_ishr C (srI x 9) (srI_e _ _) dL_would_24 ?_
  refine q_aload_n C 3 dL_would_25 rfl ?_
  refine q_iload C 1 dL_would_26 rfl ?_
  refine q_cI (q_runS (As := [.ref (adr w 110), .int (iI (lo x 16))]) (rest := [.int (iI (srI x 9))]) C (k_L_many (F := F) (r := A.r) l hL0 hW hI (y := lo x 16) ⟨by omega, by omega⟩) wd_350 wd_349 wd_12 wd_348 nd_L_many rfl (by decide) ⟨Nat.le_of_ble_eq_true rfl, Nat.le_of_ble_eq_true rfl⟩ rfl (Nat.le_of_ble_eq_true rfl) dL_would_28) ?_
  rintro z F' ⟨rfl, rfl⟩
  have qs28 := hI.sz (l := lo x 16) (by omega) (by omega)
  refine q_iconst C 1 dL_would_31 ?_
  refine q_iadd C dL_would_32 ?_
  refine q_cI (q_runS (As := [.int (iI (srI x 9)), .int (iI ((A.r (lo x 16)) + 1))]) (rest := []) C (k_L_low (F := F) l (x := srI x 9) (n := (A.r (lo x 16)) + 1) ⟨by omega, by omega⟩) wd_163 wd_162 wd_12 wd_161 nd_L_low rfl (by decide) ⟨Nat.le_of_ble_eq_true rfl, Nat.le_of_ble_eq_true rfl⟩ rfl (Nat.le_of_ble_eq_true rfl) dL_would_33) ?_
  rintro z F' ⟨rfl, rfl⟩
  have qlo33 := lo_range (srI x 9) ((A.r (lo x 16)) + 1) (by omega)
  refine q_istore (lv' := [(8, .int (iI (lo (srI x 9) ((A.r (lo x 16)) + 1)))), (7, .int (iI (lo (srI x 4) 40))), (6, .int (iI (lo x 16))), (0, .ref (adr w 0)), (1, .ref (adr w 110)), (2, .ref (adr w 111)), (3, .ref (adr w 113)), (4, .ref (adr w 112)), (5, .int (iI x))]) C dL_would_36 (by decide) rfl ?_
  have hf := hW (lo (srI x 4) 40) (by omega) (by omega)
  have hc := whv_c hI (lo (srI x 4) 40)
  refine q_aload_n C 4 dL_would_38 rfl ?_
  refine q_iload C 1 dL_would_39 rfl ?_
  refine q_iload C 2 dL_would_41 rfl ?_
  refine q_cI (q_runS (As := [.ref (adr w 110), .int (iI (lo (srI x 4) 40)), .int (iI (lo x 16))]) (rest := []) C (k_L_isOn (F := F) l hL0 (x := lo (srI x 4) 40) (y := lo x 16) ⟨by omega, by omega⟩ ⟨by omega, by omega⟩ ⟨by omega, by omega⟩) wd_294 wd_293 wd_12 wd_292 nd_L_isOn rfl (by decide) ⟨Nat.le_of_ble_eq_true rfl, Nat.le_of_ble_eq_true rfl⟩ rfl (Nat.le_of_ble_eq_true rfl) dL_would_43) ?_
  rintro z F' ⟨⟨rfl, hq43⟩ | ⟨rfl, hq43⟩, rfl⟩
  · refine q_if_eq C 53 dL_would_46 ⟨by decide, by decide⟩  (by decide) (fun h => absurd h (by decide)) (fun _ => ?_)
    refine q_iconst C (-1) dL_would_49 ?_
    refine q_goto C 64 dL_would_50 (by decide) ?_
    refine q_istore (lv' := [(9, .int (iI (-1))), (8, .int (iI (lo (srI x 9) ((A.r (lo x 16)) + 1)))), (7, .int (iI (lo (srI x 4) 40))), (6, .int (iI (lo x 16))), (0, .ref (adr w 0)), (1, .ref (adr w 110)), (2, .ref (adr w 111)), (3, .ref (adr w 113)), (4, .ref (adr w 112)), (5, .int (iI x))]) C dL_would_64 (by decide) rfl ?_
    refine q_aload_n C 4 dL_would_66 rfl ?_
    refine q_iload C 2 dL_would_67 rfl ?_
    refine q_iload C 3 dL_would_69 rfl ?_
    refine q_iconst C 4 dL_would_71 ?_
    refine q_idiv C dL_would_72 ⟨by omega, by omega⟩ ⟨by decide, by decide⟩ ?_
    refine q_iload C 3 dL_would_73 rfl ?_
    refine q_iconst C 4 dL_would_75 ?_
    refine q_irem C dL_would_76 ⟨by omega, by omega⟩ ⟨by decide, by decide⟩ ?_
    refine q_iload C 1 dL_would_77 rfl ?_
    refine q_cI (q_runV (As := [.int (iI (lo (srI x 4) 40)), .int (iI ((lo x 16) / 4)), .int (iI ((lo x 16) % 4)), .int (iI (lo (srI x 9) ((A.r (lo x 16)) + 1)))]) (rest := []) C ((k_X3_whyNot (F := F) l hA (x := lo (srI x 4) 40) (d := (lo x 16) / 4) (y := (lo x 16) % 4) (p := lo (srI x 9) ((A.r (lo x 16)) + 1)) ⟨by omega, by omega⟩ ⟨by omega, by omega⟩ ⟨by omega, by omega⟩ ⟨by omega, by omega⟩ (by unfold whyNotT; rw [show 4 * ((lo x 16) / 4) + (lo x 16) % 4 = lo x 16 by omega, if_neg (by omega)])).post (fun z F' h => (⟨h.1.trans (by show (if home A.r (lo (srI x 4) 40) = 4 * ((lo x 16) / 4) + (lo x 16) % 4 then -1 else rea A.r (lo (srI x 4) 40) (4 * ((lo x 16) / 4) + (lo x 16) % 4) (lo (srI x 9) ((A.r (lo x 16)) + 1))) = _; rw [show 4 * ((lo x 16) / 4) + (lo x 16) % 4 = lo x 16 by omega]), h.2⟩ : z = (if home A.r (lo (srI x 4) 40) = lo x 16 then -1 else rea A.r (lo (srI x 4) 40) (lo x 16) (lo (srI x 9) ((A.r (lo x 16)) + 1))) ∧ F = F'))) kd0 (by decide) rfl wd_453 wd_451 wd_452 wd_13 wd_450 nd_X3_whyNot rfl (by decide) ⟨Nat.le_of_ble_eq_true rfl, Nat.le_of_ble_eq_true rfl⟩ rfl (Nat.le_of_ble_eq_true rfl) dL_would_79) ?_
    rintro z F' ⟨rfl, rfl⟩
    refine q_iload C 0 dL_would_82 rfl ?_
    refine q_eqn C 123 dL_would_84 (by decide) (by first | rw [if_pos (by omega)] | rw [if_neg (by omega)]) ?_
    refine q_aload_n C 4 dL_would_87 rfl ?_
    refine q_cI (q_runV (As := []) (rest := []) C (k_X3_prey (F := F) l hA) kd0 (by decide) rfl wd_478 wd_476 wd_477 wd_13 wd_475 nd_X3_prey rfl (by decide) ⟨Nat.le_of_ble_eq_true rfl, Nat.le_of_ble_eq_true rfl⟩ rfl (Nat.le_of_ble_eq_true rfl) dL_would_88) ?_
    rintro z F' ⟨rfl, rfl⟩
    have qpy88 := py_range hI
    refine q_aload_n C 5 dL_would_91 rfl ?_
    refine q_aload_n C 6 dL_would_92 rfl ?_
    refine q_aload_n C 7 dL_would_93 rfl ?_
    refine q_cI (q_runS (As := [.ref (adr w 110), .ref (adr w 111), .ref (adr w 113)]) (rest := [.int (iI (py A.r))]) C (k_L_prey (F := F) (r := A.r) l hL0 hW hI hL1 hL hL3 hN) wd_493 wd_492 wd_12 wd_491 nd_L_prey rfl (by decide) ⟨Nat.le_of_ble_eq_true rfl, Nat.le_of_ble_eq_true rfl⟩ rfl (Nat.le_of_ble_eq_true rfl) dL_would_94) ?_
    rintro z F' ⟨rfl, rfl⟩
    have qpy := py_range hI
    refine q_eqn C 123 dL_would_97 (by decide) (rfl) ?_
    refine q_aload_n C 4 dL_would_100 rfl ?_
    refine q_iload C 3 dL_would_101 rfl ?_
    refine q_iconst C 4 dL_would_103 ?_
    refine q_idiv C dL_would_104 ⟨by omega, by omega⟩ ⟨by decide, by decide⟩ ?_
    refine q_iload C 3 dL_would_105 rfl ?_
    refine q_iconst C 4 dL_would_107 ?_
    refine q_irem C dL_would_108 ⟨by omega, by omega⟩ ⟨by decide, by decide⟩ ?_
    refine q_cI (q_runV (As := [.int (iI ((lo x 16) / 4)), .int (iI ((lo x 16) % 4))]) (rest := []) C ((k_X3_bestWord (F := F) l hA (d := (lo x 16) / 4) (y := (lo x 16) % 4) ⟨by omega, by omega⟩ ⟨by omega, by omega⟩ (by unfold bestWordT; rw [if_neg (by omega)])).post (fun z F' h => (⟨h.1.trans (by show bf A.r (4 * ((lo x 16) / 4) + (lo x 16) % 4) = _; rw [show 4 * ((lo x 16) / 4) + (lo x 16) % 4 = lo x 16 by omega]), h.2⟩ : z = bf A.r (lo x 16) ∧ F = F'))) kd0 (by decide) rfl wd_497 wd_495 wd_496 wd_13 wd_494 nd_X3_bestWord rfl (by decide) ⟨Nat.le_of_ble_eq_true rfl, Nat.le_of_ble_eq_true rfl⟩ rfl (Nat.le_of_ble_eq_true rfl) dL_would_109) ?_
    rintro z F' ⟨rfl, rfl⟩
    refine q_aload_n C 5 dL_would_112 rfl ?_
    refine q_aload_n C 6 dL_would_113 rfl ?_
    refine q_aload_n C 7 dL_would_114 rfl ?_
    refine q_iload C 3 dL_would_115 rfl ?_
    refine q_cIM (As := [.ref (adr w 110), .ref (adr w 111), .ref (adr w 113), .int (iI (lo x 16))]) (rest := [.int (iI (bf A.r (lo x 16)))]) C (k_L_bestWord (F := F) (r := A.r) (y := lo x 16) l hP hL0 hL1 hL3 hW hL hN hI ⟨by omega, by omega⟩) wd_505 wd_504 wd_12 wd_503 nd_L_bestWord rfl (by decide) ⟨Nat.le_of_ble_eq_true rfl, Nat.le_of_ble_eq_true rfl⟩ rfl (Nat.le_of_ble_eq_true rfl) dL_would_117 ?_
    rintro z G0 ⟨rfl, hf0⟩
    have hTA0 : TA G0 110 111 113 112 A.r := hTA.to (hf0 110 (by decide) (by decide)) (hf0 111 (by decide) (by decide)) (hf0 113 (by decide) (by decide)) (hf0 112 (by decide) (by decide))
    have hA0 : CI G0 A := hA.law (fun k hk => hf0 k (by omega) (by omega))
    refine q_eqe C 125 dL_would_120 (by decide) (rfl) ?_
    refine q_bipush C 40 dL_would_125 (by decide) ?_
    refine q_newaP 114 C 40 hP (by decide) (by decide) (by decide) dL_would_127 (fun w1 hE1 hL114 hP1 C1 => ?_)
    refine q_lvE (lv' := [(9, .int (iI (-1))), (8, .int (iI (lo (srI x 9) ((A.r (lo x 16)) + 1)))), (7, .int (iI (lo (srI x 4) 40))), (6, .int (iI (lo x 16))), (0, .ref (adr w1 0)), (1, .ref (adr w1 110)), (2, .ref (adr w1 111)), (3, .ref (adr w1 113)), (4, .ref (adr w1 112)), (5, .int (iI x))]) (by rw [hE1.2.2.1 0 (nP_ge (by decide)), hE1.2.2.1 110 (hL0.2.1), hE1.2.2.1 111 (hL1.2.1), hE1.2.2.1 113 (hL3.2.1), hE1.2.2.1 112 (hL2.2.1)]) ?_
    replace hL0 := hL0.ex hE1
    replace hL1 := hL1.ex hE1
    replace hL3 := hL3.ex hE1
    replace hL2 := hL2.ex hE1
    refine q_astore (lv' := [(10, .ref (adr w1 114)), (9, .int (iI (-1))), (8, .int (iI (lo (srI x 9) ((A.r (lo x 16)) + 1)))), (7, .int (iI (lo (srI x 4) 40))), (6, .int (iI (lo x 16))), (0, .ref (adr w1 0)), (1, .ref (adr w1 110)), (2, .ref (adr w1 111)), (3, .ref (adr w1 113)), (4, .ref (adr w1 112)), (5, .int (iI x))]) C1 dL_would_129 (by decide) rfl ?_
    refine q_bipush C1 16 dL_would_131 (by decide) ?_
    refine q_newaP 115 C1 16 hP1 (by decide) (by decide) (by decide) dL_would_133 (fun w2 hE2 hL115 hP2 C2 => ?_)
    refine q_lvE (lv' := [(10, .ref (adr w2 114)), (9, .int (iI (-1))), (8, .int (iI (lo (srI x 9) ((A.r (lo x 16)) + 1)))), (7, .int (iI (lo (srI x 4) 40))), (6, .int (iI (lo x 16))), (0, .ref (adr w2 0)), (1, .ref (adr w2 110)), (2, .ref (adr w2 111)), (3, .ref (adr w2 113)), (4, .ref (adr w2 112)), (5, .int (iI x))]) (by rw [hE2.2.2.1 114 (hL114.2.1), hE2.2.2.1 0 (nP_ge (by decide)), hE2.2.2.1 110 (hL0.2.1), hE2.2.2.1 111 (hL1.2.1), hE2.2.2.1 113 (hL3.2.1), hE2.2.2.1 112 (hL2.2.1)]) ?_
    replace hL0 := hL0.ex hE2
    replace hL1 := hL1.ex hE2
    replace hL3 := hL3.ex hE2
    replace hL2 := hL2.ex hE2
    replace hL114 := hL114.ex hE2
    refine q_astore (lv' := [(11, .ref (adr w2 115)), (10, .ref (adr w2 114)), (9, .int (iI (-1))), (8, .int (iI (lo (srI x 9) ((A.r (lo x 16)) + 1)))), (7, .int (iI (lo (srI x 4) 40))), (6, .int (iI (lo x 16))), (0, .ref (adr w2 0)), (1, .ref (adr w2 110)), (2, .ref (adr w2 111)), (3, .ref (adr w2 113)), (4, .ref (adr w2 112)), (5, .int (iI x))]) C2 dL_would_135 (by decide) rfl ?_
    refine q_bipush C2 14 dL_would_137 (by decide) ?_
    refine q_newaP 116 C2 14 hP2 (by decide) (by decide) (by decide) dL_would_139 (fun w3 hE3 hL116 hP3 C3 => ?_)
    refine q_lvE (lv' := [(11, .ref (adr w3 115)), (10, .ref (adr w3 114)), (9, .int (iI (-1))), (8, .int (iI (lo (srI x 9) ((A.r (lo x 16)) + 1)))), (7, .int (iI (lo (srI x 4) 40))), (6, .int (iI (lo x 16))), (0, .ref (adr w3 0)), (1, .ref (adr w3 110)), (2, .ref (adr w3 111)), (3, .ref (adr w3 113)), (4, .ref (adr w3 112)), (5, .int (iI x))]) (by rw [hE3.2.2.1 115 (hL115.2.1), hE3.2.2.1 114 (hL114.2.1), hE3.2.2.1 0 (nP_ge (by decide)), hE3.2.2.1 110 (hL0.2.1), hE3.2.2.1 111 (hL1.2.1), hE3.2.2.1 113 (hL3.2.1), hE3.2.2.1 112 (hL2.2.1)]) ?_
    replace hL0 := hL0.ex hE3
    replace hL1 := hL1.ex hE3
    replace hL3 := hL3.ex hE3
    replace hL2 := hL2.ex hE3
    replace hL114 := hL114.ex hE3
    replace hL115 := hL115.ex hE3
    refine q_astore (lv' := [(12, .ref (adr w3 116)), (11, .ref (adr w3 115)), (10, .ref (adr w3 114)), (9, .int (iI (-1))), (8, .int (iI (lo (srI x 9) ((A.r (lo x 16)) + 1)))), (7, .int (iI (lo (srI x 4) 40))), (6, .int (iI (lo x 16))), (0, .ref (adr w3 0)), (1, .ref (adr w3 110)), (2, .ref (adr w3 111)), (3, .ref (adr w3 113)), (4, .ref (adr w3 112)), (5, .int (iI x))]) C3 dL_would_141 (by decide) rfl ?_
    refine q_bipush C3 40 dL_would_143 (by decide) ?_
    refine q_newaP 117 C3 40 hP3 (by decide) (by decide) (by decide) dL_would_145 (fun w4 hE4 hL117 hP4 C4 => ?_)
    refine q_lvE (lv' := [(12, .ref (adr w4 116)), (11, .ref (adr w4 115)), (10, .ref (adr w4 114)), (9, .int (iI (-1))), (8, .int (iI (lo (srI x 9) ((A.r (lo x 16)) + 1)))), (7, .int (iI (lo (srI x 4) 40))), (6, .int (iI (lo x 16))), (0, .ref (adr w4 0)), (1, .ref (adr w4 110)), (2, .ref (adr w4 111)), (3, .ref (adr w4 113)), (4, .ref (adr w4 112)), (5, .int (iI x))]) (by rw [hE4.2.2.1 116 (hL116.2.1), hE4.2.2.1 115 (hL115.2.1), hE4.2.2.1 114 (hL114.2.1), hE4.2.2.1 0 (nP_ge (by decide)), hE4.2.2.1 110 (hL0.2.1), hE4.2.2.1 111 (hL1.2.1), hE4.2.2.1 113 (hL3.2.1), hE4.2.2.1 112 (hL2.2.1)]) ?_
    replace hL0 := hL0.ex hE4
    replace hL1 := hL1.ex hE4
    replace hL3 := hL3.ex hE4
    replace hL2 := hL2.ex hE4
    replace hL114 := hL114.ex hE4
    replace hL115 := hL115.ex hE4
    replace hL116 := hL116.ex hE4
    refine q_astore (lv' := [(13, .ref (adr w4 117)), (12, .ref (adr w4 116)), (11, .ref (adr w4 115)), (10, .ref (adr w4 114)), (9, .int (iI (-1))), (8, .int (iI (lo (srI x 9) ((A.r (lo x 16)) + 1)))), (7, .int (iI (lo (srI x 4) 40))), (6, .int (iI (lo x 16))), (0, .ref (adr w4 0)), (1, .ref (adr w4 110)), (2, .ref (adr w4 111)), (3, .ref (adr w4 113)), (4, .ref (adr w4 112)), (5, .int (iI x))]) C4 dL_would_147 (by decide) rfl ?_
    refine q_aload_n C4 9 dL_would_149 rfl ?_
    refine q_aload C4 3 dL_would_150 rfl ?_
    refine q_cV (q_runS (As := [.ref (adr w4 110), .ref (adr w4 114)]) (rest := []) C4 (k_L_copy (F := (zer (zer (zer (zer G0 114) 115) 116) 117)) (N := 40) l hL0 hL114) wd_508 wd_507 wd_12 wd_506 nd_L_copy rfl (by decide) ⟨Nat.le_of_ble_eq_true rfl, Nat.le_of_ble_eq_true rfl⟩ rfl (Nat.le_of_ble_eq_true rfl) dL_would_152) ?_
    rintro F' rfl
    refine q_aload_n C4 10 dL_would_155 rfl ?_
    refine q_aload C4 2 dL_would_156 rfl ?_
    refine q_cV (q_runS (As := [.ref (adr w4 111), .ref (adr w4 115)]) (rest := []) C4 (k_L_copy (F := (cpF (zer (zer (zer (zer G0 114) 115) 116) 117) 110 114)) (N := 16) l hL1 hL115) wd_508 wd_507 wd_12 wd_506 nd_L_copy rfl (by decide) ⟨Nat.le_of_ble_eq_true rfl, Nat.le_of_ble_eq_true rfl⟩ rfl (Nat.le_of_ble_eq_true rfl) dL_would_158) ?_
    rintro F' rfl
    refine q_aload_n C4 11 dL_would_161 rfl ?_
    refine q_aload C4 1 dL_would_162 rfl ?_
    refine q_cV (q_runS (As := [.ref (adr w4 113), .ref (adr w4 116)]) (rest := []) C4 (k_L_copy (F := (cpF (cpF (zer (zer (zer (zer G0 114) 115) 116) 117) 110 114) 111 115)) (N := 14) l hL3 hL116) wd_508 wd_507 wd_12 wd_506 nd_L_copy rfl (by decide) ⟨Nat.le_of_ble_eq_true rfl, Nat.le_of_ble_eq_true rfl⟩ rfl (Nat.le_of_ble_eq_true rfl) dL_would_164) ?_
    rintro F' rfl
    refine q_aload C4 12 dL_would_167 rfl ?_
    refine q_aload C4 0 dL_would_169 rfl ?_
    refine q_cV (q_runS (As := [.ref (adr w4 112), .ref (adr w4 117)]) (rest := []) C4 (k_L_copy (F := (cpF (cpF (cpF (zer (zer (zer (zer G0 114) 115) 116) 117) 110 114) 111 115) 113 116)) (N := 40) l hL2 hL117) wd_508 wd_507 wd_12 wd_506 nd_L_copy rfl (by decide) ⟨Nat.le_of_ble_eq_true rfl, Nat.le_of_ble_eq_true rfl⟩ rfl (Nat.le_of_ble_eq_true rfl) dL_would_171) ?_
    rintro F' rfl
    generalize hgG : (cpF (cpF (cpF (cpF (zer (zer (zer (zer G0 114) 115) 116) 117) 110 114) 111 115) 113 116) 112 117) = G1
    have hTA1 : TA G1 114 115 116 117 A.r := by rw [← hgG]; exact hTA0.to (by rw [cpF_k (by decide), cpF_k (by decide), cpF_k (by decide), cpF_at, zer_k (by decide), zer_k (by decide), zer_k (by decide), zer_k (by decide)]) (by rw [cpF_k (by decide), cpF_k (by decide), cpF_at, cpF_k (by decide), zer_k (by decide), zer_k (by decide), zer_k (by decide), zer_k (by decide)]) (by rw [cpF_k (by decide), cpF_at, cpF_k (by decide), cpF_k (by decide), zer_k (by decide), zer_k (by decide), zer_k (by decide), zer_k (by decide)]) (by rw [cpF_at, cpF_k (by decide), cpF_k (by decide), cpF_k (by decide), zer_k (by decide), zer_k (by decide), zer_k (by decide), zer_k (by decide)])
    have hf1 : ∀ k, k < 114 → G1 k = G0 k := fun k hk => by rw [← hgG, cpF_k (by omega), cpF_k (by omega), cpF_k (by omega), cpF_k (by omega), zer_k (by omega), zer_k (by omega), zer_k (by omega), zer_k (by omega)]
    refine q_iconst C4 1 dL_would_174 ?_
    refine q_iload C4 13 dL_would_175 rfl ?_
    refine q_bipush C4 7 dL_would_177 (by decide) ?_
    refine q_ishr C4 (srI x 7) (srI_e _ _) dL_would_179 ?_
    refine q_iload C4 13 dL_would_180 rfl ?_
    refine q_bipush C4 12 dL_would_182 (by decide) ?_
    refine q_ishr C4 (srI x 12) (srI_e _ _) dL_would_184 ?_
    refine q_iconst C4 4 dL_would_185 ?_
    refine q_cI (q_runS (As := [.int (iI (srI x 12)), .int (iI 4)]) (rest := [.int (iI (srI x 7)), .int (iI 1)]) C4 (k_L_low (F := G1) l (x := srI x 12) (n := 4) ⟨by decide, by decide⟩) wd_163 wd_162 wd_12 wd_161 nd_L_low rfl (by decide) ⟨Nat.le_of_ble_eq_true rfl, Nat.le_of_ble_eq_true rfl⟩ rfl (Nat.le_of_ble_eq_true rfl) dL_would_186) ?_
    rintro z F' ⟨rfl, rfl⟩
    have qlo186 := lo_range (srI x 12) 4 (by omega)
    refine q_if_ne C4 197 dL_would_189 ⟨by omega, by omega⟩  (by decide) (fun h189 => ?_) (fun h189 => ?_)
    · refine q_iconst C4 4 dL_would_197 ?_
      refine q_cI (q_runS (As := [.int (iI (srI x 7)), .int (iI 4)]) (rest := [.int (iI 1)]) C4 (k_L_low (F := G1) l (x := srI x 7) (n := 4) ⟨by decide, by decide⟩) wd_163 wd_162 wd_12 wd_161 nd_L_low rfl (by decide) ⟨Nat.le_of_ble_eq_true rfl, Nat.le_of_ble_eq_true rfl⟩ rfl (Nat.le_of_ble_eq_true rfl) dL_would_198) ?_
      rintro z F' ⟨rfl, rfl⟩
      have qlo198 := lo_range (srI x 7) 4 (by omega)
      refine q_iadd C4 dL_would_201 ?_
      obtain ⟨m, hm9, hm0, hm1⟩ : ∃ m, m = 1 + (lo (srI x 7) 4) ∧ 1 ≤ m ∧ m ≤ 20 := ⟨_, rfl, by omega, by omega⟩
      refine q_top (z' := m) (hm9.symm) ?_
      refine q_istore (lv' := [(14, .int (iI m)), (13, .ref (adr w4 117)), (12, .ref (adr w4 116)), (11, .ref (adr w4 115)), (10, .ref (adr w4 114)), (9, .int (iI (-1))), (8, .int (iI (lo (srI x 9) ((A.r (lo x 16)) + 1)))), (7, .int (iI (lo (srI x 4) 40))), (6, .int (iI (lo x 16))), (0, .ref (adr w4 0)), (1, .ref (adr w4 110)), (2, .ref (adr w4 111)), (3, .ref (adr w4 113)), (4, .ref (adr w4 112)), (5, .int (iI x))]) C4 dL_would_202 (by decide) rfl ?_
      refine q_iconst C4 0 dL_would_204 ?_
      refine q_istore (lv' := [(15, .int (iI 0)), (14, .int (iI m)), (13, .ref (adr w4 117)), (12, .ref (adr w4 116)), (11, .ref (adr w4 115)), (10, .ref (adr w4 114)), (9, .int (iI (-1))), (8, .int (iI (lo (srI x 9) ((A.r (lo x 16)) + 1)))), (7, .int (iI (lo (srI x 4) 40))), (6, .int (iI (lo x 16))), (0, .ref (adr w4 0)), (1, .ref (adr w4 110)), (2, .ref (adr w4 111)), (3, .ref (adr w4 113)), (4, .ref (adr w4 112)), (5, .int (iI x))]) C4 dL_would_205 (by decide) rfl ?_
      refine q_lv (lv' := [(0, .ref (adr w4 0)), (1, .ref (adr w4 110)), (2, .ref (adr w4 111)), (3, .ref (adr w4 113)), (4, .ref (adr w4 112)), (5, .int (iI x)), (10, .ref (adr w4 114)), (11, .ref (adr w4 115)), (12, .ref (adr w4 116)), (13, .ref (adr w4 117)), (14, .int (iI m)), (15, .int (iI 0))]) [10, 11, 12, 13, 14, 15, 5, 4, 3, 2, 1, 0] rfl ?_
      refine wf2 (P := fun (i : Int) (G : FF) => Wq pg l ev _ s0 mi _ be me co _ w4 _ _ _ 207 [(0, .ref (adr w4 0)), (1, .ref (adr w4 110)), (2, .ref (adr w4 111)), (3, .ref (adr w4 113)), (4, .ref (adr w4 112)), (5, .int (iI x)), (10, .ref (adr w4 114)), (11, .ref (adr w4 115)), (12, .ref (adr w4 116)), (13, .ref (adr w4 117)), (14, .int (iI m)), (15, .int (iI i))] [] G) (I := fun (i : Int) (G : FF) => 0 ≤ i ∧ i ≤ m ∧ TA G 114 115 116 117 (ngs A.r i.toNat) ∧ ∀ k, k < 114 → G k = G1 k) (μ := fun (i : Int) (G : FF) => (m - i).toNat) ?_ 0 G1 (⟨by omega, by omega, hTA1, fun k hk => rfl⟩)
      intro i G hI' ih207
      (try dsimp only at hI'); (try dsimp only at ih207); (try dsimp only)
      obtain ⟨hi0, hi1, hTAG, hfr⟩ := hI'
      refine q_iload C4 11 dL_would_207 rfl ?_
      refine q_iload C4 10 dL_would_209 rfl ?_
      refine q_icmp_ge C4 233 dL_would_211 ⟨by omega, by omega⟩ ⟨by omega, by omega⟩ (by decide) (fun h211 => ?_) (fun h211 => ?_)
      · have him : i = m := by omega
        have hAG : CI G A := hA0.law (fun k hk => (hfr k (by omega)).trans (hf1 k (by omega)))
        refine q_iload C4 5 dL_would_233 rfl ?_
        refine q_bipush C4 15 dL_would_235 (by decide) ?_
        refine q_ishr C4 (srI x 15) (srI_e _ _) dL_would_237 ?_
        refine q_iconst C4 4 dL_would_238 ?_
        refine q_cI (q_runS (As := [.int (iI (srI x 15)), .int (iI 4)]) (rest := []) C4 (k_L_low (F := G) l (x := srI x 15) (n := 4) ⟨by decide, by decide⟩) wd_163 wd_162 wd_12 wd_161 nd_L_low rfl (by decide) ⟨Nat.le_of_ble_eq_true rfl, Nat.le_of_ble_eq_true rfl⟩ rfl (Nat.le_of_ble_eq_true rfl) dL_would_239) ?_
        rintro z F' ⟨rfl, rfl⟩
        have qlo239 := lo_range (srI x 15) 4 (by omega)
        refine q_istore (lv' := [(15, .int (iI (lo (srI x 15) 4))), (0, .ref (adr w4 0)), (1, .ref (adr w4 110)), (2, .ref (adr w4 111)), (3, .ref (adr w4 113)), (4, .ref (adr w4 112)), (5, .int (iI x)), (10, .ref (adr w4 114)), (11, .ref (adr w4 115)), (12, .ref (adr w4 116)), (13, .ref (adr w4 117)), (14, .int (iI m))]) C4 dL_would_242 (by decide) rfl ?_
        refine q_aload_n C4 1 dL_would_244 rfl ?_
        refine q_iload C4 11 dL_would_245 rfl ?_
        refine q_iload C4 0 dL_would_247 rfl ?_
        refine q_cI (q_runV (As := [.int (iI m), .int (iI (lo (srI x 15) 4))]) (rest := []) C4 (k_X3_ifSlept (F := G) l hAG (m := m) (d := lo (srI x 15) 4) ⟨by omega, by omega⟩ ⟨by omega, by omega⟩ (by unfold ifSleptT; rw [if_neg (by omega), if_neg (by omega)])) kd0 (by decide) rfl wd_524 wd_522 wd_523 wd_13 wd_521 nd_X3_ifSlept rfl (by decide) ⟨Nat.le_of_ble_eq_true rfl, Nat.le_of_ble_eq_true rfl⟩ rfl (Nat.le_of_ble_eq_true rfl) dL_would_249) ?_
        rintro z G9 ⟨-, rfl, hJ9⟩
        have hTA9 : TA G9 110 111 113 112 A.r := hTA0.to ((hJ9.2 110 (by decide)).trans ((hfr 110 (by decide)).trans (hf1 110 (by decide)))) ((hJ9.2 111 (by decide)).trans ((hfr 111 (by decide)).trans (hf1 111 (by decide)))) ((hJ9.2 113 (by decide)).trans ((hfr 113 (by decide)).trans (hf1 113 (by decide)))) ((hJ9.2 112 (by decide)).trans ((hfr 112 (by decide)).trans (hf1 112 (by decide))))
        have hT9 : TA G9 114 115 116 117 (ngs A.r i.toNat) := hTAG.to (hJ9.2 114 (by decide)) (hJ9.2 115 (by decide)) (hJ9.2 116 (by decide)) (hJ9.2 117 (by decide))
        refine q_aload C4 7 dL_would_252 rfl ?_
        refine q_aload C4 8 dL_would_254 rfl ?_
        refine q_iload C4 0 dL_would_256 rfl ?_
        refine q_cI (q_runS (As := [.ref (adr w4 114), .ref (adr w4 115), .int (iI (lo (srI x 15) 4))]) (rest := [.int (iI (ifSleptZ A m (lo (srI x 15) 4)))]) C4 (k_L_doorWorth (F := G9) (r := (ngs A.r i.toNat)) l hL114 hT9.1 hT9.2.2.2.2 hL115 hT9.2.1 (d := lo (srI x 15) 4) ⟨by omega, by omega⟩) wd_371 wd_370 wd_12 wd_369 nd_L_doorWorth rfl (by decide) ⟨Nat.le_of_ble_eq_true rfl, Nat.le_of_ble_eq_true rfl⟩ rfl (Nat.le_of_ble_eq_true rfl) dL_would_258) ?_
        rintro z F' ⟨rfl, rfl⟩
        have qd258 := dw_range (d := lo (srI x 15) 4) hT9.2.2.2.2 (by omega) (by omega)
        refine q_eqn C4 268 dL_would_261 (by decide) (by rw [him]; rfl) ?_
        refine q_iconst C4 1 dL_would_264 ?_
        refine q_goto C4 269 dL_would_265 (by decide) ?_
        refine q_back hE4 ?_
        refine q_back hE3 ?_
        refine q_back hE2 ?_
        refine q_back hE1 ?_
        refine q_mzret C ⟨Nat.le_of_ble_eq_true rfl, Nat.le_of_ble_eq_true rfl⟩ dL_would_269 (by decide) ?_
        exact ⟨rfl, hJ9.1, hTA9⟩
      · refine q_aload C4 6 dL_would_214 rfl ?_
        refine q_aload C4 7 dL_would_216 rfl ?_
        refine q_aload C4 8 dL_would_218 rfl ?_
        refine q_aload C4 9 dL_would_220 rfl ?_
        refine q_cI (q_runS (As := [.ref (adr w4 114), .ref (adr w4 115), .ref (adr w4 116), .ref (adr w4 117)]) (rest := []) C4 (k_L_night (F := G) (r := (ngs A.r i.toNat)) l hL114 hTAG.1 hTAG.2.2.2.2 hL115 hTAG.2.1 hL116 hTAG.2.2.1 hL117 hTAG.2.2.2.1 (by decide)) wd_517 wd_516 wd_12 wd_515 nd_L_night rfl (by decide) ⟨Nat.le_of_ble_eq_true rfl, Nat.le_of_ble_eq_true rfl⟩ rfl (Nat.le_of_ble_eq_true rfl) dL_would_222) ?_
        rintro z GN ⟨rfl, hTAN, hfN⟩
        refine q_istore (lv' := [(16, .int (iI (rbs (ng (ngs A.r i.toNat)) - rbs (ngs A.r i.toNat)))), (0, .ref (adr w4 0)), (1, .ref (adr w4 110)), (2, .ref (adr w4 111)), (3, .ref (adr w4 113)), (4, .ref (adr w4 112)), (5, .int (iI x)), (10, .ref (adr w4 114)), (11, .ref (adr w4 115)), (12, .ref (adr w4 116)), (13, .ref (adr w4 117)), (14, .int (iI m)), (15, .int (iI i))]) C4 dL_would_225 (by decide) rfl ?_
        refine q_iinc (lv' := [(15, .int (iI (i + 1))), (16, .int (iI (rbs (ng (ngs A.r i.toNat)) - rbs (ngs A.r i.toNat)))), (0, .ref (adr w4 0)), (1, .ref (adr w4 110)), (2, .ref (adr w4 111)), (3, .ref (adr w4 113)), (4, .ref (adr w4 112)), (5, .int (iI x)), (10, .ref (adr w4 114)), (11, .ref (adr w4 115)), (12, .ref (adr w4 116)), (13, .ref (adr w4 117)), (14, .int (iI m))]) C4 12 dL_would_227 rfl (by decide) rfl ?_
        refine q_goto C4 207 dL_would_230 (by decide) ?_
        refine q_lv (lv' := [(0, .ref (adr w4 0)), (1, .ref (adr w4 110)), (2, .ref (adr w4 111)), (3, .ref (adr w4 113)), (4, .ref (adr w4 112)), (5, .int (iI x)), (10, .ref (adr w4 114)), (11, .ref (adr w4 115)), (12, .ref (adr w4 116)), (13, .ref (adr w4 117)), (14, .int (iI m)), (15, .int (iI (i + 1)))]) [2, 3, 4, 5, 6, 7, 8, 9, 10, 11, 12, 0] rfl ?_
        exact ih207 (i + 1) GN (⟨by omega, by omega, by rw [ngs_i hi0]; exact hTAN, fun k hk => (hfN k (by omega) (by omega) (by omega) (by omega)).trans (hfr k hk)⟩) (by omega)
    · refine q_bipush C4 20 dL_would_192 (by decide) ?_
      refine q_goto C4 198 dL_would_194 (by decide) ?_
      refine q_cI (q_runS (As := [.int (iI (srI x 7)), .int (iI 20)]) (rest := [.int (iI 1)]) C4 (k_L_low (F := G1) l (x := srI x 7) (n := 20) ⟨by decide, by decide⟩) wd_163 wd_162 wd_12 wd_161 nd_L_low rfl (by decide) ⟨Nat.le_of_ble_eq_true rfl, Nat.le_of_ble_eq_true rfl⟩ rfl (Nat.le_of_ble_eq_true rfl) dL_would_198) ?_
      rintro z F' ⟨rfl, rfl⟩
      have qlo198 := lo_range (srI x 7) 20 (by omega)
      refine q_iadd C4 dL_would_201 ?_
      obtain ⟨m, hm9, hm0, hm1⟩ : ∃ m, m = 1 + (lo (srI x 7) 20) ∧ 1 ≤ m ∧ m ≤ 20 := ⟨_, rfl, by omega, by omega⟩
      refine q_top (z' := m) (hm9.symm) ?_
      refine q_istore (lv' := [(14, .int (iI m)), (13, .ref (adr w4 117)), (12, .ref (adr w4 116)), (11, .ref (adr w4 115)), (10, .ref (adr w4 114)), (9, .int (iI (-1))), (8, .int (iI (lo (srI x 9) ((A.r (lo x 16)) + 1)))), (7, .int (iI (lo (srI x 4) 40))), (6, .int (iI (lo x 16))), (0, .ref (adr w4 0)), (1, .ref (adr w4 110)), (2, .ref (adr w4 111)), (3, .ref (adr w4 113)), (4, .ref (adr w4 112)), (5, .int (iI x))]) C4 dL_would_202 (by decide) rfl ?_
      refine q_iconst C4 0 dL_would_204 ?_
      refine q_istore (lv' := [(15, .int (iI 0)), (14, .int (iI m)), (13, .ref (adr w4 117)), (12, .ref (adr w4 116)), (11, .ref (adr w4 115)), (10, .ref (adr w4 114)), (9, .int (iI (-1))), (8, .int (iI (lo (srI x 9) ((A.r (lo x 16)) + 1)))), (7, .int (iI (lo (srI x 4) 40))), (6, .int (iI (lo x 16))), (0, .ref (adr w4 0)), (1, .ref (adr w4 110)), (2, .ref (adr w4 111)), (3, .ref (adr w4 113)), (4, .ref (adr w4 112)), (5, .int (iI x))]) C4 dL_would_205 (by decide) rfl ?_
      refine q_lv (lv' := [(0, .ref (adr w4 0)), (1, .ref (adr w4 110)), (2, .ref (adr w4 111)), (3, .ref (adr w4 113)), (4, .ref (adr w4 112)), (5, .int (iI x)), (10, .ref (adr w4 114)), (11, .ref (adr w4 115)), (12, .ref (adr w4 116)), (13, .ref (adr w4 117)), (14, .int (iI m)), (15, .int (iI 0))]) [10, 11, 12, 13, 14, 15, 5, 4, 3, 2, 1, 0] rfl ?_
      refine wf2 (P := fun (i : Int) (G : FF) => Wq pg l ev _ s0 mi _ be me co _ w4 _ _ _ 207 [(0, .ref (adr w4 0)), (1, .ref (adr w4 110)), (2, .ref (adr w4 111)), (3, .ref (adr w4 113)), (4, .ref (adr w4 112)), (5, .int (iI x)), (10, .ref (adr w4 114)), (11, .ref (adr w4 115)), (12, .ref (adr w4 116)), (13, .ref (adr w4 117)), (14, .int (iI m)), (15, .int (iI i))] [] G) (I := fun (i : Int) (G : FF) => 0 ≤ i ∧ i ≤ m ∧ TA G 114 115 116 117 (ngs A.r i.toNat) ∧ ∀ k, k < 114 → G k = G1 k) (μ := fun (i : Int) (G : FF) => (m - i).toNat) ?_ 0 G1 (⟨by omega, by omega, hTA1, fun k hk => rfl⟩)
      intro i G hI' ih207
      (try dsimp only at hI'); (try dsimp only at ih207); (try dsimp only)
      obtain ⟨hi0, hi1, hTAG, hfr⟩ := hI'
      refine q_iload C4 11 dL_would_207 rfl ?_
      refine q_iload C4 10 dL_would_209 rfl ?_
      refine q_icmp_ge C4 233 dL_would_211 ⟨by omega, by omega⟩ ⟨by omega, by omega⟩ (by decide) (fun h211 => ?_) (fun h211 => ?_)
      · have him : i = m := by omega
        have hAG : CI G A := hA0.law (fun k hk => (hfr k (by omega)).trans (hf1 k (by omega)))
        refine q_iload C4 5 dL_would_233 rfl ?_
        refine q_bipush C4 15 dL_would_235 (by decide) ?_
        refine q_ishr C4 (srI x 15) (srI_e _ _) dL_would_237 ?_
        refine q_iconst C4 4 dL_would_238 ?_
        refine q_cI (q_runS (As := [.int (iI (srI x 15)), .int (iI 4)]) (rest := []) C4 (k_L_low (F := G) l (x := srI x 15) (n := 4) ⟨by decide, by decide⟩) wd_163 wd_162 wd_12 wd_161 nd_L_low rfl (by decide) ⟨Nat.le_of_ble_eq_true rfl, Nat.le_of_ble_eq_true rfl⟩ rfl (Nat.le_of_ble_eq_true rfl) dL_would_239) ?_
        rintro z F' ⟨rfl, rfl⟩
        have qlo239 := lo_range (srI x 15) 4 (by omega)
        refine q_istore (lv' := [(15, .int (iI (lo (srI x 15) 4))), (0, .ref (adr w4 0)), (1, .ref (adr w4 110)), (2, .ref (adr w4 111)), (3, .ref (adr w4 113)), (4, .ref (adr w4 112)), (5, .int (iI x)), (10, .ref (adr w4 114)), (11, .ref (adr w4 115)), (12, .ref (adr w4 116)), (13, .ref (adr w4 117)), (14, .int (iI m))]) C4 dL_would_242 (by decide) rfl ?_
        refine q_aload_n C4 1 dL_would_244 rfl ?_
        refine q_iload C4 11 dL_would_245 rfl ?_
        refine q_iload C4 0 dL_would_247 rfl ?_
        refine q_cI (q_runV (As := [.int (iI m), .int (iI (lo (srI x 15) 4))]) (rest := []) C4 (k_X3_ifSlept (F := G) l hAG (m := m) (d := lo (srI x 15) 4) ⟨by omega, by omega⟩ ⟨by omega, by omega⟩ (by unfold ifSleptT; rw [if_neg (by omega), if_neg (by omega)])) kd0 (by decide) rfl wd_524 wd_522 wd_523 wd_13 wd_521 nd_X3_ifSlept rfl (by decide) ⟨Nat.le_of_ble_eq_true rfl, Nat.le_of_ble_eq_true rfl⟩ rfl (Nat.le_of_ble_eq_true rfl) dL_would_249) ?_
        rintro z G9 ⟨-, rfl, hJ9⟩
        have hTA9 : TA G9 110 111 113 112 A.r := hTA0.to ((hJ9.2 110 (by decide)).trans ((hfr 110 (by decide)).trans (hf1 110 (by decide)))) ((hJ9.2 111 (by decide)).trans ((hfr 111 (by decide)).trans (hf1 111 (by decide)))) ((hJ9.2 113 (by decide)).trans ((hfr 113 (by decide)).trans (hf1 113 (by decide)))) ((hJ9.2 112 (by decide)).trans ((hfr 112 (by decide)).trans (hf1 112 (by decide))))
        have hT9 : TA G9 114 115 116 117 (ngs A.r i.toNat) := hTAG.to (hJ9.2 114 (by decide)) (hJ9.2 115 (by decide)) (hJ9.2 116 (by decide)) (hJ9.2 117 (by decide))
        refine q_aload C4 7 dL_would_252 rfl ?_
        refine q_aload C4 8 dL_would_254 rfl ?_
        refine q_iload C4 0 dL_would_256 rfl ?_
        refine q_cI (q_runS (As := [.ref (adr w4 114), .ref (adr w4 115), .int (iI (lo (srI x 15) 4))]) (rest := [.int (iI (ifSleptZ A m (lo (srI x 15) 4)))]) C4 (k_L_doorWorth (F := G9) (r := (ngs A.r i.toNat)) l hL114 hT9.1 hT9.2.2.2.2 hL115 hT9.2.1 (d := lo (srI x 15) 4) ⟨by omega, by omega⟩) wd_371 wd_370 wd_12 wd_369 nd_L_doorWorth rfl (by decide) ⟨Nat.le_of_ble_eq_true rfl, Nat.le_of_ble_eq_true rfl⟩ rfl (Nat.le_of_ble_eq_true rfl) dL_would_258) ?_
        rintro z F' ⟨rfl, rfl⟩
        have qd258 := dw_range (d := lo (srI x 15) 4) hT9.2.2.2.2 (by omega) (by omega)
        refine q_eqn C4 268 dL_would_261 (by decide) (by rw [him]; rfl) ?_
        refine q_iconst C4 1 dL_would_264 ?_
        refine q_goto C4 269 dL_would_265 (by decide) ?_
        refine q_back hE4 ?_
        refine q_back hE3 ?_
        refine q_back hE2 ?_
        refine q_back hE1 ?_
        refine q_mzret C ⟨Nat.le_of_ble_eq_true rfl, Nat.le_of_ble_eq_true rfl⟩ dL_would_269 (by decide) ?_
        exact ⟨rfl, hJ9.1, hTA9⟩
      · refine q_aload C4 6 dL_would_214 rfl ?_
        refine q_aload C4 7 dL_would_216 rfl ?_
        refine q_aload C4 8 dL_would_218 rfl ?_
        refine q_aload C4 9 dL_would_220 rfl ?_
        refine q_cI (q_runS (As := [.ref (adr w4 114), .ref (adr w4 115), .ref (adr w4 116), .ref (adr w4 117)]) (rest := []) C4 (k_L_night (F := G) (r := (ngs A.r i.toNat)) l hL114 hTAG.1 hTAG.2.2.2.2 hL115 hTAG.2.1 hL116 hTAG.2.2.1 hL117 hTAG.2.2.2.1 (by decide)) wd_517 wd_516 wd_12 wd_515 nd_L_night rfl (by decide) ⟨Nat.le_of_ble_eq_true rfl, Nat.le_of_ble_eq_true rfl⟩ rfl (Nat.le_of_ble_eq_true rfl) dL_would_222) ?_
        rintro z GN ⟨rfl, hTAN, hfN⟩
        refine q_istore (lv' := [(16, .int (iI (rbs (ng (ngs A.r i.toNat)) - rbs (ngs A.r i.toNat)))), (0, .ref (adr w4 0)), (1, .ref (adr w4 110)), (2, .ref (adr w4 111)), (3, .ref (adr w4 113)), (4, .ref (adr w4 112)), (5, .int (iI x)), (10, .ref (adr w4 114)), (11, .ref (adr w4 115)), (12, .ref (adr w4 116)), (13, .ref (adr w4 117)), (14, .int (iI m)), (15, .int (iI i))]) C4 dL_would_225 (by decide) rfl ?_
        refine q_iinc (lv' := [(15, .int (iI (i + 1))), (16, .int (iI (rbs (ng (ngs A.r i.toNat)) - rbs (ngs A.r i.toNat)))), (0, .ref (adr w4 0)), (1, .ref (adr w4 110)), (2, .ref (adr w4 111)), (3, .ref (adr w4 113)), (4, .ref (adr w4 112)), (5, .int (iI x)), (10, .ref (adr w4 114)), (11, .ref (adr w4 115)), (12, .ref (adr w4 116)), (13, .ref (adr w4 117)), (14, .int (iI m))]) C4 12 dL_would_227 rfl (by decide) rfl ?_
        refine q_goto C4 207 dL_would_230 (by decide) ?_
        refine q_lv (lv' := [(0, .ref (adr w4 0)), (1, .ref (adr w4 110)), (2, .ref (adr w4 111)), (3, .ref (adr w4 113)), (4, .ref (adr w4 112)), (5, .int (iI x)), (10, .ref (adr w4 114)), (11, .ref (adr w4 115)), (12, .ref (adr w4 116)), (13, .ref (adr w4 117)), (14, .int (iI m)), (15, .int (iI (i + 1)))]) [2, 3, 4, 5, 6, 7, 8, 9, 10, 11, 12, 0] rfl ?_
        exact ih207 (i + 1) GN (⟨by omega, by omega, by rw [ngs_i hi0]; exact hTAN, fun k hk => (hfN k (by omega) (by omega) (by omega) (by omega)).trans (hfr k hk)⟩) (by omega)
  · refine q_if_eq C 53 dL_would_46 ⟨by decide, by decide⟩  (by decide) (fun _ => ?_) (fun h => absurd h (by decide))
    refine q_aload_n C 4 dL_would_53 rfl ?_
    refine q_aload_n C 6 dL_would_54 rfl ?_
    refine q_iload C 1 dL_would_55 rfl ?_
    refine q_iload C 2 dL_would_57 rfl ?_
    refine q_iload C 0 dL_would_59 rfl ?_
    refine q_cI (q_runS (As := [.ref (adr w 110), .ref (adr w 113), .int (iI (lo (srI x 4) 40)), .int (iI (lo x 16)), .int (iI (lo (srI x 9) ((A.r (lo x 16)) + 1)))]) (rest := []) C (k_L_reason (F := F) (r := A.r) l hL0 hW hI hL3 hN (x := lo (srI x 4) 40) (y := lo x 16) (p := lo (srI x 9) ((A.r (lo x 16)) + 1)) ⟨by omega, by omega⟩ ⟨by omega, by omega⟩ ⟨by omega, by omega⟩) wd_449 wd_448 wd_12 wd_447 nd_L_reason rfl (by decide) ⟨Nat.le_of_ble_eq_true rfl, Nat.le_of_ble_eq_true rfl⟩ rfl (Nat.le_of_ble_eq_true rfl) dL_would_61) ?_
    rintro z F' ⟨rfl, rfl⟩
    have qq61 := rea_range A.r (lo (srI x 4) 40) (lo x 16) (lo (srI x 9) ((A.r (lo x 16)) + 1))
    refine q_istore (lv' := [(9, .int (iI (rea A.r (lo (srI x 4) 40) (lo x 16) (lo (srI x 9) ((A.r (lo x 16)) + 1))))), (8, .int (iI (lo (srI x 9) ((A.r (lo x 16)) + 1)))), (7, .int (iI (lo (srI x 4) 40))), (6, .int (iI (lo x 16))), (0, .ref (adr w 0)), (1, .ref (adr w 110)), (2, .ref (adr w 111)), (3, .ref (adr w 113)), (4, .ref (adr w 112)), (5, .int (iI x))]) C dL_would_64 (by decide) rfl ?_
    refine q_aload_n C 4 dL_would_66 rfl ?_
    refine q_iload C 2 dL_would_67 rfl ?_
    refine q_iload C 3 dL_would_69 rfl ?_
    refine q_iconst C 4 dL_would_71 ?_
    refine q_idiv C dL_would_72 ⟨by omega, by omega⟩ ⟨by decide, by decide⟩ ?_
    refine q_iload C 3 dL_would_73 rfl ?_
    refine q_iconst C 4 dL_would_75 ?_
    refine q_irem C dL_would_76 ⟨by omega, by omega⟩ ⟨by decide, by decide⟩ ?_
    refine q_iload C 1 dL_would_77 rfl ?_
    refine q_cI (q_runV (As := [.int (iI (lo (srI x 4) 40)), .int (iI ((lo x 16) / 4)), .int (iI ((lo x 16) % 4)), .int (iI (lo (srI x 9) ((A.r (lo x 16)) + 1)))]) (rest := []) C ((k_X3_whyNot (F := F) l hA (x := lo (srI x 4) 40) (d := (lo x 16) / 4) (y := (lo x 16) % 4) (p := lo (srI x 9) ((A.r (lo x 16)) + 1)) ⟨by omega, by omega⟩ ⟨by omega, by omega⟩ ⟨by omega, by omega⟩ ⟨by omega, by omega⟩ (by unfold whyNotT; rw [show 4 * ((lo x 16) / 4) + (lo x 16) % 4 = lo x 16 by omega, if_neg (by omega)])).post (fun z F' h => (⟨h.1.trans (by show (if home A.r (lo (srI x 4) 40) = 4 * ((lo x 16) / 4) + (lo x 16) % 4 then -1 else rea A.r (lo (srI x 4) 40) (4 * ((lo x 16) / 4) + (lo x 16) % 4) (lo (srI x 9) ((A.r (lo x 16)) + 1))) = _; rw [show 4 * ((lo x 16) / 4) + (lo x 16) % 4 = lo x 16 by omega]), h.2⟩ : z = (if home A.r (lo (srI x 4) 40) = lo x 16 then -1 else rea A.r (lo (srI x 4) 40) (lo x 16) (lo (srI x 9) ((A.r (lo x 16)) + 1))) ∧ F = F'))) kd0 (by decide) rfl wd_453 wd_451 wd_452 wd_13 wd_450 nd_X3_whyNot rfl (by decide) ⟨Nat.le_of_ble_eq_true rfl, Nat.le_of_ble_eq_true rfl⟩ rfl (Nat.le_of_ble_eq_true rfl) dL_would_79) ?_
    rintro z F' ⟨rfl, rfl⟩
    refine q_iload C 0 dL_would_82 rfl ?_
    refine q_eqn C 123 dL_would_84 (by decide) (by first | rw [if_pos (by omega)] | rw [if_neg (by omega)]) ?_
    refine q_aload_n C 4 dL_would_87 rfl ?_
    refine q_cI (q_runV (As := []) (rest := []) C (k_X3_prey (F := F) l hA) kd0 (by decide) rfl wd_478 wd_476 wd_477 wd_13 wd_475 nd_X3_prey rfl (by decide) ⟨Nat.le_of_ble_eq_true rfl, Nat.le_of_ble_eq_true rfl⟩ rfl (Nat.le_of_ble_eq_true rfl) dL_would_88) ?_
    rintro z F' ⟨rfl, rfl⟩
    have qpy88 := py_range hI
    refine q_aload_n C 5 dL_would_91 rfl ?_
    refine q_aload_n C 6 dL_would_92 rfl ?_
    refine q_aload_n C 7 dL_would_93 rfl ?_
    refine q_cI (q_runS (As := [.ref (adr w 110), .ref (adr w 111), .ref (adr w 113)]) (rest := [.int (iI (py A.r))]) C (k_L_prey (F := F) (r := A.r) l hL0 hW hI hL1 hL hL3 hN) wd_493 wd_492 wd_12 wd_491 nd_L_prey rfl (by decide) ⟨Nat.le_of_ble_eq_true rfl, Nat.le_of_ble_eq_true rfl⟩ rfl (Nat.le_of_ble_eq_true rfl) dL_would_94) ?_
    rintro z F' ⟨rfl, rfl⟩
    have qpy := py_range hI
    refine q_eqn C 123 dL_would_97 (by decide) (rfl) ?_
    refine q_aload_n C 4 dL_would_100 rfl ?_
    refine q_iload C 3 dL_would_101 rfl ?_
    refine q_iconst C 4 dL_would_103 ?_
    refine q_idiv C dL_would_104 ⟨by omega, by omega⟩ ⟨by decide, by decide⟩ ?_
    refine q_iload C 3 dL_would_105 rfl ?_
    refine q_iconst C 4 dL_would_107 ?_
    refine q_irem C dL_would_108 ⟨by omega, by omega⟩ ⟨by decide, by decide⟩ ?_
    refine q_cI (q_runV (As := [.int (iI ((lo x 16) / 4)), .int (iI ((lo x 16) % 4))]) (rest := []) C ((k_X3_bestWord (F := F) l hA (d := (lo x 16) / 4) (y := (lo x 16) % 4) ⟨by omega, by omega⟩ ⟨by omega, by omega⟩ (by unfold bestWordT; rw [if_neg (by omega)])).post (fun z F' h => (⟨h.1.trans (by show bf A.r (4 * ((lo x 16) / 4) + (lo x 16) % 4) = _; rw [show 4 * ((lo x 16) / 4) + (lo x 16) % 4 = lo x 16 by omega]), h.2⟩ : z = bf A.r (lo x 16) ∧ F = F'))) kd0 (by decide) rfl wd_497 wd_495 wd_496 wd_13 wd_494 nd_X3_bestWord rfl (by decide) ⟨Nat.le_of_ble_eq_true rfl, Nat.le_of_ble_eq_true rfl⟩ rfl (Nat.le_of_ble_eq_true rfl) dL_would_109) ?_
    rintro z F' ⟨rfl, rfl⟩
    refine q_aload_n C 5 dL_would_112 rfl ?_
    refine q_aload_n C 6 dL_would_113 rfl ?_
    refine q_aload_n C 7 dL_would_114 rfl ?_
    refine q_iload C 3 dL_would_115 rfl ?_
    refine q_cIM (As := [.ref (adr w 110), .ref (adr w 111), .ref (adr w 113), .int (iI (lo x 16))]) (rest := [.int (iI (bf A.r (lo x 16)))]) C (k_L_bestWord (F := F) (r := A.r) (y := lo x 16) l hP hL0 hL1 hL3 hW hL hN hI ⟨by omega, by omega⟩) wd_505 wd_504 wd_12 wd_503 nd_L_bestWord rfl (by decide) ⟨Nat.le_of_ble_eq_true rfl, Nat.le_of_ble_eq_true rfl⟩ rfl (Nat.le_of_ble_eq_true rfl) dL_would_117 ?_
    rintro z G0 ⟨rfl, hf0⟩
    have hTA0 : TA G0 110 111 113 112 A.r := hTA.to (hf0 110 (by decide) (by decide)) (hf0 111 (by decide) (by decide)) (hf0 113 (by decide) (by decide)) (hf0 112 (by decide) (by decide))
    have hA0 : CI G0 A := hA.law (fun k hk => hf0 k (by omega) (by omega))
    refine q_eqe C 125 dL_would_120 (by decide) (rfl) ?_
    refine q_bipush C 40 dL_would_125 (by decide) ?_
    refine q_newaP 114 C 40 hP (by decide) (by decide) (by decide) dL_would_127 (fun w1 hE1 hL114 hP1 C1 => ?_)
    refine q_lvE (lv' := [(9, .int (iI (rea A.r (lo (srI x 4) 40) (lo x 16) (lo (srI x 9) ((A.r (lo x 16)) + 1))))), (8, .int (iI (lo (srI x 9) ((A.r (lo x 16)) + 1)))), (7, .int (iI (lo (srI x 4) 40))), (6, .int (iI (lo x 16))), (0, .ref (adr w1 0)), (1, .ref (adr w1 110)), (2, .ref (adr w1 111)), (3, .ref (adr w1 113)), (4, .ref (adr w1 112)), (5, .int (iI x))]) (by rw [hE1.2.2.1 0 (nP_ge (by decide)), hE1.2.2.1 110 (hL0.2.1), hE1.2.2.1 111 (hL1.2.1), hE1.2.2.1 113 (hL3.2.1), hE1.2.2.1 112 (hL2.2.1)]) ?_
    replace hL0 := hL0.ex hE1
    replace hL1 := hL1.ex hE1
    replace hL3 := hL3.ex hE1
    replace hL2 := hL2.ex hE1
    refine q_astore (lv' := [(10, .ref (adr w1 114)), (9, .int (iI (rea A.r (lo (srI x 4) 40) (lo x 16) (lo (srI x 9) ((A.r (lo x 16)) + 1))))), (8, .int (iI (lo (srI x 9) ((A.r (lo x 16)) + 1)))), (7, .int (iI (lo (srI x 4) 40))), (6, .int (iI (lo x 16))), (0, .ref (adr w1 0)), (1, .ref (adr w1 110)), (2, .ref (adr w1 111)), (3, .ref (adr w1 113)), (4, .ref (adr w1 112)), (5, .int (iI x))]) C1 dL_would_129 (by decide) rfl ?_
    refine q_bipush C1 16 dL_would_131 (by decide) ?_
    refine q_newaP 115 C1 16 hP1 (by decide) (by decide) (by decide) dL_would_133 (fun w2 hE2 hL115 hP2 C2 => ?_)
    refine q_lvE (lv' := [(10, .ref (adr w2 114)), (9, .int (iI (rea A.r (lo (srI x 4) 40) (lo x 16) (lo (srI x 9) ((A.r (lo x 16)) + 1))))), (8, .int (iI (lo (srI x 9) ((A.r (lo x 16)) + 1)))), (7, .int (iI (lo (srI x 4) 40))), (6, .int (iI (lo x 16))), (0, .ref (adr w2 0)), (1, .ref (adr w2 110)), (2, .ref (adr w2 111)), (3, .ref (adr w2 113)), (4, .ref (adr w2 112)), (5, .int (iI x))]) (by rw [hE2.2.2.1 114 (hL114.2.1), hE2.2.2.1 0 (nP_ge (by decide)), hE2.2.2.1 110 (hL0.2.1), hE2.2.2.1 111 (hL1.2.1), hE2.2.2.1 113 (hL3.2.1), hE2.2.2.1 112 (hL2.2.1)]) ?_
    replace hL0 := hL0.ex hE2
    replace hL1 := hL1.ex hE2
    replace hL3 := hL3.ex hE2
    replace hL2 := hL2.ex hE2
    replace hL114 := hL114.ex hE2
    refine q_astore (lv' := [(11, .ref (adr w2 115)), (10, .ref (adr w2 114)), (9, .int (iI (rea A.r (lo (srI x 4) 40) (lo x 16) (lo (srI x 9) ((A.r (lo x 16)) + 1))))), (8, .int (iI (lo (srI x 9) ((A.r (lo x 16)) + 1)))), (7, .int (iI (lo (srI x 4) 40))), (6, .int (iI (lo x 16))), (0, .ref (adr w2 0)), (1, .ref (adr w2 110)), (2, .ref (adr w2 111)), (3, .ref (adr w2 113)), (4, .ref (adr w2 112)), (5, .int (iI x))]) C2 dL_would_135 (by decide) rfl ?_
    refine q_bipush C2 14 dL_would_137 (by decide) ?_
    refine q_newaP 116 C2 14 hP2 (by decide) (by decide) (by decide) dL_would_139 (fun w3 hE3 hL116 hP3 C3 => ?_)
    refine q_lvE (lv' := [(11, .ref (adr w3 115)), (10, .ref (adr w3 114)), (9, .int (iI (rea A.r (lo (srI x 4) 40) (lo x 16) (lo (srI x 9) ((A.r (lo x 16)) + 1))))), (8, .int (iI (lo (srI x 9) ((A.r (lo x 16)) + 1)))), (7, .int (iI (lo (srI x 4) 40))), (6, .int (iI (lo x 16))), (0, .ref (adr w3 0)), (1, .ref (adr w3 110)), (2, .ref (adr w3 111)), (3, .ref (adr w3 113)), (4, .ref (adr w3 112)), (5, .int (iI x))]) (by rw [hE3.2.2.1 115 (hL115.2.1), hE3.2.2.1 114 (hL114.2.1), hE3.2.2.1 0 (nP_ge (by decide)), hE3.2.2.1 110 (hL0.2.1), hE3.2.2.1 111 (hL1.2.1), hE3.2.2.1 113 (hL3.2.1), hE3.2.2.1 112 (hL2.2.1)]) ?_
    replace hL0 := hL0.ex hE3
    replace hL1 := hL1.ex hE3
    replace hL3 := hL3.ex hE3
    replace hL2 := hL2.ex hE3
    replace hL114 := hL114.ex hE3
    replace hL115 := hL115.ex hE3
    refine q_astore (lv' := [(12, .ref (adr w3 116)), (11, .ref (adr w3 115)), (10, .ref (adr w3 114)), (9, .int (iI (rea A.r (lo (srI x 4) 40) (lo x 16) (lo (srI x 9) ((A.r (lo x 16)) + 1))))), (8, .int (iI (lo (srI x 9) ((A.r (lo x 16)) + 1)))), (7, .int (iI (lo (srI x 4) 40))), (6, .int (iI (lo x 16))), (0, .ref (adr w3 0)), (1, .ref (adr w3 110)), (2, .ref (adr w3 111)), (3, .ref (adr w3 113)), (4, .ref (adr w3 112)), (5, .int (iI x))]) C3 dL_would_141 (by decide) rfl ?_
    refine q_bipush C3 40 dL_would_143 (by decide) ?_
    refine q_newaP 117 C3 40 hP3 (by decide) (by decide) (by decide) dL_would_145 (fun w4 hE4 hL117 hP4 C4 => ?_)
    refine q_lvE (lv' := [(12, .ref (adr w4 116)), (11, .ref (adr w4 115)), (10, .ref (adr w4 114)), (9, .int (iI (rea A.r (lo (srI x 4) 40) (lo x 16) (lo (srI x 9) ((A.r (lo x 16)) + 1))))), (8, .int (iI (lo (srI x 9) ((A.r (lo x 16)) + 1)))), (7, .int (iI (lo (srI x 4) 40))), (6, .int (iI (lo x 16))), (0, .ref (adr w4 0)), (1, .ref (adr w4 110)), (2, .ref (adr w4 111)), (3, .ref (adr w4 113)), (4, .ref (adr w4 112)), (5, .int (iI x))]) (by rw [hE4.2.2.1 116 (hL116.2.1), hE4.2.2.1 115 (hL115.2.1), hE4.2.2.1 114 (hL114.2.1), hE4.2.2.1 0 (nP_ge (by decide)), hE4.2.2.1 110 (hL0.2.1), hE4.2.2.1 111 (hL1.2.1), hE4.2.2.1 113 (hL3.2.1), hE4.2.2.1 112 (hL2.2.1)]) ?_
    replace hL0 := hL0.ex hE4
    replace hL1 := hL1.ex hE4
    replace hL3 := hL3.ex hE4
    replace hL2 := hL2.ex hE4
    replace hL114 := hL114.ex hE4
    replace hL115 := hL115.ex hE4
    replace hL116 := hL116.ex hE4
    refine q_astore (lv' := [(13, .ref (adr w4 117)), (12, .ref (adr w4 116)), (11, .ref (adr w4 115)), (10, .ref (adr w4 114)), (9, .int (iI (rea A.r (lo (srI x 4) 40) (lo x 16) (lo (srI x 9) ((A.r (lo x 16)) + 1))))), (8, .int (iI (lo (srI x 9) ((A.r (lo x 16)) + 1)))), (7, .int (iI (lo (srI x 4) 40))), (6, .int (iI (lo x 16))), (0, .ref (adr w4 0)), (1, .ref (adr w4 110)), (2, .ref (adr w4 111)), (3, .ref (adr w4 113)), (4, .ref (adr w4 112)), (5, .int (iI x))]) C4 dL_would_147 (by decide) rfl ?_
    refine q_aload_n C4 9 dL_would_149 rfl ?_
    refine q_aload C4 3 dL_would_150 rfl ?_
    refine q_cV (q_runS (As := [.ref (adr w4 110), .ref (adr w4 114)]) (rest := []) C4 (k_L_copy (F := (zer (zer (zer (zer G0 114) 115) 116) 117)) (N := 40) l hL0 hL114) wd_508 wd_507 wd_12 wd_506 nd_L_copy rfl (by decide) ⟨Nat.le_of_ble_eq_true rfl, Nat.le_of_ble_eq_true rfl⟩ rfl (Nat.le_of_ble_eq_true rfl) dL_would_152) ?_
    rintro F' rfl
    refine q_aload_n C4 10 dL_would_155 rfl ?_
    refine q_aload C4 2 dL_would_156 rfl ?_
    refine q_cV (q_runS (As := [.ref (adr w4 111), .ref (adr w4 115)]) (rest := []) C4 (k_L_copy (F := (cpF (zer (zer (zer (zer G0 114) 115) 116) 117) 110 114)) (N := 16) l hL1 hL115) wd_508 wd_507 wd_12 wd_506 nd_L_copy rfl (by decide) ⟨Nat.le_of_ble_eq_true rfl, Nat.le_of_ble_eq_true rfl⟩ rfl (Nat.le_of_ble_eq_true rfl) dL_would_158) ?_
    rintro F' rfl
    refine q_aload_n C4 11 dL_would_161 rfl ?_
    refine q_aload C4 1 dL_would_162 rfl ?_
    refine q_cV (q_runS (As := [.ref (adr w4 113), .ref (adr w4 116)]) (rest := []) C4 (k_L_copy (F := (cpF (cpF (zer (zer (zer (zer G0 114) 115) 116) 117) 110 114) 111 115)) (N := 14) l hL3 hL116) wd_508 wd_507 wd_12 wd_506 nd_L_copy rfl (by decide) ⟨Nat.le_of_ble_eq_true rfl, Nat.le_of_ble_eq_true rfl⟩ rfl (Nat.le_of_ble_eq_true rfl) dL_would_164) ?_
    rintro F' rfl
    refine q_aload C4 12 dL_would_167 rfl ?_
    refine q_aload C4 0 dL_would_169 rfl ?_
    refine q_cV (q_runS (As := [.ref (adr w4 112), .ref (adr w4 117)]) (rest := []) C4 (k_L_copy (F := (cpF (cpF (cpF (zer (zer (zer (zer G0 114) 115) 116) 117) 110 114) 111 115) 113 116)) (N := 40) l hL2 hL117) wd_508 wd_507 wd_12 wd_506 nd_L_copy rfl (by decide) ⟨Nat.le_of_ble_eq_true rfl, Nat.le_of_ble_eq_true rfl⟩ rfl (Nat.le_of_ble_eq_true rfl) dL_would_171) ?_
    rintro F' rfl
    generalize hgG : (cpF (cpF (cpF (cpF (zer (zer (zer (zer G0 114) 115) 116) 117) 110 114) 111 115) 113 116) 112 117) = G1
    have hTA1 : TA G1 114 115 116 117 A.r := by rw [← hgG]; exact hTA0.to (by rw [cpF_k (by decide), cpF_k (by decide), cpF_k (by decide), cpF_at, zer_k (by decide), zer_k (by decide), zer_k (by decide), zer_k (by decide)]) (by rw [cpF_k (by decide), cpF_k (by decide), cpF_at, cpF_k (by decide), zer_k (by decide), zer_k (by decide), zer_k (by decide), zer_k (by decide)]) (by rw [cpF_k (by decide), cpF_at, cpF_k (by decide), cpF_k (by decide), zer_k (by decide), zer_k (by decide), zer_k (by decide), zer_k (by decide)]) (by rw [cpF_at, cpF_k (by decide), cpF_k (by decide), cpF_k (by decide), zer_k (by decide), zer_k (by decide), zer_k (by decide), zer_k (by decide)])
    have hf1 : ∀ k, k < 114 → G1 k = G0 k := fun k hk => by rw [← hgG, cpF_k (by omega), cpF_k (by omega), cpF_k (by omega), cpF_k (by omega), zer_k (by omega), zer_k (by omega), zer_k (by omega), zer_k (by omega)]
    refine q_iconst C4 1 dL_would_174 ?_
    refine q_iload C4 13 dL_would_175 rfl ?_
    refine q_bipush C4 7 dL_would_177 (by decide) ?_
    refine q_ishr C4 (srI x 7) (srI_e _ _) dL_would_179 ?_
    refine q_iload C4 13 dL_would_180 rfl ?_
    refine q_bipush C4 12 dL_would_182 (by decide) ?_
    refine q_ishr C4 (srI x 12) (srI_e _ _) dL_would_184 ?_
    refine q_iconst C4 4 dL_would_185 ?_
    refine q_cI (q_runS (As := [.int (iI (srI x 12)), .int (iI 4)]) (rest := [.int (iI (srI x 7)), .int (iI 1)]) C4 (k_L_low (F := G1) l (x := srI x 12) (n := 4) ⟨by decide, by decide⟩) wd_163 wd_162 wd_12 wd_161 nd_L_low rfl (by decide) ⟨Nat.le_of_ble_eq_true rfl, Nat.le_of_ble_eq_true rfl⟩ rfl (Nat.le_of_ble_eq_true rfl) dL_would_186) ?_
    rintro z F' ⟨rfl, rfl⟩
    have qlo186 := lo_range (srI x 12) 4 (by omega)
    refine q_if_ne C4 197 dL_would_189 ⟨by omega, by omega⟩  (by decide) (fun h189 => ?_) (fun h189 => ?_)
    · refine q_iconst C4 4 dL_would_197 ?_
      refine q_cI (q_runS (As := [.int (iI (srI x 7)), .int (iI 4)]) (rest := [.int (iI 1)]) C4 (k_L_low (F := G1) l (x := srI x 7) (n := 4) ⟨by decide, by decide⟩) wd_163 wd_162 wd_12 wd_161 nd_L_low rfl (by decide) ⟨Nat.le_of_ble_eq_true rfl, Nat.le_of_ble_eq_true rfl⟩ rfl (Nat.le_of_ble_eq_true rfl) dL_would_198) ?_
      rintro z F' ⟨rfl, rfl⟩
      have qlo198 := lo_range (srI x 7) 4 (by omega)
      refine q_iadd C4 dL_would_201 ?_
      obtain ⟨m, hm9, hm0, hm1⟩ : ∃ m, m = 1 + (lo (srI x 7) 4) ∧ 1 ≤ m ∧ m ≤ 20 := ⟨_, rfl, by omega, by omega⟩
      refine q_top (z' := m) (hm9.symm) ?_
      refine q_istore (lv' := [(14, .int (iI m)), (13, .ref (adr w4 117)), (12, .ref (adr w4 116)), (11, .ref (adr w4 115)), (10, .ref (adr w4 114)), (9, .int (iI (rea A.r (lo (srI x 4) 40) (lo x 16) (lo (srI x 9) ((A.r (lo x 16)) + 1))))), (8, .int (iI (lo (srI x 9) ((A.r (lo x 16)) + 1)))), (7, .int (iI (lo (srI x 4) 40))), (6, .int (iI (lo x 16))), (0, .ref (adr w4 0)), (1, .ref (adr w4 110)), (2, .ref (adr w4 111)), (3, .ref (adr w4 113)), (4, .ref (adr w4 112)), (5, .int (iI x))]) C4 dL_would_202 (by decide) rfl ?_
      refine q_iconst C4 0 dL_would_204 ?_
      refine q_istore (lv' := [(15, .int (iI 0)), (14, .int (iI m)), (13, .ref (adr w4 117)), (12, .ref (adr w4 116)), (11, .ref (adr w4 115)), (10, .ref (adr w4 114)), (9, .int (iI (rea A.r (lo (srI x 4) 40) (lo x 16) (lo (srI x 9) ((A.r (lo x 16)) + 1))))), (8, .int (iI (lo (srI x 9) ((A.r (lo x 16)) + 1)))), (7, .int (iI (lo (srI x 4) 40))), (6, .int (iI (lo x 16))), (0, .ref (adr w4 0)), (1, .ref (adr w4 110)), (2, .ref (adr w4 111)), (3, .ref (adr w4 113)), (4, .ref (adr w4 112)), (5, .int (iI x))]) C4 dL_would_205 (by decide) rfl ?_
      refine q_lv (lv' := [(0, .ref (adr w4 0)), (1, .ref (adr w4 110)), (2, .ref (adr w4 111)), (3, .ref (adr w4 113)), (4, .ref (adr w4 112)), (5, .int (iI x)), (10, .ref (adr w4 114)), (11, .ref (adr w4 115)), (12, .ref (adr w4 116)), (13, .ref (adr w4 117)), (14, .int (iI m)), (15, .int (iI 0))]) [10, 11, 12, 13, 14, 15, 5, 4, 3, 2, 1, 0] rfl ?_
      refine wf2 (P := fun (i : Int) (G : FF) => Wq pg l ev _ s0 mi _ be me co _ w4 _ _ _ 207 [(0, .ref (adr w4 0)), (1, .ref (adr w4 110)), (2, .ref (adr w4 111)), (3, .ref (adr w4 113)), (4, .ref (adr w4 112)), (5, .int (iI x)), (10, .ref (adr w4 114)), (11, .ref (adr w4 115)), (12, .ref (adr w4 116)), (13, .ref (adr w4 117)), (14, .int (iI m)), (15, .int (iI i))] [] G) (I := fun (i : Int) (G : FF) => 0 ≤ i ∧ i ≤ m ∧ TA G 114 115 116 117 (ngs A.r i.toNat) ∧ ∀ k, k < 114 → G k = G1 k) (μ := fun (i : Int) (G : FF) => (m - i).toNat) ?_ 0 G1 (⟨by omega, by omega, hTA1, fun k hk => rfl⟩)
      intro i G hI' ih207
      (try dsimp only at hI'); (try dsimp only at ih207); (try dsimp only)
      obtain ⟨hi0, hi1, hTAG, hfr⟩ := hI'
      refine q_iload C4 11 dL_would_207 rfl ?_
      refine q_iload C4 10 dL_would_209 rfl ?_
      refine q_icmp_ge C4 233 dL_would_211 ⟨by omega, by omega⟩ ⟨by omega, by omega⟩ (by decide) (fun h211 => ?_) (fun h211 => ?_)
      · have him : i = m := by omega
        have hAG : CI G A := hA0.law (fun k hk => (hfr k (by omega)).trans (hf1 k (by omega)))
        refine q_iload C4 5 dL_would_233 rfl ?_
        refine q_bipush C4 15 dL_would_235 (by decide) ?_
        refine q_ishr C4 (srI x 15) (srI_e _ _) dL_would_237 ?_
        refine q_iconst C4 4 dL_would_238 ?_
        refine q_cI (q_runS (As := [.int (iI (srI x 15)), .int (iI 4)]) (rest := []) C4 (k_L_low (F := G) l (x := srI x 15) (n := 4) ⟨by decide, by decide⟩) wd_163 wd_162 wd_12 wd_161 nd_L_low rfl (by decide) ⟨Nat.le_of_ble_eq_true rfl, Nat.le_of_ble_eq_true rfl⟩ rfl (Nat.le_of_ble_eq_true rfl) dL_would_239) ?_
        rintro z F' ⟨rfl, rfl⟩
        have qlo239 := lo_range (srI x 15) 4 (by omega)
        refine q_istore (lv' := [(15, .int (iI (lo (srI x 15) 4))), (0, .ref (adr w4 0)), (1, .ref (adr w4 110)), (2, .ref (adr w4 111)), (3, .ref (adr w4 113)), (4, .ref (adr w4 112)), (5, .int (iI x)), (10, .ref (adr w4 114)), (11, .ref (adr w4 115)), (12, .ref (adr w4 116)), (13, .ref (adr w4 117)), (14, .int (iI m))]) C4 dL_would_242 (by decide) rfl ?_
        refine q_aload_n C4 1 dL_would_244 rfl ?_
        refine q_iload C4 11 dL_would_245 rfl ?_
        refine q_iload C4 0 dL_would_247 rfl ?_
        refine q_cI (q_runV (As := [.int (iI m), .int (iI (lo (srI x 15) 4))]) (rest := []) C4 (k_X3_ifSlept (F := G) l hAG (m := m) (d := lo (srI x 15) 4) ⟨by omega, by omega⟩ ⟨by omega, by omega⟩ (by unfold ifSleptT; rw [if_neg (by omega), if_neg (by omega)])) kd0 (by decide) rfl wd_524 wd_522 wd_523 wd_13 wd_521 nd_X3_ifSlept rfl (by decide) ⟨Nat.le_of_ble_eq_true rfl, Nat.le_of_ble_eq_true rfl⟩ rfl (Nat.le_of_ble_eq_true rfl) dL_would_249) ?_
        rintro z G9 ⟨-, rfl, hJ9⟩
        have hTA9 : TA G9 110 111 113 112 A.r := hTA0.to ((hJ9.2 110 (by decide)).trans ((hfr 110 (by decide)).trans (hf1 110 (by decide)))) ((hJ9.2 111 (by decide)).trans ((hfr 111 (by decide)).trans (hf1 111 (by decide)))) ((hJ9.2 113 (by decide)).trans ((hfr 113 (by decide)).trans (hf1 113 (by decide)))) ((hJ9.2 112 (by decide)).trans ((hfr 112 (by decide)).trans (hf1 112 (by decide))))
        have hT9 : TA G9 114 115 116 117 (ngs A.r i.toNat) := hTAG.to (hJ9.2 114 (by decide)) (hJ9.2 115 (by decide)) (hJ9.2 116 (by decide)) (hJ9.2 117 (by decide))
        refine q_aload C4 7 dL_would_252 rfl ?_
        refine q_aload C4 8 dL_would_254 rfl ?_
        refine q_iload C4 0 dL_would_256 rfl ?_
        refine q_cI (q_runS (As := [.ref (adr w4 114), .ref (adr w4 115), .int (iI (lo (srI x 15) 4))]) (rest := [.int (iI (ifSleptZ A m (lo (srI x 15) 4)))]) C4 (k_L_doorWorth (F := G9) (r := (ngs A.r i.toNat)) l hL114 hT9.1 hT9.2.2.2.2 hL115 hT9.2.1 (d := lo (srI x 15) 4) ⟨by omega, by omega⟩) wd_371 wd_370 wd_12 wd_369 nd_L_doorWorth rfl (by decide) ⟨Nat.le_of_ble_eq_true rfl, Nat.le_of_ble_eq_true rfl⟩ rfl (Nat.le_of_ble_eq_true rfl) dL_would_258) ?_
        rintro z F' ⟨rfl, rfl⟩
        have qd258 := dw_range (d := lo (srI x 15) 4) hT9.2.2.2.2 (by omega) (by omega)
        refine q_eqn C4 268 dL_would_261 (by decide) (by rw [him]; rfl) ?_
        refine q_iconst C4 1 dL_would_264 ?_
        refine q_goto C4 269 dL_would_265 (by decide) ?_
        refine q_back hE4 ?_
        refine q_back hE3 ?_
        refine q_back hE2 ?_
        refine q_back hE1 ?_
        refine q_mzret C ⟨Nat.le_of_ble_eq_true rfl, Nat.le_of_ble_eq_true rfl⟩ dL_would_269 (by decide) ?_
        exact ⟨rfl, hJ9.1, hTA9⟩
      · refine q_aload C4 6 dL_would_214 rfl ?_
        refine q_aload C4 7 dL_would_216 rfl ?_
        refine q_aload C4 8 dL_would_218 rfl ?_
        refine q_aload C4 9 dL_would_220 rfl ?_
        refine q_cI (q_runS (As := [.ref (adr w4 114), .ref (adr w4 115), .ref (adr w4 116), .ref (adr w4 117)]) (rest := []) C4 (k_L_night (F := G) (r := (ngs A.r i.toNat)) l hL114 hTAG.1 hTAG.2.2.2.2 hL115 hTAG.2.1 hL116 hTAG.2.2.1 hL117 hTAG.2.2.2.1 (by decide)) wd_517 wd_516 wd_12 wd_515 nd_L_night rfl (by decide) ⟨Nat.le_of_ble_eq_true rfl, Nat.le_of_ble_eq_true rfl⟩ rfl (Nat.le_of_ble_eq_true rfl) dL_would_222) ?_
        rintro z GN ⟨rfl, hTAN, hfN⟩
        refine q_istore (lv' := [(16, .int (iI (rbs (ng (ngs A.r i.toNat)) - rbs (ngs A.r i.toNat)))), (0, .ref (adr w4 0)), (1, .ref (adr w4 110)), (2, .ref (adr w4 111)), (3, .ref (adr w4 113)), (4, .ref (adr w4 112)), (5, .int (iI x)), (10, .ref (adr w4 114)), (11, .ref (adr w4 115)), (12, .ref (adr w4 116)), (13, .ref (adr w4 117)), (14, .int (iI m)), (15, .int (iI i))]) C4 dL_would_225 (by decide) rfl ?_
        refine q_iinc (lv' := [(15, .int (iI (i + 1))), (16, .int (iI (rbs (ng (ngs A.r i.toNat)) - rbs (ngs A.r i.toNat)))), (0, .ref (adr w4 0)), (1, .ref (adr w4 110)), (2, .ref (adr w4 111)), (3, .ref (adr w4 113)), (4, .ref (adr w4 112)), (5, .int (iI x)), (10, .ref (adr w4 114)), (11, .ref (adr w4 115)), (12, .ref (adr w4 116)), (13, .ref (adr w4 117)), (14, .int (iI m))]) C4 12 dL_would_227 rfl (by decide) rfl ?_
        refine q_goto C4 207 dL_would_230 (by decide) ?_
        refine q_lv (lv' := [(0, .ref (adr w4 0)), (1, .ref (adr w4 110)), (2, .ref (adr w4 111)), (3, .ref (adr w4 113)), (4, .ref (adr w4 112)), (5, .int (iI x)), (10, .ref (adr w4 114)), (11, .ref (adr w4 115)), (12, .ref (adr w4 116)), (13, .ref (adr w4 117)), (14, .int (iI m)), (15, .int (iI (i + 1)))]) [2, 3, 4, 5, 6, 7, 8, 9, 10, 11, 12, 0] rfl ?_
        exact ih207 (i + 1) GN (⟨by omega, by omega, by rw [ngs_i hi0]; exact hTAN, fun k hk => (hfN k (by omega) (by omega) (by omega) (by omega)).trans (hfr k hk)⟩) (by omega)
    · refine q_bipush C4 20 dL_would_192 (by decide) ?_
      refine q_goto C4 198 dL_would_194 (by decide) ?_
      refine q_cI (q_runS (As := [.int (iI (srI x 7)), .int (iI 20)]) (rest := [.int (iI 1)]) C4 (k_L_low (F := G1) l (x := srI x 7) (n := 20) ⟨by decide, by decide⟩) wd_163 wd_162 wd_12 wd_161 nd_L_low rfl (by decide) ⟨Nat.le_of_ble_eq_true rfl, Nat.le_of_ble_eq_true rfl⟩ rfl (Nat.le_of_ble_eq_true rfl) dL_would_198) ?_
      rintro z F' ⟨rfl, rfl⟩
      have qlo198 := lo_range (srI x 7) 20 (by omega)
      refine q_iadd C4 dL_would_201 ?_
      obtain ⟨m, hm9, hm0, hm1⟩ : ∃ m, m = 1 + (lo (srI x 7) 20) ∧ 1 ≤ m ∧ m ≤ 20 := ⟨_, rfl, by omega, by omega⟩
      refine q_top (z' := m) (hm9.symm) ?_
      refine q_istore (lv' := [(14, .int (iI m)), (13, .ref (adr w4 117)), (12, .ref (adr w4 116)), (11, .ref (adr w4 115)), (10, .ref (adr w4 114)), (9, .int (iI (rea A.r (lo (srI x 4) 40) (lo x 16) (lo (srI x 9) ((A.r (lo x 16)) + 1))))), (8, .int (iI (lo (srI x 9) ((A.r (lo x 16)) + 1)))), (7, .int (iI (lo (srI x 4) 40))), (6, .int (iI (lo x 16))), (0, .ref (adr w4 0)), (1, .ref (adr w4 110)), (2, .ref (adr w4 111)), (3, .ref (adr w4 113)), (4, .ref (adr w4 112)), (5, .int (iI x))]) C4 dL_would_202 (by decide) rfl ?_
      refine q_iconst C4 0 dL_would_204 ?_
      refine q_istore (lv' := [(15, .int (iI 0)), (14, .int (iI m)), (13, .ref (adr w4 117)), (12, .ref (adr w4 116)), (11, .ref (adr w4 115)), (10, .ref (adr w4 114)), (9, .int (iI (rea A.r (lo (srI x 4) 40) (lo x 16) (lo (srI x 9) ((A.r (lo x 16)) + 1))))), (8, .int (iI (lo (srI x 9) ((A.r (lo x 16)) + 1)))), (7, .int (iI (lo (srI x 4) 40))), (6, .int (iI (lo x 16))), (0, .ref (adr w4 0)), (1, .ref (adr w4 110)), (2, .ref (adr w4 111)), (3, .ref (adr w4 113)), (4, .ref (adr w4 112)), (5, .int (iI x))]) C4 dL_would_205 (by decide) rfl ?_
      refine q_lv (lv' := [(0, .ref (adr w4 0)), (1, .ref (adr w4 110)), (2, .ref (adr w4 111)), (3, .ref (adr w4 113)), (4, .ref (adr w4 112)), (5, .int (iI x)), (10, .ref (adr w4 114)), (11, .ref (adr w4 115)), (12, .ref (adr w4 116)), (13, .ref (adr w4 117)), (14, .int (iI m)), (15, .int (iI 0))]) [10, 11, 12, 13, 14, 15, 5, 4, 3, 2, 1, 0] rfl ?_
      refine wf2 (P := fun (i : Int) (G : FF) => Wq pg l ev _ s0 mi _ be me co _ w4 _ _ _ 207 [(0, .ref (adr w4 0)), (1, .ref (adr w4 110)), (2, .ref (adr w4 111)), (3, .ref (adr w4 113)), (4, .ref (adr w4 112)), (5, .int (iI x)), (10, .ref (adr w4 114)), (11, .ref (adr w4 115)), (12, .ref (adr w4 116)), (13, .ref (adr w4 117)), (14, .int (iI m)), (15, .int (iI i))] [] G) (I := fun (i : Int) (G : FF) => 0 ≤ i ∧ i ≤ m ∧ TA G 114 115 116 117 (ngs A.r i.toNat) ∧ ∀ k, k < 114 → G k = G1 k) (μ := fun (i : Int) (G : FF) => (m - i).toNat) ?_ 0 G1 (⟨by omega, by omega, hTA1, fun k hk => rfl⟩)
      intro i G hI' ih207
      (try dsimp only at hI'); (try dsimp only at ih207); (try dsimp only)
      obtain ⟨hi0, hi1, hTAG, hfr⟩ := hI'
      refine q_iload C4 11 dL_would_207 rfl ?_
      refine q_iload C4 10 dL_would_209 rfl ?_
      refine q_icmp_ge C4 233 dL_would_211 ⟨by omega, by omega⟩ ⟨by omega, by omega⟩ (by decide) (fun h211 => ?_) (fun h211 => ?_)
      · have him : i = m := by omega
        have hAG : CI G A := hA0.law (fun k hk => (hfr k (by omega)).trans (hf1 k (by omega)))
        refine q_iload C4 5 dL_would_233 rfl ?_
        refine q_bipush C4 15 dL_would_235 (by decide) ?_
        refine q_ishr C4 (srI x 15) (srI_e _ _) dL_would_237 ?_
        refine q_iconst C4 4 dL_would_238 ?_
        refine q_cI (q_runS (As := [.int (iI (srI x 15)), .int (iI 4)]) (rest := []) C4 (k_L_low (F := G) l (x := srI x 15) (n := 4) ⟨by decide, by decide⟩) wd_163 wd_162 wd_12 wd_161 nd_L_low rfl (by decide) ⟨Nat.le_of_ble_eq_true rfl, Nat.le_of_ble_eq_true rfl⟩ rfl (Nat.le_of_ble_eq_true rfl) dL_would_239) ?_
        rintro z F' ⟨rfl, rfl⟩
        have qlo239 := lo_range (srI x 15) 4 (by omega)
        refine q_istore (lv' := [(15, .int (iI (lo (srI x 15) 4))), (0, .ref (adr w4 0)), (1, .ref (adr w4 110)), (2, .ref (adr w4 111)), (3, .ref (adr w4 113)), (4, .ref (adr w4 112)), (5, .int (iI x)), (10, .ref (adr w4 114)), (11, .ref (adr w4 115)), (12, .ref (adr w4 116)), (13, .ref (adr w4 117)), (14, .int (iI m))]) C4 dL_would_242 (by decide) rfl ?_
        refine q_aload_n C4 1 dL_would_244 rfl ?_
        refine q_iload C4 11 dL_would_245 rfl ?_
        refine q_iload C4 0 dL_would_247 rfl ?_
        refine q_cI (q_runV (As := [.int (iI m), .int (iI (lo (srI x 15) 4))]) (rest := []) C4 (k_X3_ifSlept (F := G) l hAG (m := m) (d := lo (srI x 15) 4) ⟨by omega, by omega⟩ ⟨by omega, by omega⟩ (by unfold ifSleptT; rw [if_neg (by omega), if_neg (by omega)])) kd0 (by decide) rfl wd_524 wd_522 wd_523 wd_13 wd_521 nd_X3_ifSlept rfl (by decide) ⟨Nat.le_of_ble_eq_true rfl, Nat.le_of_ble_eq_true rfl⟩ rfl (Nat.le_of_ble_eq_true rfl) dL_would_249) ?_
        rintro z G9 ⟨-, rfl, hJ9⟩
        have hTA9 : TA G9 110 111 113 112 A.r := hTA0.to ((hJ9.2 110 (by decide)).trans ((hfr 110 (by decide)).trans (hf1 110 (by decide)))) ((hJ9.2 111 (by decide)).trans ((hfr 111 (by decide)).trans (hf1 111 (by decide)))) ((hJ9.2 113 (by decide)).trans ((hfr 113 (by decide)).trans (hf1 113 (by decide)))) ((hJ9.2 112 (by decide)).trans ((hfr 112 (by decide)).trans (hf1 112 (by decide))))
        have hT9 : TA G9 114 115 116 117 (ngs A.r i.toNat) := hTAG.to (hJ9.2 114 (by decide)) (hJ9.2 115 (by decide)) (hJ9.2 116 (by decide)) (hJ9.2 117 (by decide))
        refine q_aload C4 7 dL_would_252 rfl ?_
        refine q_aload C4 8 dL_would_254 rfl ?_
        refine q_iload C4 0 dL_would_256 rfl ?_
        refine q_cI (q_runS (As := [.ref (adr w4 114), .ref (adr w4 115), .int (iI (lo (srI x 15) 4))]) (rest := [.int (iI (ifSleptZ A m (lo (srI x 15) 4)))]) C4 (k_L_doorWorth (F := G9) (r := (ngs A.r i.toNat)) l hL114 hT9.1 hT9.2.2.2.2 hL115 hT9.2.1 (d := lo (srI x 15) 4) ⟨by omega, by omega⟩) wd_371 wd_370 wd_12 wd_369 nd_L_doorWorth rfl (by decide) ⟨Nat.le_of_ble_eq_true rfl, Nat.le_of_ble_eq_true rfl⟩ rfl (Nat.le_of_ble_eq_true rfl) dL_would_258) ?_
        rintro z F' ⟨rfl, rfl⟩
        have qd258 := dw_range (d := lo (srI x 15) 4) hT9.2.2.2.2 (by omega) (by omega)
        refine q_eqn C4 268 dL_would_261 (by decide) (by rw [him]; rfl) ?_
        refine q_iconst C4 1 dL_would_264 ?_
        refine q_goto C4 269 dL_would_265 (by decide) ?_
        refine q_back hE4 ?_
        refine q_back hE3 ?_
        refine q_back hE2 ?_
        refine q_back hE1 ?_
        refine q_mzret C ⟨Nat.le_of_ble_eq_true rfl, Nat.le_of_ble_eq_true rfl⟩ dL_would_269 (by decide) ?_
        exact ⟨rfl, hJ9.1, hTA9⟩
      · refine q_aload C4 6 dL_would_214 rfl ?_
        refine q_aload C4 7 dL_would_216 rfl ?_
        refine q_aload C4 8 dL_would_218 rfl ?_
        refine q_aload C4 9 dL_would_220 rfl ?_
        refine q_cI (q_runS (As := [.ref (adr w4 114), .ref (adr w4 115), .ref (adr w4 116), .ref (adr w4 117)]) (rest := []) C4 (k_L_night (F := G) (r := (ngs A.r i.toNat)) l hL114 hTAG.1 hTAG.2.2.2.2 hL115 hTAG.2.1 hL116 hTAG.2.2.1 hL117 hTAG.2.2.2.1 (by decide)) wd_517 wd_516 wd_12 wd_515 nd_L_night rfl (by decide) ⟨Nat.le_of_ble_eq_true rfl, Nat.le_of_ble_eq_true rfl⟩ rfl (Nat.le_of_ble_eq_true rfl) dL_would_222) ?_
        rintro z GN ⟨rfl, hTAN, hfN⟩
        refine q_istore (lv' := [(16, .int (iI (rbs (ng (ngs A.r i.toNat)) - rbs (ngs A.r i.toNat)))), (0, .ref (adr w4 0)), (1, .ref (adr w4 110)), (2, .ref (adr w4 111)), (3, .ref (adr w4 113)), (4, .ref (adr w4 112)), (5, .int (iI x)), (10, .ref (adr w4 114)), (11, .ref (adr w4 115)), (12, .ref (adr w4 116)), (13, .ref (adr w4 117)), (14, .int (iI m)), (15, .int (iI i))]) C4 dL_would_225 (by decide) rfl ?_
        refine q_iinc (lv' := [(15, .int (iI (i + 1))), (16, .int (iI (rbs (ng (ngs A.r i.toNat)) - rbs (ngs A.r i.toNat)))), (0, .ref (adr w4 0)), (1, .ref (adr w4 110)), (2, .ref (adr w4 111)), (3, .ref (adr w4 113)), (4, .ref (adr w4 112)), (5, .int (iI x)), (10, .ref (adr w4 114)), (11, .ref (adr w4 115)), (12, .ref (adr w4 116)), (13, .ref (adr w4 117)), (14, .int (iI m))]) C4 12 dL_would_227 rfl (by decide) rfl ?_
        refine q_goto C4 207 dL_would_230 (by decide) ?_
        refine q_lv (lv' := [(0, .ref (adr w4 0)), (1, .ref (adr w4 110)), (2, .ref (adr w4 111)), (3, .ref (adr w4 113)), (4, .ref (adr w4 112)), (5, .int (iI x)), (10, .ref (adr w4 114)), (11, .ref (adr w4 115)), (12, .ref (adr w4 116)), (13, .ref (adr w4 117)), (14, .int (iI m)), (15, .int (iI (i + 1)))]) [2, 3, 4, 5, 6, 7, 8, 9, 10, 11, 12, 0] rfl ?_
        exact ih207 (i + 1) GN (⟨by omega, by omega, by rw [ngs_i hi0]; exact hTAN, fun k hk => (hfN k (by omega) (by omega) (by omega) (by omega)).trans (hfr k hk)⟩) (by omega)

set_option maxRecDepth 100000 in
set_option maxHeartbeats 4000000 in
theorem k_L_acts (l : Launch) {w : WP} {F : FF} {a b nn t : Nat} {A : AS} (hLa : LwP w a 40) (hLb : LwP w b 16) (hLn : LwP w nn 14) (hLt : LwP w t 40) (hTA : TA F a b nn t A.r) (hA : CI F A) {k x y : Int} (hk9 : 0 ≤ k ∧ k < 16) (hnb : A.r 179 ≤ 9000) (hd : a ≠ b ∧ a ≠ nn ∧ a ≠ t ∧ b ≠ nn ∧ b ≠ t ∧ nn ≠ t)  : Con l yL_acts cL_acts 8 (some .boolean) 9 w [.ref (adr w 0), .ref (adr w a), .ref (adr w b), .ref (adr w nn), .ref (adr w t), .int (iI k), .int (iI x), .int (iI y)] F (QI w (fun z F' => z = 1 ∧ ActQ F' a b nn t A)) := by
  refine Con.mk (lv := [(0, .ref (adr w 0)), (1, .ref (adr w a)), (2, .ref (adr w b)), (3, .ref (adr w nn)), (4, .ref (adr w t)), (5, .int (iI k)), (6, .int (iI x)), (7, .int (iI y))]) (by decide) (Nat.le_of_ble_eq_true rfl) rfl ?_
  intro pg ev s0 mi be me co C hz
  obtain ⟨hW, hL, hN, hT, hI⟩ := id hTA
  refine q_iload C 5 dL_acts_0 rfl ?_
  rcases (show k = 0 ∨ k = 1 ∨ k = 2 ∨ k = 3 ∨ k = 4 ∨ k = 5 ∨ k = 6 ∨ k = 7 ∨ k = 8 ∨ k = 9 ∨ k = 10 ∨ k = 11 ∨ k = 12 ∨ k = 13 ∨ k = 14 ∨ (k < 0 ∨ 14 < k) by omega) with hsw | hsw | hsw | hsw | hsw | hsw | hsw | hsw | hsw | hsw | hsw | hsw | hsw | hsw | hsw | hsw
  · refine q_tableIn C 76 dL_acts_2 ⟨by omega, by omega⟩ (by omega) (by omega) (by rw [hsw]; rfl) (by decide) ?_
    refine q_aload_n C 0 dL_acts_76 rfl ?_
    refine q_aload_n C 1 dL_acts_77 rfl ?_
    refine q_aload_n C 2 dL_acts_78 rfl ?_
    refine q_aload_n C 3 dL_acts_79 rfl ?_
    refine q_iload C 6 dL_acts_80 rfl ?_
    refine q_iload C 7 dL_acts_82 rfl ?_
    refine q_cI (q_runS (As := [.ref (adr w 0), .ref (adr w a), .ref (adr w b), .ref (adr w nn), .int (iI x), .int (iI y)]) (rest := []) C (k_L_puts (F := F) (a := a) (b := b) (nn := nn) (t := t) (x := x) (y := y) l hLa hLb hLn hLt hTA hA hd) wd_570 wd_569 wd_12 wd_568 nd_L_puts rfl (by decide) ⟨Nat.zero_le _, Nat.zero_le _⟩ rfl (Nat.le_of_ble_eq_true rfl) dL_acts_84) ?_
    rintro z F' ⟨rfl, hQ⟩
    refine q_zret C dL_acts_87 (by decide) ?_
    exact ⟨rfl, hQ⟩
  · refine q_tableIn C 76 dL_acts_2 ⟨by omega, by omega⟩ (by omega) (by omega) (by rw [hsw]; rfl) (by decide) ?_
    refine q_aload_n C 0 dL_acts_76 rfl ?_
    refine q_aload_n C 1 dL_acts_77 rfl ?_
    refine q_aload_n C 2 dL_acts_78 rfl ?_
    refine q_aload_n C 3 dL_acts_79 rfl ?_
    refine q_iload C 6 dL_acts_80 rfl ?_
    refine q_iload C 7 dL_acts_82 rfl ?_
    refine q_cI (q_runS (As := [.ref (adr w 0), .ref (adr w a), .ref (adr w b), .ref (adr w nn), .int (iI x), .int (iI y)]) (rest := []) C (k_L_puts (F := F) (a := a) (b := b) (nn := nn) (t := t) (x := x) (y := y) l hLa hLb hLn hLt hTA hA hd) wd_570 wd_569 wd_12 wd_568 nd_L_puts rfl (by decide) ⟨Nat.zero_le _, Nat.zero_le _⟩ rfl (Nat.le_of_ble_eq_true rfl) dL_acts_84) ?_
    rintro z F' ⟨rfl, hQ⟩
    refine q_zret C dL_acts_87 (by decide) ?_
    exact ⟨rfl, hQ⟩
  · refine q_tableIn C 76 dL_acts_2 ⟨by omega, by omega⟩ (by omega) (by omega) (by rw [hsw]; rfl) (by decide) ?_
    refine q_aload_n C 0 dL_acts_76 rfl ?_
    refine q_aload_n C 1 dL_acts_77 rfl ?_
    refine q_aload_n C 2 dL_acts_78 rfl ?_
    refine q_aload_n C 3 dL_acts_79 rfl ?_
    refine q_iload C 6 dL_acts_80 rfl ?_
    refine q_iload C 7 dL_acts_82 rfl ?_
    refine q_cI (q_runS (As := [.ref (adr w 0), .ref (adr w a), .ref (adr w b), .ref (adr w nn), .int (iI x), .int (iI y)]) (rest := []) C (k_L_puts (F := F) (a := a) (b := b) (nn := nn) (t := t) (x := x) (y := y) l hLa hLb hLn hLt hTA hA hd) wd_570 wd_569 wd_12 wd_568 nd_L_puts rfl (by decide) ⟨Nat.zero_le _, Nat.zero_le _⟩ rfl (Nat.le_of_ble_eq_true rfl) dL_acts_84) ?_
    rintro z F' ⟨rfl, hQ⟩
    refine q_zret C dL_acts_87 (by decide) ?_
    exact ⟨rfl, hQ⟩
  · refine q_tableIn C 76 dL_acts_2 ⟨by omega, by omega⟩ (by omega) (by omega) (by rw [hsw]; rfl) (by decide) ?_
    refine q_aload_n C 0 dL_acts_76 rfl ?_
    refine q_aload_n C 1 dL_acts_77 rfl ?_
    refine q_aload_n C 2 dL_acts_78 rfl ?_
    refine q_aload_n C 3 dL_acts_79 rfl ?_
    refine q_iload C 6 dL_acts_80 rfl ?_
    refine q_iload C 7 dL_acts_82 rfl ?_
    refine q_cI (q_runS (As := [.ref (adr w 0), .ref (adr w a), .ref (adr w b), .ref (adr w nn), .int (iI x), .int (iI y)]) (rest := []) C (k_L_puts (F := F) (a := a) (b := b) (nn := nn) (t := t) (x := x) (y := y) l hLa hLb hLn hLt hTA hA hd) wd_570 wd_569 wd_12 wd_568 nd_L_puts rfl (by decide) ⟨Nat.zero_le _, Nat.zero_le _⟩ rfl (Nat.le_of_ble_eq_true rfl) dL_acts_84) ?_
    rintro z F' ⟨rfl, hQ⟩
    refine q_zret C dL_acts_87 (by decide) ?_
    exact ⟨rfl, hQ⟩
  · refine q_tableIn C 76 dL_acts_2 ⟨by omega, by omega⟩ (by omega) (by omega) (by rw [hsw]; rfl) (by decide) ?_
    refine q_aload_n C 0 dL_acts_76 rfl ?_
    refine q_aload_n C 1 dL_acts_77 rfl ?_
    refine q_aload_n C 2 dL_acts_78 rfl ?_
    refine q_aload_n C 3 dL_acts_79 rfl ?_
    refine q_iload C 6 dL_acts_80 rfl ?_
    refine q_iload C 7 dL_acts_82 rfl ?_
    refine q_cI (q_runS (As := [.ref (adr w 0), .ref (adr w a), .ref (adr w b), .ref (adr w nn), .int (iI x), .int (iI y)]) (rest := []) C (k_L_puts (F := F) (a := a) (b := b) (nn := nn) (t := t) (x := x) (y := y) l hLa hLb hLn hLt hTA hA hd) wd_570 wd_569 wd_12 wd_568 nd_L_puts rfl (by decide) ⟨Nat.zero_le _, Nat.zero_le _⟩ rfl (Nat.le_of_ble_eq_true rfl) dL_acts_84) ?_
    rintro z F' ⟨rfl, hQ⟩
    refine q_zret C dL_acts_87 (by decide) ?_
    exact ⟨rfl, hQ⟩
  · refine q_tableIn C 88 dL_acts_2 ⟨by omega, by omega⟩ (by omega) (by omega) (by rw [hsw]; rfl) (by decide) ?_
    refine q_aload_n C 0 dL_acts_88 rfl ?_
    refine q_aload_n C 1 dL_acts_89 rfl ?_
    refine q_aload_n C 2 dL_acts_90 rfl ?_
    refine q_iload C 6 dL_acts_91 rfl ?_
    refine q_cI (q_runS (As := [.ref (adr w 0), .ref (adr w a), .ref (adr w b), .int (iI x)]) (rest := []) C (k_L_takesOff (F := F) (a := a) (b := b) (nn := nn) (t := t) (x := x) l hLa hLb hLn hLt hTA hA hd) wd_613 wd_612 wd_12 wd_611 nd_L_takesOff rfl (by decide) ⟨Nat.zero_le _, Nat.zero_le _⟩ rfl (Nat.le_of_ble_eq_true rfl) dL_acts_93) ?_
    rintro z F' ⟨rfl, hQ⟩
    refine q_zret C dL_acts_96 (by decide) ?_
    exact ⟨rfl, hQ⟩
  · refine q_tableIn C 97 dL_acts_2 ⟨by omega, by omega⟩ (by omega) (by omega) (by rw [hsw]; rfl) (by decide) ?_
    refine q_aload_n C 0 dL_acts_97 rfl ?_
    refine q_aload_n C 1 dL_acts_98 rfl ?_
    refine q_aload_n C 2 dL_acts_99 rfl ?_
    refine q_aload_n C 3 dL_acts_100 rfl ?_
    refine q_iload C 6 dL_acts_101 rfl ?_
    refine q_cI (q_runS (As := [.ref (adr w 0), .ref (adr w a), .ref (adr w b), .ref (adr w nn), .int (iI x)]) (rest := []) C (k_L_moves (F := F) (a := a) (b := b) (nn := nn) (t := t) (x := x) l hLa hLb hLn hLt hTA hA hd) wd_623 wd_622 wd_12 wd_621 nd_L_moves rfl (by decide) ⟨Nat.zero_le _, Nat.zero_le _⟩ rfl (Nat.le_of_ble_eq_true rfl) dL_acts_103) ?_
    rintro z F' ⟨rfl, hQ⟩
    refine q_zret C dL_acts_106 (by decide) ?_
    exact ⟨rfl, hQ⟩
  · refine q_tableIn C 97 dL_acts_2 ⟨by omega, by omega⟩ (by omega) (by omega) (by rw [hsw]; rfl) (by decide) ?_
    refine q_aload_n C 0 dL_acts_97 rfl ?_
    refine q_aload_n C 1 dL_acts_98 rfl ?_
    refine q_aload_n C 2 dL_acts_99 rfl ?_
    refine q_aload_n C 3 dL_acts_100 rfl ?_
    refine q_iload C 6 dL_acts_101 rfl ?_
    refine q_cI (q_runS (As := [.ref (adr w 0), .ref (adr w a), .ref (adr w b), .ref (adr w nn), .int (iI x)]) (rest := []) C (k_L_moves (F := F) (a := a) (b := b) (nn := nn) (t := t) (x := x) l hLa hLb hLn hLt hTA hA hd) wd_623 wd_622 wd_12 wd_621 nd_L_moves rfl (by decide) ⟨Nat.zero_le _, Nat.zero_le _⟩ rfl (Nat.le_of_ble_eq_true rfl) dL_acts_103) ?_
    rintro z F' ⟨rfl, hQ⟩
    refine q_zret C dL_acts_106 (by decide) ?_
    exact ⟨rfl, hQ⟩
  · refine q_tableIn C 107 dL_acts_2 ⟨by omega, by omega⟩ (by omega) (by omega) (by rw [hsw]; rfl) (by decide) ?_
    refine q_iload C 7 dL_acts_107 rfl ?_
    refine q_iconst C 3 dL_acts_109 ?_
    refine q_cI (q_runS (As := [.int (iI y), .int (iI 3)]) (rest := []) C (k_L_low (F := F) l (x := y) (n := 3) ⟨by decide, by decide⟩) wd_163 wd_162 wd_12 wd_161 nd_L_low rfl (by decide) ⟨Nat.zero_le _, Nat.zero_le _⟩ rfl (Nat.le_of_ble_eq_true rfl) dL_acts_110) ?_
    rintro z F' ⟨rfl, rfl⟩
    have qlo110 := lo_range y 3 (by omega)
    refine q_if_gt C 131 dL_acts_113 ⟨by omega, by omega⟩  (by decide) (fun h113 => ?_) (fun h113 => ?_)
    · refine q_iconst C 1 dL_acts_131 ?_
      refine q_goto C 136 dL_acts_132 (by decide) ?_
      refine q_zret C dL_acts_136 (by decide) ?_
      exact ⟨rfl, ActQ.refl hTA hA⟩
    · refine q_aload_n C 0 dL_acts_116 rfl ?_
      refine q_aload_n C 1 dL_acts_117 rfl ?_
      refine q_aload_n C 2 dL_acts_118 rfl ?_
      refine q_iload C 6 dL_acts_119 rfl ?_
      refine q_iconst C 4 dL_acts_121 ?_
      refine q_cI (q_runS (As := [.int (iI x), .int (iI 4)]) (rest := [.ref (adr w b), .ref (adr w a), .ref (adr w 0)]) C (k_L_low (F := F) l (x := x) (n := 4) ⟨by decide, by decide⟩) wd_163 wd_162 wd_12 wd_161 nd_L_low rfl (by decide) ⟨Nat.zero_le _, Nat.zero_le _⟩ rfl (Nat.le_of_ble_eq_true rfl) dL_acts_122) ?_
      rintro z F' ⟨rfl, rfl⟩
      have qlo122 := lo_range x 4 (by omega)
      refine q_cI (q_runS (As := [.ref (adr w 0), .ref (adr w a), .ref (adr w b), .int (iI (lo x 4))]) (rest := []) C (k_L_clears (F := F) (a := a) (b := b) (nn := nn) (t := t) (d := lo x 4) l hLa hLb hLn hLt hTA hA ⟨by omega, by omega⟩ hd) wd_632 wd_631 wd_12 wd_630 nd_L_clears rfl (by decide) ⟨Nat.zero_le _, Nat.zero_le _⟩ rfl (Nat.le_of_ble_eq_true rfl) dL_acts_125) ?_
      rintro z F' ⟨rfl, hQ⟩
      refine q_if_eq C 135 dL_acts_128 ⟨by decide, by decide⟩  (by decide) (fun h => absurd h (by decide)) (fun _ => ?_)
      refine q_iconst C 1 dL_acts_131 ?_
      refine q_goto C 136 dL_acts_132 (by decide) ?_
      refine q_zret C dL_acts_136 (by decide) ?_
      exact ⟨rfl, hQ⟩
  · refine q_tableIn C 137 dL_acts_2 ⟨by omega, by omega⟩ (by omega) (by omega) (by rw [hsw]; rfl) (by decide) ?_
    refine q_aload_n C 0 dL_acts_137 rfl ?_
    refine q_aload_n C 1 dL_acts_138 rfl ?_
    refine q_aload_n C 2 dL_acts_139 rfl ?_
    refine q_iload C 6 dL_acts_140 rfl ?_
    refine q_cI (q_runS (As := [.ref (adr w 0), .ref (adr w a), .ref (adr w b), .int (iI x)]) (rest := []) C (k_L_lends (F := F) (a := a) (b := b) (nn := nn) (t := t) (x := x) l hLa hLb hLn hLt hTA hA hd) wd_643 wd_642 wd_12 wd_641 nd_L_lends rfl (by decide) ⟨Nat.zero_le _, Nat.zero_le _⟩ rfl (Nat.le_of_ble_eq_true rfl) dL_acts_142) ?_
    rintro z F' ⟨rfl, hQ⟩
    refine q_zret C dL_acts_145 (by decide) ?_
    exact ⟨rfl, hQ⟩
  · refine q_tableIn C 137 dL_acts_2 ⟨by omega, by omega⟩ (by omega) (by omega) (by rw [hsw]; rfl) (by decide) ?_
    refine q_aload_n C 0 dL_acts_137 rfl ?_
    refine q_aload_n C 1 dL_acts_138 rfl ?_
    refine q_aload_n C 2 dL_acts_139 rfl ?_
    refine q_iload C 6 dL_acts_140 rfl ?_
    refine q_cI (q_runS (As := [.ref (adr w 0), .ref (adr w a), .ref (adr w b), .int (iI x)]) (rest := []) C (k_L_lends (F := F) (a := a) (b := b) (nn := nn) (t := t) (x := x) l hLa hLb hLn hLt hTA hA hd) wd_643 wd_642 wd_12 wd_641 nd_L_lends rfl (by decide) ⟨Nat.zero_le _, Nat.zero_le _⟩ rfl (Nat.le_of_ble_eq_true rfl) dL_acts_142) ?_
    rintro z F' ⟨rfl, hQ⟩
    refine q_zret C dL_acts_145 (by decide) ?_
    exact ⟨rfl, hQ⟩
  · refine q_tableIn C 137 dL_acts_2 ⟨by omega, by omega⟩ (by omega) (by omega) (by rw [hsw]; rfl) (by decide) ?_
    refine q_aload_n C 0 dL_acts_137 rfl ?_
    refine q_aload_n C 1 dL_acts_138 rfl ?_
    refine q_aload_n C 2 dL_acts_139 rfl ?_
    refine q_iload C 6 dL_acts_140 rfl ?_
    refine q_cI (q_runS (As := [.ref (adr w 0), .ref (adr w a), .ref (adr w b), .int (iI x)]) (rest := []) C (k_L_lends (F := F) (a := a) (b := b) (nn := nn) (t := t) (x := x) l hLa hLb hLn hLt hTA hA hd) wd_643 wd_642 wd_12 wd_641 nd_L_lends rfl (by decide) ⟨Nat.zero_le _, Nat.zero_le _⟩ rfl (Nat.le_of_ble_eq_true rfl) dL_acts_142) ?_
    rintro z F' ⟨rfl, hQ⟩
    refine q_zret C dL_acts_145 (by decide) ?_
    exact ⟨rfl, hQ⟩
  · refine q_tableIn C 146 dL_acts_2 ⟨by omega, by omega⟩ (by omega) (by omega) (by rw [hsw]; rfl) (by decide) ?_
    refine q_aload_n C 0 dL_acts_146 rfl ?_
    refine q_aload_n C 1 dL_acts_147 rfl ?_
    refine q_aload_n C 2 dL_acts_148 rfl ?_
    refine q_iload C 6 dL_acts_149 rfl ?_
    refine q_cI (q_runS (As := [.ref (adr w 0), .ref (adr w a), .ref (adr w b), .int (iI x)]) (rest := []) C (k_L_bringsBack (F := F) (a := a) (b := b) (nn := nn) (t := t) (x := x) l hLa hLb hLn hLt hTA hA hd) wd_667 wd_666 wd_12 wd_665 nd_L_bringsBack rfl (by decide) ⟨Nat.zero_le _, Nat.zero_le _⟩ rfl (Nat.le_of_ble_eq_true rfl) dL_acts_151) ?_
    rintro z F' ⟨rfl, hQ⟩
    refine q_zret C dL_acts_154 (by decide) ?_
    exact ⟨rfl, hQ⟩
  · refine q_tableIn C 155 dL_acts_2 ⟨by omega, by omega⟩ (by omega) (by omega) (by rw [hsw]; rfl) (by decide) ?_
    refine q_aload_n C 0 dL_acts_155 rfl ?_
    refine q_aload_n C 1 dL_acts_156 rfl ?_
    refine q_aload_n C 2 dL_acts_157 rfl ?_
    refine q_aload_n C 3 dL_acts_158 rfl ?_
    refine q_aload C 4 dL_acts_159 rfl ?_
    refine q_iconst C 1 dL_acts_161 ?_
    refine q_iload C 6 dL_acts_162 rfl ?_
    refine q_iload C 7 dL_acts_164 rfl ?_
    refine q_iconst C 3 dL_acts_166 ?_
    refine q_cI (q_runS (As := [.int (iI y), .int (iI 3)]) (rest := [.int (iI x), .int (iI 1), .ref (adr w t), .ref (adr w nn), .ref (adr w b), .ref (adr w a), .ref (adr w 0)]) C (k_L_low (F := F) l (x := y) (n := 3) ⟨by decide, by decide⟩) wd_163 wd_162 wd_12 wd_161 nd_L_low rfl (by decide) ⟨Nat.zero_le _, Nat.zero_le _⟩ rfl (Nat.le_of_ble_eq_true rfl) dL_acts_167) ?_
    rintro z F' ⟨rfl, rfl⟩
    have qlo167 := lo_range y 3 (by omega)
    refine q_if_ne C 178 dL_acts_170 ⟨by omega, by omega⟩  (by decide) (fun h170 => ?_) (fun h170 => ?_)
    · refine q_iconst C 3 dL_acts_178 ?_
      refine q_cI (q_runS (As := [.int (iI x), .int (iI 3)]) (rest := [.int (iI 1), .ref (adr w t), .ref (adr w nn), .ref (adr w b), .ref (adr w a), .ref (adr w 0)]) C (k_L_low (F := F) l (x := x) (n := 3) ⟨by decide, by decide⟩) wd_163 wd_162 wd_12 wd_161 nd_L_low rfl (by decide) ⟨Nat.zero_le _, Nat.zero_le _⟩ rfl (Nat.le_of_ble_eq_true rfl) dL_acts_179) ?_
      rintro z F' ⟨rfl, rfl⟩
      have qlo179 := lo_range x 3 (by omega)
      refine q_iadd C dL_acts_182 ?_
      refine q_cI (q_runS (As := [.ref (adr w 0), .ref (adr w a), .ref (adr w b), .ref (adr w nn), .ref (adr w t), .int (iI (1 + (lo x 3)))]) (rest := []) C (k_L_sleeps (F := F) (a := a) (b := b) (nn := nn) (t := t) (m := 1 + (lo x 3)) l hLa hLb hLn hLt hTA hA ⟨by omega, by omega⟩ hnb hd) wd_680 wd_679 wd_12 wd_678 nd_L_sleeps rfl (by decide) ⟨Nat.zero_le _, Nat.zero_le _⟩ rfl (Nat.le_of_ble_eq_true rfl) dL_acts_183) ?_
      rintro z F' ⟨rfl, hQ⟩
      refine q_zret C dL_acts_186 (by decide) ?_
      exact ⟨rfl, hQ⟩
    · refine q_bipush C 20 dL_acts_173 (by decide) ?_
      refine q_goto C 179 dL_acts_175 (by decide) ?_
      refine q_cI (q_runS (As := [.int (iI x), .int (iI 20)]) (rest := [.int (iI 1), .ref (adr w t), .ref (adr w nn), .ref (adr w b), .ref (adr w a), .ref (adr w 0)]) C (k_L_low (F := F) l (x := x) (n := 20) ⟨by decide, by decide⟩) wd_163 wd_162 wd_12 wd_161 nd_L_low rfl (by decide) ⟨Nat.zero_le _, Nat.zero_le _⟩ rfl (Nat.le_of_ble_eq_true rfl) dL_acts_179) ?_
      rintro z F' ⟨rfl, rfl⟩
      have qlo179 := lo_range x 20 (by omega)
      refine q_iadd C dL_acts_182 ?_
      refine q_cI (q_runS (As := [.ref (adr w 0), .ref (adr w a), .ref (adr w b), .ref (adr w nn), .ref (adr w t), .int (iI (1 + (lo x 20)))]) (rest := []) C (k_L_sleeps (F := F) (a := a) (b := b) (nn := nn) (t := t) (m := 1 + (lo x 20)) l hLa hLb hLn hLt hTA hA ⟨by omega, by omega⟩ hnb hd) wd_680 wd_679 wd_12 wd_678 nd_L_sleeps rfl (by decide) ⟨Nat.zero_le _, Nat.zero_le _⟩ rfl (Nat.le_of_ble_eq_true rfl) dL_acts_183) ?_
      rintro z F' ⟨rfl, hQ⟩
      refine q_zret C dL_acts_186 (by decide) ?_
      exact ⟨rfl, hQ⟩
  · refine q_tableIn C 155 dL_acts_2 ⟨by omega, by omega⟩ (by omega) (by omega) (by rw [hsw]; rfl) (by decide) ?_
    refine q_aload_n C 0 dL_acts_155 rfl ?_
    refine q_aload_n C 1 dL_acts_156 rfl ?_
    refine q_aload_n C 2 dL_acts_157 rfl ?_
    refine q_aload_n C 3 dL_acts_158 rfl ?_
    refine q_aload C 4 dL_acts_159 rfl ?_
    refine q_iconst C 1 dL_acts_161 ?_
    refine q_iload C 6 dL_acts_162 rfl ?_
    refine q_iload C 7 dL_acts_164 rfl ?_
    refine q_iconst C 3 dL_acts_166 ?_
    refine q_cI (q_runS (As := [.int (iI y), .int (iI 3)]) (rest := [.int (iI x), .int (iI 1), .ref (adr w t), .ref (adr w nn), .ref (adr w b), .ref (adr w a), .ref (adr w 0)]) C (k_L_low (F := F) l (x := y) (n := 3) ⟨by decide, by decide⟩) wd_163 wd_162 wd_12 wd_161 nd_L_low rfl (by decide) ⟨Nat.zero_le _, Nat.zero_le _⟩ rfl (Nat.le_of_ble_eq_true rfl) dL_acts_167) ?_
    rintro z F' ⟨rfl, rfl⟩
    have qlo167 := lo_range y 3 (by omega)
    refine q_if_ne C 178 dL_acts_170 ⟨by omega, by omega⟩  (by decide) (fun h170 => ?_) (fun h170 => ?_)
    · refine q_iconst C 3 dL_acts_178 ?_
      refine q_cI (q_runS (As := [.int (iI x), .int (iI 3)]) (rest := [.int (iI 1), .ref (adr w t), .ref (adr w nn), .ref (adr w b), .ref (adr w a), .ref (adr w 0)]) C (k_L_low (F := F) l (x := x) (n := 3) ⟨by decide, by decide⟩) wd_163 wd_162 wd_12 wd_161 nd_L_low rfl (by decide) ⟨Nat.zero_le _, Nat.zero_le _⟩ rfl (Nat.le_of_ble_eq_true rfl) dL_acts_179) ?_
      rintro z F' ⟨rfl, rfl⟩
      have qlo179 := lo_range x 3 (by omega)
      refine q_iadd C dL_acts_182 ?_
      refine q_cI (q_runS (As := [.ref (adr w 0), .ref (adr w a), .ref (adr w b), .ref (adr w nn), .ref (adr w t), .int (iI (1 + (lo x 3)))]) (rest := []) C (k_L_sleeps (F := F) (a := a) (b := b) (nn := nn) (t := t) (m := 1 + (lo x 3)) l hLa hLb hLn hLt hTA hA ⟨by omega, by omega⟩ hnb hd) wd_680 wd_679 wd_12 wd_678 nd_L_sleeps rfl (by decide) ⟨Nat.zero_le _, Nat.zero_le _⟩ rfl (Nat.le_of_ble_eq_true rfl) dL_acts_183) ?_
      rintro z F' ⟨rfl, hQ⟩
      refine q_zret C dL_acts_186 (by decide) ?_
      exact ⟨rfl, hQ⟩
    · refine q_bipush C 20 dL_acts_173 (by decide) ?_
      refine q_goto C 179 dL_acts_175 (by decide) ?_
      refine q_cI (q_runS (As := [.int (iI x), .int (iI 20)]) (rest := [.int (iI 1), .ref (adr w t), .ref (adr w nn), .ref (adr w b), .ref (adr w a), .ref (adr w 0)]) C (k_L_low (F := F) l (x := x) (n := 20) ⟨by decide, by decide⟩) wd_163 wd_162 wd_12 wd_161 nd_L_low rfl (by decide) ⟨Nat.zero_le _, Nat.zero_le _⟩ rfl (Nat.le_of_ble_eq_true rfl) dL_acts_179) ?_
      rintro z F' ⟨rfl, rfl⟩
      have qlo179 := lo_range x 20 (by omega)
      refine q_iadd C dL_acts_182 ?_
      refine q_cI (q_runS (As := [.ref (adr w 0), .ref (adr w a), .ref (adr w b), .ref (adr w nn), .ref (adr w t), .int (iI (1 + (lo x 20)))]) (rest := []) C (k_L_sleeps (F := F) (a := a) (b := b) (nn := nn) (t := t) (m := 1 + (lo x 20)) l hLa hLb hLn hLt hTA hA ⟨by omega, by omega⟩ hnb hd) wd_680 wd_679 wd_12 wd_678 nd_L_sleeps rfl (by decide) ⟨Nat.zero_le _, Nat.zero_le _⟩ rfl (Nat.le_of_ble_eq_true rfl) dL_acts_183) ?_
      rintro z F' ⟨rfl, hQ⟩
      refine q_zret C dL_acts_186 (by decide) ?_
      exact ⟨rfl, hQ⟩
  · refine q_tableOut C 187 dL_acts_2 ⟨by omega, by omega⟩ hsw (by decide) ?_
    refine q_aload_n C 0 dL_acts_187 rfl ?_
    refine q_aload_n C 3 dL_acts_188 rfl ?_
    refine q_iload C 6 dL_acts_189 rfl ?_
    refine q_cI (q_runS (As := [.ref (adr w 0), .ref (adr w nn), .int (iI x)]) (rest := []) C (k_L_sets (F := F) (a := a) (b := b) (nn := nn) (t := t) (x := x) l hLa hLb hLn hLt hTA hA hd) wd_688 wd_687 wd_12 wd_686 nd_L_sets rfl (by decide) ⟨Nat.zero_le _, Nat.zero_le _⟩ rfl (Nat.le_of_ble_eq_true rfl) dL_acts_191) ?_
    rintro z F' ⟨rfl, hQ⟩
    refine q_zret C dL_acts_194 (by decide) ?_
    exact ⟨rfl, hQ⟩
