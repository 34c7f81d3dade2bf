/-! slots, undoing, numbers, shares -/
theorem sh_n9 {x : Int} (h0 : 0 ≤ x) (h1 : x ≤ 40) : vf_n64 (Jvm.FP.ddiv (Jvm.FP.i2d (iI x)) 4630826316843712512) := by
  have := sh_n x.toNat (List.mem_range.mpr (by omega))
  rw [Int.toNat_of_nonneg h0] at this; exact this

set_option maxRecDepth 100000 in
set_option maxHeartbeats 4000000 in
theorem k_X3_numberOf (l : Launch) {w : WP} {F : FF} {A : AS} {k : Int} (hA : CI F A) (hk : 0 ≤ k ∧ k < 9) : Con l yX3_numberOf cX3_numberOf 2 (some .int) 5 w [.ref (adr w 0), .int (iI k)] F (QI w (fun z F' => z = cntv A k ∧ F = F')) := by
  refine Con.mk (lv := [(0, .ref (adr w 0)), (1, .int (iI k))]) (by decide) (Nat.le_of_ble_eq_true rfl) rfl ?_
  intro pg ev s0 mi be me co C hz
  have hB := hA.b
  have hI := hB.iv
  have hJ := CJ.refl hA
  have hv := hA.v.2.2.2.1
  refine q_iload_n C 1 dX3_numberOf_0 rfl ?_
  rcases (show k = 0 ∨ k = 1 ∨ k = 2 ∨ k = 3 ∨ k = 4 ∨ k = 5 ∨ k = 6 ∨ k = 7 ∨ (k < 0 ∨ 7 < k) by omega) with hsw | hsw | hsw | hsw | hsw | hsw | hsw | hsw | hsw
  · refine q_tableIn C 48 dX3_numberOf_1 ⟨by omega, by omega⟩ (by omega) (by omega) (by rw [hsw]; rfl) (by decide) ?_
    refine q_aload_n C 0 dX3_numberOf_48 rfl ?_
    refine q_get (T := TX3) (i := 0) C kd0 (by decide) rfl uws3 (by decide) wd_133 rfl dX3_numberOf_49 ?_
    refine q_cI (q_runV (As := []) (rest := []) C (k_X0_bagToldByWords l hb1 hB ) hb1.k0 (by decide) rfl wd_409 wd_407 wd_408 wd_14 wd_406 nd_X0_bagToldByWords rfl (by decide) ⟨Nat.zero_le _, Nat.zero_le _⟩ rfl (Nat.le_of_ble_eq_true rfl) dX3_numberOf_52) ?_
    rintro z F' ⟨rfl, rfl⟩
    have q52 := bg_range hI
    refine q_iret C dX3_numberOf_55 ?_
    exact ⟨by subst hsw; rfl, rfl⟩
  · refine q_tableIn C 56 dX3_numberOf_1 ⟨by omega, by omega⟩ (by omega) (by omega) (by rw [hsw]; rfl) (by decide) ?_
    refine q_aload_n C 0 dX3_numberOf_56 rfl ?_
    refine q_get (T := TX3) (i := 0) C kd0 (by decide) rfl uws3 (by decide) wd_133 rfl dX3_numberOf_57 ?_
    refine q_cI (q_runV (As := []) (rest := []) C (k_X0_bagToldByLines l hb1 hB ) hb1.k0 (by decide) rfl wd_413 wd_411 wd_412 wd_14 wd_410 nd_X0_bagToldByLines rfl (by decide) ⟨Nat.zero_le _, Nat.zero_le _⟩ rfl (Nat.le_of_ble_eq_true rfl) dX3_numberOf_60) ?_
    rintro z F' ⟨rfl, rfl⟩
    refine q_iret C dX3_numberOf_63 ?_
    exact ⟨by subst hsw; rfl, rfl⟩
  · refine q_tableIn C 64 dX3_numberOf_1 ⟨by omega, by omega⟩ (by omega) (by omega) (by rw [hsw]; rfl) (by decide) ?_
    refine q_aload_n C 0 dX3_numberOf_64 rfl ?_
    refine q_get (T := TX3) (i := 0) C kd0 (by decide) rfl uws3 (by decide) wd_133 rfl dX3_numberOf_65 ?_
    refine q_getN (T := TX0) (i := 9) C hb1.k0 (by decide) rfl uws0 (by decide) nw_53 rfl dX3_numberOf_68 ?_
    rw [show F 1 9 = A.r 179 from hB.nt]
    refine q_iret C dX3_numberOf_71 ?_
    exact ⟨by subst hsw; rfl, rfl⟩
  · refine q_tableIn C 72 dX3_numberOf_1 ⟨by omega, by omega⟩ (by omega) (by omega) (by rw [hsw]; rfl) (by decide) ?_
    refine q_aload_n C 0 dX3_numberOf_72 rfl ?_
    refine q_get (T := TX3) (i := 0) C kd0 (by decide) rfl uws3 (by decide) wd_133 rfl dX3_numberOf_73 ?_
    refine q_getN (T := TX0) (i := 10) C hb1.k0 (by decide) rfl uws0 (by decide) nw_55 rfl dX3_numberOf_76 ?_
    rw [show F 1 10 = rbs A.r from hB.st]
    refine q_iret C dX3_numberOf_79 ?_
    exact ⟨by subst hsw; rfl, rfl⟩
  · refine q_tableIn C 80 dX3_numberOf_1 ⟨by omega, by omega⟩ (by omega) (by omega) (by rw [hsw]; rfl) (by decide) ?_
    refine q_aload_n C 0 dX3_numberOf_80 rfl ?_
    refine q_get (T := TX3) (i := 0) C kd0 (by decide) rfl uws3 (by decide) wd_133 rfl dX3_numberOf_81 ?_
    refine q_getN (T := TX0) (i := 11) C hb1.k0 (by decide) rfl uws0 (by decide) nw_57 rfl dX3_numberOf_84 ?_
    rw [show F 1 11 = A.r 180 from hB.sh]
    refine q_iret C dX3_numberOf_87 ?_
    exact ⟨by subst hsw; rfl, rfl⟩
  · refine q_tableIn C 88 dX3_numberOf_1 ⟨by omega, by omega⟩ (by omega) (by omega) (by rw [hsw]; rfl) (by decide) ?_
    refine q_aload_n C 0 dX3_numberOf_88 rfl ?_
    refine q_get (T := TX3) (i := 0) C kd0 (by decide) rfl uws3 (by decide) wd_133 rfl dX3_numberOf_89 ?_
    refine q_getN (T := TX0) (i := 12) C hb1.k0 (by decide) rfl uws0 (by decide) nw_58 rfl dX3_numberOf_92 ?_
    rw [show F 1 12 = A.r 181 from hB.rf]
    refine q_iret C dX3_numberOf_95 ?_
    exact ⟨by subst hsw; rfl, rfl⟩
  · refine q_tableIn C 96 dX3_numberOf_1 ⟨by omega, by omega⟩ (by omega) (by omega) (by rw [hsw]; rfl) (by decide) ?_
    refine q_aload_n C 0 dX3_numberOf_96 rfl ?_
    refine q_get (T := TX3) (i := 0) C kd0 (by decide) rfl uws3 (by decide) wd_133 rfl dX3_numberOf_97 ?_
    refine q_cI (q_runV (As := []) (rest := []) C (k_X0_loans l hb1 hB ) hb1.k0 (by decide) rfl wd_417 wd_415 wd_416 wd_14 wd_414 nd_X0_loans rfl (by decide) ⟨Nat.zero_le _, Nat.zero_le _⟩ rfl (Nat.le_of_ble_eq_true rfl) dX3_numberOf_100) ?_
    rintro z F' ⟨rfl, rfl⟩
    refine q_iret C dX3_numberOf_103 ?_
    exact ⟨by subst hsw; rfl, rfl⟩
  · refine q_tableIn C 104 dX3_numberOf_1 ⟨by omega, by omega⟩ (by omega) (by omega) (by rw [hsw]; rfl) (by decide) ?_
    refine q_aload_n C 0 dX3_numberOf_104 rfl ?_
    refine q_get (T := TX3) (i := 0) C kd0 (by decide) rfl uws3 (by decide) wd_133 rfl dX3_numberOf_105 ?_
    refine q_cI (q_runV (As := []) (rest := []) C (k_X0_worthOfAll l hb1 hB ) hb1.k0 (by decide) rfl wd_421 wd_419 wd_420 wd_14 wd_418 nd_X0_worthOfAll rfl (by decide) ⟨Nat.zero_le _, Nat.zero_le _⟩ rfl (Nat.le_of_ble_eq_true rfl) dX3_numberOf_108) ?_
    rintro z F' ⟨rfl, rfl⟩
    refine q_iret C dX3_numberOf_111 ?_
    exact ⟨by subst hsw; rfl, rfl⟩
  · refine q_tableOut C 112 dX3_numberOf_1 ⟨by omega, by omega⟩ hsw (by decide) ?_
    refine q_aload_n C 0 dX3_numberOf_112 rfl ?_
    refine q_get (T := TX3) (i := 2) C kd0 (by decide) rfl uws3 (by decide) wd_135 rfl dX3_numberOf_113 ?_
    refine q_getN (T := TX1) (i := 2) C kd21 (by decide) rfl uws1 (by decide) nw_100 rfl dX3_numberOf_116 ?_
    rw [show F 21 2 = A.n from hA.h.1]
    refine q_iret C dX3_numberOf_119 ?_
    exact ⟨by unfold cntv; rw [if_neg (by omega), if_neg (by omega), if_neg (by omega), if_neg (by omega), if_neg (by omega), if_neg (by omega), if_neg (by omega)], rfl⟩

set_option maxRecDepth 100000 in
set_option maxHeartbeats 4000000 in
theorem k_X3_count (l : Launch) {w : WP} {F : FF} {A : AS} {k : Int} (hA : CI F A) (hk : inR k) (hT : countT A k = 0) : Con l yX3_count cX3_count 2 (some .int) 6 w [.ref (adr w 0), .int (iI k)] F (QI w (fun z F' => z = countZ A k ∧ F = F')) := by
  refine Con.mk (lv := [(0, .ref (adr w 0)), (1, .int (iI k))]) (by decide) (Nat.le_of_ble_eq_true rfl) rfl ?_
  intro pg ev s0 mi be me co C hz
  have hB := hA.b
  have hI := hB.iv
  have hJ := CJ.refl hA
  have hv := hA.v.2.2.2.1
  obtain ⟨hk1, hk2⟩ := id hk
  refine q_iload_n C 1 dX3_count_0 rfl ?_
  refine q_if_lt C 10 dX3_count_1 ⟨by omega, by omega⟩  (by decide) (fun h1 => ?_) (fun h1 => ?_)
  · exact absurd (hT.symm.trans (show countT A k = 1 from (by unfold countT; rw [if_pos (by omega)]))) (by decide)
  · refine q_iload_n C 1 dX3_count_4 rfl ?_
    refine q_bipush C 9 dX3_count_5 (by decide) ?_
    refine q_icmp_lt C 20 dX3_count_7 ⟨by omega, by omega⟩ ⟨by decide, by decide⟩ (by decide) (fun h7 => ?_) (fun h7 => ?_)
    · refine q_aload_n C 0 dX3_count_20 rfl ?_
      refine q_iload_n C 1 dX3_count_21 rfl ?_
      refine q_cI (q_runV (As := [.int (iI k)]) (rest := []) C (k_X3_numberOf l hA (k := k) ⟨by omega, by omega⟩) kd0 (by decide) rfl wd_405 wd_404 wd_2 wd_13 wd_402 nd_X3_numberOf rfl (by decide) ⟨Nat.zero_le _, Nat.zero_le _⟩ rfl (Nat.le_of_ble_eq_true rfl) dX3_count_22) ?_
      rintro z F' ⟨rfl, rfl⟩
      refine q_iret C dX3_count_25 ?_
      exact ⟨rfl, rfl⟩
    · exact absurd (hT.symm.trans (show countT A k = 1 from (by unfold countT; rw [if_pos (by omega)]))) (by decide)

set_option maxRecDepth 100000 in
set_option maxHeartbeats 4000000 in
theorem k_X3_ifSlept (l : Launch) {w : WP} {F : FF} {A : AS} {m d : Int} (hA : CI F A) (hm : inR m) (hd : inR d) (hT : ifSleptT A m d = 0) : Con l yX3_ifSlept cX3_ifSlept 3 (some .int) 6 w [.ref (adr w 0), .int (iI m), .int (iI d)] F (QI w (fun z F' => ifSleptT A m d = 0 ∧ z = ifSleptZ A m d ∧ CJ F F' (ifSleptN A m d))) := by
  refine Con.mk (lv := [(0, .ref (adr w 0)), (1, .int (iI m)), (2, .int (iI d))]) (by decide) (Nat.le_of_ble_eq_true rfl) rfl ?_
  intro pg ev s0 mi be me co C hz
  have hB := hA.b
  have hI := hB.iv
  have hJ := CJ.refl hA
  have hv := hA.v.2.2.2.1
  obtain ⟨hm1, hm2⟩ := id hm
  obtain ⟨hd1, hd2⟩ := id hd
  refine q_iload_n C 2 dX3_ifSlept_0 rfl ?_
  refine q_cI (q_runS (As := [.int (iI d)]) (rest := []) C (k_X3_isDoor l (x := d) ⟨by omega, by omega⟩) wd_304 wd_303 wd_13 wd_302 nd_X3_isDoor rfl (by decide) ⟨Nat.zero_le _, Nat.zero_le _⟩ rfl (Nat.le_of_ble_eq_true rfl) dX3_ifSlept_1) ?_
  rintro z F' ⟨⟨rfl, hq1⟩ | ⟨rfl, hq1⟩, rfl⟩
  · refine q_if_ne C 17 dX3_ifSlept_4 ⟨by decide, by decide⟩  (by decide) (fun _ => ?_) (fun h => absurd h (by decide))
    refine q_iload_n C 1 dX3_ifSlept_17 rfl ?_
    refine q_cI (q_runS (As := [.int (iI m)]) (rest := []) C (k_X3_isNights l (x := m) ⟨by omega, by omega⟩) wd_527 wd_526 wd_13 wd_525 nd_X3_isNights rfl (by decide) ⟨Nat.zero_le _, Nat.zero_le _⟩ rfl (Nat.le_of_ble_eq_true rfl) dX3_ifSlept_18) ?_
    rintro z F' ⟨⟨rfl, hq18⟩ | ⟨rfl, hq18⟩, rfl⟩
    · refine q_if_ne C 34 dX3_ifSlept_21 ⟨by decide, by decide⟩  (by decide) (fun _ => ?_) (fun h => absurd h (by decide))
      refine q_aload_n C 0 dX3_ifSlept_34 rfl ?_
      refine q_get (T := TX3) (i := 1) C kd0 (by decide) rfl uws3 (by decide) wd_134 rfl dX3_ifSlept_35 ?_
      refine q_aload_n C 0 dX3_ifSlept_38 rfl ?_
      refine q_get (T := TX3) (i := 0) C kd0 (by decide) rfl uws3 (by decide) wd_133 rfl dX3_ifSlept_39 ?_
      refine q_cV (q_runV (As := [.ref (adr w 1)]) (rest := []) C (k_X0_copyFrom (F := F) (b := 11) (o := 1) (r := A.r) l hb11 hb1 (by decide) hB) hb11.k0 (by decide) rfl wd_532 wd_530 wd_531 wd_14 wd_529 nd_X0_copyFrom rfl (by decide) ⟨Nat.zero_le _, Nat.zero_le _⟩ rfl (Nat.le_of_ble_eq_true rfl) dX3_ifSlept_42) ?_
      rintro G1 ⟨hE1, hf1⟩
      have hJ1 := hJ.dr hf1
      refine q_aload_n C 0 dX3_ifSlept_45 rfl ?_
      refine q_get (T := TX3) (i := 1) C kd0 (by decide) rfl uws3 (by decide) wd_134 rfl dX3_ifSlept_46 ?_
      refine q_iload_n C 1 dX3_ifSlept_49 rfl ?_
      refine q_cI (q_runV (As := [.int (iI m)]) (rest := []) C (k_X0_passNights l hb11 hE1 (n := m) ⟨by omega, by omega⟩) hb11.k0 (by decide) rfl wd_539 wd_537 wd_538 wd_14 wd_536 nd_X0_passNights rfl (by decide) ⟨Nat.zero_le _, Nat.zero_le _⟩ rfl (Nat.le_of_ble_eq_true rfl) dX3_ifSlept_50) ?_
      rintro z G1 ⟨rfl, hEG1, hfG1⟩
      have hJG1 := (hJ1).dr hfG1
      have hIs := hEG1.iv
      have hBG1 : BI G1 1 A.r := hJG1.1.b
      refine q_pop C dX3_ifSlept_53 rfl ?_
      refine q_aload_n C 0 dX3_ifSlept_54 rfl ?_
      refine q_get (T := TX3) (i := 1) C kd0 (by decide) rfl uws3 (by decide) wd_134 rfl dX3_ifSlept_55 ?_
      refine q_iload_n C 2 dX3_ifSlept_58 rfl ?_
      refine q_cI (q_runV (As := [.int (iI d)]) (rest := []) C (k_X0_worthOfDoor l hb11 hEG1 ⟨by omega, by omega⟩) hb11.k0 (by decide) rfl wd_388 wd_386 wd_387 wd_14 wd_564 nd_X0_worthOfDoor rfl (by decide) ⟨Nat.zero_le _, Nat.zero_le _⟩ rfl (Nat.le_of_ble_eq_true rfl) dX3_ifSlept_59) ?_
      rintro z F' ⟨rfl, rfl⟩
      refine q_iret C dX3_ifSlept_62 ?_
      exact ⟨hT, rfl, hJG1⟩
    · refine q_if_ne C 34 dX3_ifSlept_21 ⟨by decide, by decide⟩  (by decide) (fun h => absurd h (by decide)) (fun _ => ?_)
      exact absurd (hT.symm.trans (show ifSleptT A m d = 2 from (by unfold ifSleptT; rw [if_neg (by omega), if_pos (by omega)]))) (by decide)
  · refine q_if_ne C 17 dX3_ifSlept_4 ⟨by decide, by decide⟩  (by decide) (fun h => absurd h (by decide)) (fun _ => ?_)
    exact absurd (hT.symm.trans (show ifSleptT A m d = 1 from (by unfold ifSleptT; rw [if_pos (by omega)]))) (by decide)

set_option maxRecDepth 100000 in
set_option maxHeartbeats 4000000 in
theorem k_X3_prey (l : Launch) {w : WP} {F : FF} {A : AS} (hA : CI F A)  : Con l yX3_prey cX3_prey 1 (some .int) 6 w [.ref (adr w 0)] F (QI w (fun z F' => z = py A.r ∧ F = F')) := by
  refine Con.mk (lv := [(0, .ref (adr w 0))]) (by decide) (Nat.le_of_ble_eq_true rfl) rfl ?_
  intro pg ev s0 mi be me co C hz
  have hB := hA.b
  have hI := hB.iv
  have hJ := CJ.refl hA
  have hv := hA.v.2.2.2.1
  refine q_aload_n C 0 dX3_prey_0 rfl ?_
  refine q_get (T := TX3) (i := 0) C kd0 (by decide) rfl uws3 (by decide) wd_133 rfl dX3_prey_1 ?_
  refine q_cI (q_runV (As := []) (rest := []) C (k_X0_nextPrey l hb1 hB ) hb1.k0 (by decide) rfl wd_482 wd_480 wd_481 wd_14 wd_479 nd_X0_nextPrey rfl (by decide) ⟨Nat.zero_le _, Nat.zero_le _⟩ rfl (Nat.le_of_ble_eq_true rfl) dX3_prey_4) ?_
  rintro z F' ⟨rfl, rfl⟩
  refine q_iret C dX3_prey_7 ?_
  exact ⟨rfl, rfl⟩

set_option maxRecDepth 100000 in
set_option maxHeartbeats 4000000 in
theorem k_X3_share (l : Launch) {w : WP} {F : FF} {A : AS} (hA : CI F A)  : Con l yX3_share cX3_share 1 (some .double) 1 w [.ref (adr w 0)] F (QD w (fun z F' => z = shr (40 - bg A.r) ∧ F = F')) := by
  refine Con.mk (lv := [(0, .ref (adr w 0))]) (by decide) (Nat.le_of_ble_eq_true rfl) rfl ?_
  intro pg ev s0 mi be me co C hz
  have hB := hA.b
  have hI := hB.iv
  have hJ := CJ.refl hA
  have hv := hA.v.2.2.2.1
  refine q_bipush C 40 dX3_share_0 (by decide) ?_
  refine q_aload_n C 0 dX3_share_2 rfl ?_
  refine q_get (T := TX3) (i := 0) C kd0 (by decide) rfl uws3 (by decide) wd_133 rfl dX3_share_3 ?_
  refine q_cI (q_runV (As := []) (rest := [.int (iI 40)]) C (k_X0_bagToldByWords l hb1 hB ) hb1.k0 (by decide) rfl wd_409 wd_407 wd_408 wd_14 wd_406 nd_X0_bagToldByWords rfl (by decide) ⟨Nat.zero_le _, Nat.zero_le _⟩ rfl (Nat.le_of_ble_eq_true rfl) dX3_share_6) ?_
  rintro z F' ⟨rfl, rfl⟩
  have q6 := bg_range hI
  refine q_isub C dX3_share_9 ?_
  refine q_i2d C dX3_share_10 ?_
  refine q_ldc2d C wd_442 dX3_share_11 ?_
  refine q_ddiv C (sh_n9 (x := 40 - bg A.r) (by omega) (by omega)) dX3_share_14 ?_
  refine q_dret C dX3_share_15 ?_
  exact ⟨rfl, rfl⟩

set_option maxRecDepth 100000 in
set_option maxHeartbeats 4000000 in
theorem k_X3_shownShare (l : Launch) {w : WP} {F : FF} {A : AS} (hA : CI F A)  : Con l yX3_shownShare cX3_shownShare 1 (some .double) 2 w [.ref (adr w 0)] F (QD w (fun z F' => z = shr (40 - bg A.r) ∧ F = F')) := by
  refine Con.mk (lv := [(0, .ref (adr w 0))]) (by decide) (Nat.le_of_ble_eq_true rfl) rfl ?_
  intro pg ev s0 mi be me co C hz
  have hB := hA.b
  have hI := hB.iv
  have hJ := CJ.refl hA
  have hv := hA.v.2.2.2.1
  refine q_aload_n C 0 dX3_shownShare_0 rfl ?_
  refine q_cD (q_runV (As := []) (rest := []) C (k_X3_share l hA) kd0 (by decide) rfl wd_441 wd_440 wd_3 wd_13 wd_438 nd_X3_share rfl (by decide) ⟨Nat.zero_le _, Nat.zero_le _⟩ rfl (Nat.le_of_ble_eq_true rfl) dX3_shownShare_1) ?_
  rintro z F' ⟨rfl, rfl⟩
  refine q_dret C dX3_shownShare_4 ?_
  exact ⟨rfl, rfl⟩
