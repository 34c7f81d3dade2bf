
set_option maxRecDepth 100000 in
set_option maxHeartbeats 4000000 in
theorem k_X0_rhymesOf (l : Launch) {w : WP} {F : FF} {b : Nat} {r : Rw} {x y : Int} (hb : IsB b) (hB : BI F b r) (hl : 0 ≤ x ∧ x < 16) (hy : -1 ≤ y ∧ y < 5) : Con l yX0_rhymesOf cX0_rhymesOf 7 (some .int) 2 w [.ref (adr w b), .int (iI x), .int (iI y)] F (QI w (fun z F' => z = rhE r x y ∧ F = F')) := by
  refine Con.mk (lv := [(0, .ref (adr w b)), (1, .int (iI x)), (2, .int (iI y))]) (by decide) (Nat.le_of_ble_eq_true rfl) rfl ?_
  intro pg ev s0 mi be me co C hz
  have hI := hB.iv
  refine q_iload_n C 2 dX0_rhymesOf_0 rfl ?_
  refine q_iconst C (-1) dX0_rhymesOf_1 ?_
  refine q_icmp_ne C 7 dX0_rhymesOf_2 ⟨by omega, by omega⟩ ⟨by decide, by decide⟩ (by decide) (fun h2 => ?_) (fun h2 => ?_)
  · refine q_iload_n C 1 dX0_rhymesOf_7 rfl ?_
    refine q_iconst C 4 dX0_rhymesOf_8 ?_
    refine q_idiv C dX0_rhymesOf_9 ⟨by omega, by omega⟩ ⟨by decide, by decide⟩ ?_
    refine q_istore_n (lv' := [(3, .int (iI (x / 4))), (0, .ref (adr w b)), (1, .int (iI x)), (2, .int (iI y))]) C dX0_rhymesOf_10 (by decide) rfl ?_
    refine q_iconst C 0 dX0_rhymesOf_11 ?_
    refine q_istore (lv' := [(4, .int (iI 0)), (3, .int (iI (x / 4))), (0, .ref (adr w b)), (1, .int (iI x)), (2, .int (iI y))]) C dX0_rhymesOf_12 (by decide) rfl ?_
    refine q_iconst C 0 dX0_rhymesOf_14 ?_
    refine q_istore (lv' := [(5, .int (iI 0)), (4, .int (iI 0)), (3, .int (iI (x / 4))), (0, .ref (adr w b)), (1, .int (iI x)), (2, .int (iI y))]) C dX0_rhymesOf_15 (by decide) rfl ?_
    refine q_lv (lv' := [(0, .ref (adr w b)), (1, .int (iI x)), (2, .int (iI y)), (3, .int (iI (x / 4))), (4, .int (iI 0)), (5, .int (iI 0))]) [3, 4, 5, 2, 1, 0] rfl ?_
    refine wf2 (P := fun (i : Int) (n : Int) => Wq pg l ev _ s0 mi _ be me co _ w _ _ _ 17 [(0, .ref (adr w b)), (1, .int (iI x)), (2, .int (iI y)), (3, .int (iI (x / 4))), (4, .int (iI n)), (5, .int (iI i))] [] F) (I := fun (i : Int) (n : Int) => 0 ≤ i ∧ i ≤ 4 ∧ n = sm (rhT r x y) i) (μ := fun (i : Int) (n : Int) => (4 - i).toNat) ?_ 0 0 (⟨by omega, by omega, rfl⟩)
    intro i n hI' ih17
    (try dsimp only at hI'); (try dsimp only at ih17); (try dsimp only)
    obtain ⟨hi0, hi1, hi2⟩ := hI'
    refine q_iload C 5 dX0_rhymesOf_17 rfl ?_
    refine q_iconst C 4 dX0_rhymesOf_19 ?_
    refine q_icmp_ge C 56 dX0_rhymesOf_20 ⟨by omega, by omega⟩ ⟨by decide, by decide⟩ (by decide) (fun h20 => ?_) (fun h20 => ?_)
    · refine q_iload C 4 dX0_rhymesOf_56 rfl ?_
      refine q_iret C dX0_rhymesOf_58 ?_
      exact ⟨by rw [hi2, show i = 4 by omega]; rfl, rfl⟩
    · refine q_iload_n C 3 dX0_rhymesOf_23 rfl ?_
      refine q_iload C 5 dX0_rhymesOf_24 rfl ?_
      refine q_cI (q_runSN (As := [.int (iI (x / 4)), .int (iI i)]) (rest := []) C (k_X3_lineNumber l) wd_308 wd_307 wd_13 nw_339 nd_X3_lineNumber rfl (by decide) ⟨Nat.zero_le _, Nat.zero_le _⟩ rfl (Nat.le_of_ble_eq_true rfl) dX0_rhymesOf_26) ?_
      rintro z F' ⟨rfl, rfl⟩
      refine q_istore (lv' := [(6, .int (iI (4 * (x / 4) + i))), (0, .ref (adr w b)), (1, .int (iI x)), (2, .int (iI y)), (3, .int (iI (x / 4))), (4, .int (iI n)), (5, .int (iI i))]) C dX0_rhymesOf_29 (by decide) rfl ?_
      refine q_iload C 0 dX0_rhymesOf_31 rfl ?_
      refine q_iload_n C 2 dX0_rhymesOf_33 rfl ?_
      refine q_icmp_eq C 50 dX0_rhymesOf_34 ⟨by omega, by omega⟩ ⟨by omega, by omega⟩ (by decide) (fun h34 => ?_) (fun h34 => ?_)
      · refine q_iinc (lv' := [(5, .int (iI (i + 1))), (6, .int (iI (4 * (x / 4) + i))), (0, .ref (adr w b)), (1, .int (iI x)), (2, .int (iI y)), (3, .int (iI (x / 4))), (4, .int (iI n))]) C 6 dX0_rhymesOf_50 rfl (by decide) rfl ?_
        refine q_goto C 17 dX0_rhymesOf_53 (by decide) ?_
        refine q_lv (lv' := [(0, .ref (adr w b)), (1, .int (iI x)), (2, .int (iI y)), (3, .int (iI (x / 4))), (4, .int (iI n)), (5, .int (iI (i + 1)))]) [2, 3, 4, 5, 6, 0] rfl ?_
        exact ih17 (i + 1) n (⟨by omega, by omega, by rw [sm_s hi0, hi2]; first | rw [rhT_0 (by omega)]; omega | rw [rhT_n (by assumption)]; omega | rw [rhT_1 (by assumption) (by assumption) (by omega)]⟩) (by omega)
      · refine q_aload_n C 1 dX0_rhymesOf_37 rfl ?_
        refine q_iload C 0 dX0_rhymesOf_38 rfl ?_
        refine q_cI (q_runV (As := [.int (iI (4 * (x / 4) + i))]) (rest := []) C (k_X0_endingOn l hb hB ⟨by omega, by omega⟩) hb.k0 (by decide) rfl wd_331 wd_329 wd_330 wd_14 wd_328 nd_X0_endingOn rfl (by decide) ⟨Nat.zero_le _, Nat.zero_le _⟩ rfl (Nat.le_of_ble_eq_true rfl) dX0_rhymesOf_40) ?_
        rintro z F' ⟨rfl, rfl⟩
        have q40 := le_range hI (l := 4 * (x / 4) + i) (by omega) (by omega)
        refine q_iload_n C 3 dX0_rhymesOf_43 rfl ?_
        refine q_icmp_ne C 50 dX0_rhymesOf_44 ⟨by omega, by omega⟩ ⟨by omega, by omega⟩ (by decide) (fun h44 => ?_) (fun h44 => ?_)
        · refine q_iinc (lv' := [(5, .int (iI (i + 1))), (6, .int (iI (4 * (x / 4) + i))), (0, .ref (adr w b)), (1, .int (iI x)), (2, .int (iI y)), (3, .int (iI (x / 4))), (4, .int (iI n))]) C 6 dX0_rhymesOf_50 rfl (by decide) rfl ?_
          refine q_goto C 17 dX0_rhymesOf_53 (by decide) ?_
          refine q_lv (lv' := [(0, .ref (adr w b)), (1, .int (iI x)), (2, .int (iI y)), (3, .int (iI (x / 4))), (4, .int (iI n)), (5, .int (iI (i + 1)))]) [2, 3, 4, 5, 6, 0] rfl ?_
          exact ih17 (i + 1) n (⟨by omega, by omega, by rw [sm_s hi0, hi2]; first | rw [rhT_0 (by omega)]; omega | rw [rhT_n (by assumption)]; omega | rw [rhT_1 (by assumption) (by assumption) (by omega)]⟩) (by omega)
        · refine q_iinc (lv' := [(4, .int (iI (n + 1))), (6, .int (iI (4 * (x / 4) + i))), (0, .ref (adr w b)), (1, .int (iI x)), (2, .int (iI y)), (3, .int (iI (x / 4))), (5, .int (iI i))]) C 5 dX0_rhymesOf_47 rfl (by decide) rfl ?_
          refine q_iinc (lv' := [(5, .int (iI (i + 1))), (4, .int (iI (n + 1))), (6, .int (iI (4 * (x / 4) + i))), (0, .ref (adr w b)), (1, .int (iI x)), (2, .int (iI y)), (3, .int (iI (x / 4)))]) C 6 dX0_rhymesOf_50 rfl (by decide) rfl ?_
          refine q_goto C 17 dX0_rhymesOf_53 (by decide) ?_
          refine q_lv (lv' := [(0, .ref (adr w b)), (1, .int (iI x)), (2, .int (iI y)), (3, .int (iI (x / 4))), (4, .int (iI (n + 1))), (5, .int (iI (i + 1)))]) [3, 4, 5, 6, 1, 0] rfl ?_
          exact ih17 (i + 1) (n + 1) (⟨by omega, by omega, by rw [sm_s hi0, hi2]; first | rw [rhT_0 (by omega)]; omega | rw [rhT_n (by assumption)]; omega | rw [rhT_1 (by assumption) (by assumption) (by omega)]⟩) (by omega)
  · refine q_iconst C 0 dX0_rhymesOf_5 ?_
    refine q_iret C dX0_rhymesOf_6 ?_
    exact ⟨by rw [show y = -1 by omega, rhE_n], rfl⟩

set_option maxRecDepth 100000 in
set_option maxHeartbeats 4000000 in
theorem k_X0_rhymesOfDoor (l : Launch) {w : WP} {F : FF} {b : Nat} {r : Rw} {d : Int} (hb : IsB b) (hB : BI F b r) (hd : 0 ≤ d ∧ d < 4) : Con l yX0_rhymesOfDoor cX0_rhymesOfDoor 6 (some .int) 2 w [.ref (adr w b), .int (iI d)] F (QI w (fun z F' => z = prs r d ∧ F = F')) := by
  refine Con.mk (lv := [(0, .ref (adr w b)), (1, .int (iI d))]) (by decide) (Nat.le_of_ble_eq_true rfl) rfl ?_
  intro pg ev s0 mi be me co C hz
  have hI := hB.iv
  refine q_iconst C 0 dX0_rhymesOfDoor_0 ?_
  refine q_istore_n (lv' := [(2, .int (iI 0)), (0, .ref (adr w b)), (1, .int (iI d))]) C dX0_rhymesOfDoor_1 (by decide) rfl ?_
  refine q_iconst C 1 dX0_rhymesOfDoor_2 ?_
  refine q_istore_n (lv' := [(3, .int (iI 1)), (2, .int (iI 0)), (0, .ref (adr w b)), (1, .int (iI d))]) C dX0_rhymesOfDoor_3 (by decide) rfl ?_
  refine q_lv (lv' := [(0, .ref (adr w b)), (1, .int (iI d)), (2, .int (iI 0)), (3, .int (iI 1))]) [2, 3, 1, 0] rfl ?_
  refine wf2 (P := fun (i : Int) (n : Int) => Wq pg l ev _ s0 mi _ be me co _ w _ _ _ 4 [(0, .ref (adr w b)), (1, .int (iI d)), (2, .int (iI n)), (3, .int (iI i))] [] F) (I := fun (i : Int) (n : Int) => 1 ≤ i ∧ i ≤ 4 ∧ n = sm (prT r d) i) (μ := fun (i : Int) (n : Int) => (4 - i).toNat) ?_ 1 0 (⟨by omega, by omega, rfl⟩)
  intro i n hI' ih4
  (try dsimp only at hI'); (try dsimp only at ih4); (try dsimp only)
  obtain ⟨hi0, hi1, hi2⟩ := hI'
  refine q_iload_n C 3 dX0_rhymesOfDoor_4 rfl ?_
  refine q_iconst C 4 dX0_rhymesOfDoor_5 ?_
  refine q_icmp_ge C 65 dX0_rhymesOfDoor_6 ⟨by omega, by omega⟩ ⟨by decide, by decide⟩ (by decide) (fun h6 => ?_) (fun h6 => ?_)
  · refine q_iload_n C 2 dX0_rhymesOfDoor_65 rfl ?_
    refine q_iret C dX0_rhymesOfDoor_66 ?_
    exact ⟨by rw [hi2, show i = 4 by omega, prs_eq], rfl⟩
  · refine q_aload_n C 0 dX0_rhymesOfDoor_9 rfl ?_
    refine q_iload_n C 1 dX0_rhymesOfDoor_10 rfl ?_
    refine q_iload_n C 3 dX0_rhymesOfDoor_11 rfl ?_
    refine q_cI (q_runSN (As := [.int (iI d), .int (iI i)]) (rest := [.ref (adr w b)]) C (k_X3_lineNumber l) wd_308 wd_307 wd_13 nw_339 nd_X3_lineNumber rfl (by decide) ⟨Nat.zero_le _, Nat.zero_le _⟩ rfl (Nat.le_of_ble_eq_true rfl) dX0_rhymesOfDoor_12) ?_
    rintro z F' ⟨rfl, rfl⟩
    refine q_cI (q_runV (As := [.int (iI (4 * d + i))]) (rest := []) C (k_X0_endingOn l hb hB ⟨by omega, by omega⟩) hb.k0 (by decide) rfl wd_331 wd_329 wd_330 wd_14 wd_328 nd_X0_endingOn rfl (by decide) ⟨Nat.zero_le _, Nat.zero_le _⟩ rfl (Nat.le_of_ble_eq_true rfl) dX0_rhymesOfDoor_15) ?_
    rintro z F' ⟨rfl, rfl⟩
    have q15 := le_range hI (l := 4 * d + i) (by omega) (by omega)
    refine q_istore (lv' := [(4, .int (iI (le r (4 * d + i)))), (0, .ref (adr w b)), (1, .int (iI d)), (2, .int (iI n)), (3, .int (iI i))]) C dX0_rhymesOfDoor_18 (by decide) rfl ?_
    refine q_iconst C 0 dX0_rhymesOfDoor_20 ?_
    refine q_istore (lv' := [(5, .int (iI 0)), (4, .int (iI (le r (4 * d + i)))), (0, .ref (adr w b)), (1, .int (iI d)), (2, .int (iI n)), (3, .int (iI i))]) C dX0_rhymesOfDoor_21 (by decide) rfl ?_
    refine q_lv (lv' := [(0, .ref (adr w b)), (1, .int (iI d)), (2, .int (iI n)), (3, .int (iI i)), (4, .int (iI (le r (4 * d + i)))), (5, .int (iI 0))]) [2, 3, 4, 5, 1, 0] rfl ?_
    refine wf2 (P := fun (k : Int) (m : Int) => Wq pg l ev _ s0 mi _ be me co _ w _ _ _ 23 [(0, .ref (adr w b)), (1, .int (iI d)), (2, .int (iI m)), (3, .int (iI i)), (4, .int (iI (le r (4 * d + i)))), (5, .int (iI k))] [] F) (I := fun (k : Int) (m : Int) => 0 ≤ k ∧ k ≤ i ∧ m = sm (prT r d) i + sm (fun k => eqv (le r (4 * d + i)) (le r (4 * d + k))) k ∧ (le r (4 * d + i) = -1 → k = 0)) (μ := fun (k : Int) (m : Int) => (i - k).toNat) ?_ 0 n (⟨by omega, by omega, by rw [hi2, sm_0, Int.add_zero], fun _ => rfl⟩)
    intro k m hI' ih23
    (try dsimp only at hI'); (try dsimp only at ih23); (try dsimp only)
    obtain ⟨hk0, hk1, hk2, hk3⟩ := hI'
    refine q_iload C 5 dX0_rhymesOfDoor_23 rfl ?_
    refine q_iload_n C 3 dX0_rhymesOfDoor_25 rfl ?_
    refine q_icmp_ge C 59 dX0_rhymesOfDoor_26 ⟨by omega, by omega⟩ ⟨by omega, by omega⟩ (by decide) (fun h26 => ?_) (fun h26 => ?_)
    · refine q_iinc (lv' := [(3, .int (iI (i + 1))), (0, .ref (adr w b)), (1, .int (iI d)), (2, .int (iI m)), (4, .int (iI (le r (4 * d + i)))), (5, .int (iI k))]) C 3 dX0_rhymesOfDoor_59 rfl (by decide) rfl ?_
      refine q_goto C 4 dX0_rhymesOfDoor_62 (by decide) ?_
      refine q_lv (lv' := [(0, .ref (adr w b)), (1, .int (iI d)), (2, .int (iI m)), (3, .int (iI (i + 1)))]) [1, 2, 3, 0] rfl ?_
      exact ih4 (i + 1) m (⟨by omega, by omega, by rw [sm_s (by omega), hk2]; first | (rw [show prT r d i = sm (fun k => eqv (le r (4 * d + i)) (le r (4 * d + k))) k by rw [show k = i by omega]; rfl]) | (rw [prT_n (by omega) (by assumption), hk3 (by assumption)]; rw [sm_0])⟩) (by omega)
    · refine q_iload C 4 dX0_rhymesOfDoor_29 rfl ?_
      refine q_iconst C (-1) dX0_rhymesOfDoor_31 ?_
      refine q_icmp_eq C 59 dX0_rhymesOfDoor_32 ⟨by omega, by omega⟩ ⟨by decide, by decide⟩ (by decide) (fun h32 => ?_) (fun h32 => ?_)
      · refine q_iinc (lv' := [(3, .int (iI (i + 1))), (0, .ref (adr w b)), (1, .int (iI d)), (2, .int (iI m)), (4, .int (iI (le r (4 * d + i)))), (5, .int (iI k))]) C 3 dX0_rhymesOfDoor_59 rfl (by decide) rfl ?_
        refine q_goto C 4 dX0_rhymesOfDoor_62 (by decide) ?_
        refine q_lv (lv' := [(0, .ref (adr w b)), (1, .int (iI d)), (2, .int (iI m)), (3, .int (iI (i + 1)))]) [1, 2, 3, 0] rfl ?_
        exact ih4 (i + 1) m (⟨by omega, by omega, by rw [sm_s (by omega), hk2]; first | (rw [show prT r d i = sm (fun k => eqv (le r (4 * d + i)) (le r (4 * d + k))) k by rw [show k = i by omega]; rfl]) | (rw [prT_n (by omega) (by assumption), hk3 (by assumption)]; rw [sm_0])⟩) (by omega)
      · refine q_aload_n C 0 dX0_rhymesOfDoor_35 rfl ?_
        refine q_iload_n C 1 dX0_rhymesOfDoor_36 rfl ?_
        refine q_iload C 5 dX0_rhymesOfDoor_37 rfl ?_
        refine q_cI (q_runSN (As := [.int (iI d), .int (iI k)]) (rest := [.ref (adr w b)]) C (k_X3_lineNumber l) wd_308 wd_307 wd_13 nw_339 nd_X3_lineNumber rfl (by decide) ⟨Nat.zero_le _, Nat.zero_le _⟩ rfl (Nat.le_of_ble_eq_true rfl) dX0_rhymesOfDoor_39) ?_
        rintro z F' ⟨rfl, rfl⟩
        refine q_cI (q_runV (As := [.int (iI (4 * d + k))]) (rest := []) C (k_X0_endingOn l hb hB ⟨by omega, by omega⟩) hb.k0 (by decide) rfl wd_331 wd_329 wd_330 wd_14 wd_328 nd_X0_endingOn rfl (by decide) ⟨Nat.zero_le _, Nat.zero_le _⟩ rfl (Nat.le_of_ble_eq_true rfl) dX0_rhymesOfDoor_42) ?_
        rintro z F' ⟨rfl, rfl⟩
        have q42 := le_range hI (l := 4 * d + k) (by omega) (by omega)
        refine q_iload C 4 dX0_rhymesOfDoor_45 rfl ?_
        refine q_icmp_ne C 53 dX0_rhymesOfDoor_47 ⟨by omega, by omega⟩ ⟨by omega, by omega⟩ (by decide) (fun h47 => ?_) (fun h47 => ?_)
        · refine q_iinc (lv' := [(5, .int (iI (k + 1))), (0, .ref (adr w b)), (1, .int (iI d)), (2, .int (iI m)), (3, .int (iI i)), (4, .int (iI (le r (4 * d + i))))]) C 5 dX0_rhymesOfDoor_53 rfl (by decide) rfl ?_
          refine q_goto C 23 dX0_rhymesOfDoor_56 (by decide) ?_
          refine q_lv (lv' := [(0, .ref (adr w b)), (1, .int (iI d)), (2, .int (iI m)), (3, .int (iI i)), (4, .int (iI (le r (4 * d + i)))), (5, .int (iI (k + 1)))]) [1, 2, 3, 4, 5, 0] rfl ?_
          exact ih23 (k + 1) m (⟨by omega, by omega, by rw [sm_s hk0, hk2]; first | rw [eqv_0 (by omega)]; omega | rw [eqv_1 (by omega) (by omega)]; omega, fun h => by omega⟩) (by omega)
        · refine q_iinc (lv' := [(2, .int (iI (m + 1))), (0, .ref (adr w b)), (1, .int (iI d)), (3, .int (iI i)), (4, .int (iI (le r (4 * d + i)))), (5, .int (iI k))]) C 2 dX0_rhymesOfDoor_50 rfl (by decide) rfl ?_
          refine q_iinc (lv' := [(5, .int (iI (k + 1))), (2, .int (iI (m + 1))), (0, .ref (adr w b)), (1, .int (iI d)), (3, .int (iI i)), (4, .int (iI (le r (4 * d + i))))]) C 5 dX0_rhymesOfDoor_53 rfl (by decide) rfl ?_
          refine q_goto C 23 dX0_rhymesOfDoor_56 (by decide) ?_
          refine q_lv (lv' := [(0, .ref (adr w b)), (1, .int (iI d)), (2, .int (iI (m + 1))), (3, .int (iI i)), (4, .int (iI (le r (4 * d + i)))), (5, .int (iI (k + 1)))]) [2, 3, 1, 4, 5, 0] rfl ?_
          exact ih23 (k + 1) (m + 1) (⟨by omega, by omega, by rw [sm_s hk0, hk2]; first | rw [eqv_0 (by omega)]; omega | rw [eqv_1 (by omega) (by omega)]; omega, fun h => by omega⟩) (by omega)

set_option maxRecDepth 100000 in
set_option maxHeartbeats 4000000 in
theorem k_X0_worthOfDoor (l : Launch) {w : WP} {F : FF} {b : Nat} {r : Rw} {d : Int} (hb : IsB b) (hB : BI F b r) (hd : 0 ≤ d ∧ d < 4) : Con l yX0_worthOfDoor cX0_worthOfDoor 4 (some .int) 3 w [.ref (adr w b), .int (iI d)] F (QI w (fun z F' => z = dw r d ∧ F = F')) := by
  refine Con.mk (lv := [(0, .ref (adr w b)), (1, .int (iI d))]) (by decide) (Nat.le_of_ble_eq_true rfl) rfl ?_
  intro pg ev s0 mi be me co C hz
  have hI := hB.iv
  refine q_iconst C 4 dX0_worthOfDoor_0 ?_
  refine q_aload_n C 0 dX0_worthOfDoor_1 rfl ?_
  refine q_iload_n C 1 dX0_worthOfDoor_2 rfl ?_
  refine q_cI (q_runV (As := [.int (iI d)]) (rest := [.int (iI 4)]) C (k_X0_rhymesOfDoor l hb hB ⟨by omega, by omega⟩) hb.k0 (by decide) rfl wd_392 wd_390 wd_391 wd_14 wd_389 nd_X0_rhymesOfDoor rfl (by decide) ⟨Nat.zero_le _, Nat.zero_le _⟩ rfl (Nat.le_of_ble_eq_true rfl) dX0_worthOfDoor_3) ?_
  rintro z F' ⟨rfl, rfl⟩
  have q3 := prs_range r d
  refine q_imul C dX0_worthOfDoor_6 ?_
  refine q_istore_n (lv' := [(2, .int (iI (4 * (prs r d)))), (0, .ref (adr w b)), (1, .int (iI d))]) C dX0_worthOfDoor_7 (by decide) rfl ?_
  refine q_iconst C 0 dX0_worthOfDoor_8 ?_
  refine q_istore_n (lv' := [(3, .int (iI 0)), (2, .int (iI (4 * (prs r d)))), (0, .ref (adr w b)), (1, .int (iI d))]) C dX0_worthOfDoor_9 (by decide) rfl ?_
  refine q_lv (lv' := [(0, .ref (adr w b)), (1, .int (iI d)), (2, .int (iI (4 * (prs r d)))), (3, .int (iI 0))]) [2, 3, 1, 0] rfl ?_
  refine wf2 (P := fun (i : Int) (n : Int) => Wq pg l ev _ s0 mi _ be me co _ w _ _ _ 10 [(0, .ref (adr w b)), (1, .int (iI d)), (2, .int (iI n)), (3, .int (iI i))] [] F) (I := fun (i : Int) (n : Int) => 0 ≤ i ∧ i ≤ 4 ∧ n = 4 * prs r d + sm (fun i => lw r (4 * d + i)) i) (μ := fun (i : Int) (n : Int) => (4 - i).toNat) ?_ 0 (4 * (prs r d)) (⟨by omega, by omega, by rw [sm_0, Int.add_zero]⟩)
  intro i n hI' ih10
  (try dsimp only at hI'); (try dsimp only at ih10); (try dsimp only)
  obtain ⟨hi0, hi1, hi2⟩ := hI'
  refine q_iload_n C 3 dX0_worthOfDoor_10 rfl ?_
  refine q_iconst C 4 dX0_worthOfDoor_11 ?_
  refine q_icmp_ge C 34 dX0_worthOfDoor_12 ⟨by omega, by omega⟩ ⟨by decide, by decide⟩ (by decide) (fun h12 => ?_) (fun h12 => ?_)
  · refine q_iload_n C 2 dX0_worthOfDoor_34 rfl ?_
    refine q_iret C dX0_worthOfDoor_35 ?_
    exact ⟨by rw [hi2, show i = 4 by omega]; rfl, rfl⟩
  · refine q_iload_n C 2 dX0_worthOfDoor_15 rfl ?_
    refine q_aload_n C 0 dX0_worthOfDoor_16 rfl ?_
    refine q_iload_n C 1 dX0_worthOfDoor_17 rfl ?_
    refine q_iload_n C 3 dX0_worthOfDoor_18 rfl ?_
    refine q_cI (q_runSN (As := [.int (iI d), .int (iI i)]) (rest := [.ref (adr w b), .int (iI n)]) C (k_X3_lineNumber l) wd_308 wd_307 wd_13 nw_339 nd_X3_lineNumber rfl (by decide) ⟨Nat.zero_le _, Nat.zero_le _⟩ rfl (Nat.le_of_ble_eq_true rfl) dX0_worthOfDoor_19) ?_
    rintro z F' ⟨rfl, rfl⟩
    refine q_iconst C (-1) dX0_worthOfDoor_22 ?_
    refine q_cI (q_runV (As := [.int (iI (4 * d + i)), .int (iI (-1))]) (rest := [.int (iI n)]) C (k_wol_n l hb hB (x := 4 * d + i) ⟨by omega, by omega⟩) hb.k0 (by decide) rfl wd_327 wd_325 wd_326 wd_14 wd_324 nd_X0_worthOfLine rfl (by decide) ⟨Nat.zero_le _, Nat.zero_le _⟩ rfl (Nat.le_of_ble_eq_true rfl) dX0_worthOfDoor_23) ?_
    rintro z F' ⟨rfl, rfl⟩
    refine q_iadd C dX0_worthOfDoor_26 ?_
    refine q_istore_n (lv' := [(2, .int (iI (n + (lw r (4 * d + i))))), (0, .ref (adr w b)), (1, .int (iI d)), (3, .int (iI i))]) C dX0_worthOfDoor_27 (by decide) rfl ?_
    refine q_iinc (lv' := [(3, .int (iI (i + 1))), (2, .int (iI (n + (lw r (4 * d + i))))), (0, .ref (adr w b)), (1, .int (iI d))]) C 3 dX0_worthOfDoor_28 rfl (by decide) rfl ?_
    refine q_goto C 10 dX0_worthOfDoor_31 (by decide) ?_
    refine q_lv (lv' := [(0, .ref (adr w b)), (1, .int (iI d)), (2, .int (iI (n + (lw r (4 * d + i))))), (3, .int (iI (i + 1)))]) [2, 3, 1, 0] rfl ?_
    exact ih10 (i + 1) (n + (lw r (4 * d + i))) (⟨by omega, by omega, by rw [sm_s hi0, hi2]; omega⟩) (by omega)

set_option maxRecDepth 100000 in
set_option maxHeartbeats 4000000 in
theorem k_X0_worthOfAll (l : Launch) {w : WP} {F : FF} {b : Nat} {r : Rw} (hb : IsB b) (hB : BI F b r)  : Con l yX0_worthOfAll cX0_worthOfAll 3 (some .int) 4 w [.ref (adr w b)] F (QI w (fun z F' => z = aw r ∧ F = F')) := by
  refine Con.mk (lv := [(0, .ref (adr w b))]) (by decide) (Nat.le_of_ble_eq_true rfl) rfl ?_
  intro pg ev s0 mi be me co C hz
  have hI := hB.iv
  refine q_iconst C 0 dX0_worthOfAll_0 ?_
  refine q_istore_n (lv' := [(1, .int (iI 0)), (0, .ref (adr w b))]) C dX0_worthOfAll_1 (by decide) rfl ?_
  refine q_iconst C 0 dX0_worthOfAll_2 ?_
  refine q_istore_n (lv' := [(2, .int (iI 0)), (1, .int (iI 0)), (0, .ref (adr w b))]) C dX0_worthOfAll_3 (by decide) rfl ?_
  refine q_lv (lv' := [(0, .ref (adr w b)), (1, .int (iI 0)), (2, .int (iI 0))]) [2, 1, 0] rfl ?_
  refine wf2 (P := fun (i : Int) (n : Int) => Wq pg l ev _ s0 mi _ be me co _ w _ _ _ 4 [(0, .ref (adr w b)), (1, .int (iI n)), (2, .int (iI i))] [] F) (I := fun (i : Int) (n : Int) => 0 ≤ i ∧ i ≤ 4 ∧ n = sm (fun d => dw r d) i) (μ := fun (i : Int) (n : Int) => (4 - i).toNat) ?_ 0 0 (⟨by omega, by omega, rfl⟩)
  intro i n hI' ih4
  (try dsimp only at hI'); (try dsimp only at ih4); (try dsimp only)
  obtain ⟨hi0, hi1, hi2⟩ := hI'
  refine q_iload_n C 2 dX0_worthOfAll_4 rfl ?_
  refine q_iconst C 4 dX0_worthOfAll_5 ?_
  refine q_icmp_ge C 23 dX0_worthOfAll_6 ⟨by omega, by omega⟩ ⟨by decide, by decide⟩ (by decide) (fun h6 => ?_) (fun h6 => ?_)
  · refine q_iload_n C 1 dX0_worthOfAll_23 rfl ?_
    refine q_iret C dX0_worthOfAll_24 ?_
    exact ⟨by rw [hi2, show i = 4 by omega]; rfl, rfl⟩
  · refine q_iload_n C 1 dX0_worthOfAll_9 rfl ?_
    refine q_aload_n C 0 dX0_worthOfAll_10 rfl ?_
    refine q_iload_n C 2 dX0_worthOfAll_11 rfl ?_
    refine q_cI (q_runV (As := [.int (iI i)]) (rest := [.int (iI n)]) C (k_X0_worthOfDoor l hb hB ⟨by omega, by omega⟩) hb.k0 (by decide) rfl wd_388 wd_386 wd_387 wd_14 wd_385 nd_X0_worthOfDoor rfl (by decide) ⟨Nat.zero_le _, Nat.zero_le _⟩ rfl (Nat.le_of_ble_eq_true rfl) dX0_worthOfAll_12) ?_
    rintro z F' ⟨rfl, rfl⟩
    have q12 := dw_range hI (d := i) (by omega) (by omega)
    refine q_iadd C dX0_worthOfAll_15 ?_
    refine q_istore_n (lv' := [(1, .int (iI (n + (dw r i)))), (0, .ref (adr w b)), (2, .int (iI i))]) C dX0_worthOfAll_16 (by decide) rfl ?_
    refine q_iinc (lv' := [(2, .int (iI (i + 1))), (1, .int (iI (n + (dw r i)))), (0, .ref (adr w b))]) C 2 dX0_worthOfAll_17 rfl (by decide) rfl ?_
    refine q_goto C 4 dX0_worthOfAll_20 (by decide) ?_
    refine q_lv (lv' := [(0, .ref (adr w b)), (1, .int (iI (n + (dw r i)))), (2, .int (iI (i + 1)))]) [2, 1, 0] rfl ?_
    exact ih4 (i + 1) (n + (dw r i)) (⟨by omega, by omega, by rw [sm_s hi0, hi2]⟩) (by omega)

set_option maxRecDepth 100000 in
set_option maxHeartbeats 4000000 in
theorem k_X0_bestWordFor (l : Launch) {w : WP} {F : FF} {b : Nat} {r : Rw} {x : Int} (hb : IsB b) (hB : BI F b r) (hl : 0 ≤ x ∧ x < 16) : Con l yX0_bestWordFor cX0_bestWordFor 7 (some .int) 4 w [.ref (adr w b), .int (iI x)] F (QI w (fun z F' => z = bf r x ∧ F = F')) := by
  refine Con.mk (lv := [(0, .ref (adr w b)), (1, .int (iI x))]) (by decide) (Nat.le_of_ble_eq_true rfl) rfl ?_
  intro pg ev s0 mi be me co C hz
  have hI := hB.iv
  have qs := hI.sz hl.1 hl.2
  refine q_iconst C (-1) dX0_bestWordFor_0 ?_
  refine q_istore_n (lv' := [(2, .int (iI (-1))), (0, .ref (adr w b)), (1, .int (iI x))]) C dX0_bestWordFor_1 (by decide) rfl ?_
  refine q_iconst C (-1) dX0_bestWordFor_2 ?_
  refine q_istore_n (lv' := [(3, .int (iI (-1))), (2, .int (iI (-1))), (0, .ref (adr w b)), (1, .int (iI x))]) C dX0_bestWordFor_3 (by decide) rfl ?_
  refine q_aload_n C 2 dX0_bestWordFor_4 rfl ?_
  refine q_get (T := TX0) (i := 2) C hb.k0 (by decide) rfl uws0 (by decide) wd_45 rfl dX0_bestWordFor_5 ?_
  refine q_iload_n C 3 dX0_bestWordFor_8 rfl ?_
  refine q_cI (q_runSN (As := [.ref (adr w (b + 3)), .int (iI x)]) (rest := []) C (k_c3 l hb hB (x := x) ⟨by omega, by omega⟩) wd_265 wd_264 wd_13 nw_263 nd_X3_cell rfl (by decide) ⟨Nat.zero_le _, Nat.zero_le _⟩ rfl (Nat.le_of_ble_eq_true rfl) dX0_bestWordFor_9) ?_
  rintro z F' ⟨rfl, rfl⟩
  have q9 := hI.sz (l := x) (by omega) (by omega)
  refine q_istore (lv' := [(4, .int (iI (r x))), (3, .int (iI (-1))), (2, .int (iI (-1))), (0, .ref (adr w b)), (1, .int (iI x))]) C dX0_bestWordFor_12 (by decide) rfl ?_
  refine q_iconst C 0 dX0_bestWordFor_14 ?_
  refine q_istore (lv' := [(5, .int (iI 0)), (4, .int (iI (r x))), (3, .int (iI (-1))), (2, .int (iI (-1))), (0, .ref (adr w b)), (1, .int (iI x))]) C dX0_bestWordFor_15 (by decide) rfl ?_
  refine q_lv (lv' := [(0, .ref (adr w b)), (1, .int (iI x)), (2, .int (iI (-1))), (3, .int (iI (-1))), (4, .int (iI (r x))), (5, .int (iI 0))]) [4, 5, 3, 2, 1, 0] rfl ?_
  refine wf3 (P := fun (i : Int) (t : Int) (v : Int) => Wq pg l ev _ s0 mi _ be me co _ w _ _ _ 17 [(0, .ref (adr w b)), (1, .int (iI x)), (2, .int (iI t)), (3, .int (iI v)), (4, .int (iI (r x))), (5, .int (iI i))] [] F) (I := fun (i : Int) (t : Int) (v : Int) => 0 ≤ i ∧ i ≤ 40 ∧ t = bfI r x i ∧ (t = -1 → v = -1) ∧ (t ≠ -1 → v = bfV r x t)) (μ := fun (i : Int) (t : Int) (v : Int) => (40 - i).toNat) ?_ 0 (-1) (-1) (⟨by omega, by omega, rfl, fun _ => rfl, fun h => absurd rfl h⟩)
  intro i t v hI' ih17
  (try dsimp only at hI'); (try dsimp only at ih17); (try dsimp only)
  obtain ⟨hi0, hi1, hi2, hi3, hi4⟩ := hI'
  have qt := bfI_range r x hi0
  have qv : t ≠ -1 → 0 ≤ bfV r x t ∧ bfV r x t ≤ 60 := fun h => bfV_range hI hl (by omega)
  refine q_iload C 5 dX0_bestWordFor_17 rfl ?_
  refine q_aload_n C 0 dX0_bestWordFor_19 rfl ?_
  refine q_get (T := TX0) (i := 0) C hb.k0 (by decide) rfl uws0 (by decide) wd_43 rfl dX0_bestWordFor_20 ?_
  refine q_alen (N := 40) C (by rw [hb.k1]; decide) hb.n1 dX0_bestWordFor_23 ?_
  refine q_icmp_ge C 90 dX0_bestWordFor_24 ⟨by omega, by omega⟩ ⟨by decide, by decide⟩ (by decide) (fun h24 => ?_) (fun h24 => ?_)
  · refine q_iload_n C 2 dX0_bestWordFor_90 rfl ?_
    refine q_iret C dX0_bestWordFor_91 ?_
    exact ⟨by rw [hi2]; exact bf_eq (by omega), rfl⟩
  · refine q_aload_n C 0 dX0_bestWordFor_27 rfl ?_
    refine q_get (T := TX0) (i := 0) C hb.k0 (by decide) rfl uws0 (by decide) wd_43 rfl dX0_bestWordFor_28 ?_
    refine q_iload C 5 dX0_bestWordFor_31 rfl ?_
    refine q_iald C hb.k1 ⟨by omega, by rw [hb.n1]; omega⟩ dX0_bestWordFor_33 ?_
    rw [hB.h1 (x := i) (by omega) (by omega)]
    have qr := home_range r i
    refine q_iconst C (-1) dX0_bestWordFor_34 ?_
    refine q_icmp_ne C 84 dX0_bestWordFor_35 ⟨by omega, by omega⟩ ⟨by decide, by decide⟩ (by decide) (fun h35 => ?_) (fun h35 => ?_)
    · refine q_iinc (lv' := [(5, .int (iI (i + 1))), (0, .ref (adr w b)), (1, .int (iI x)), (2, .int (iI t)), (3, .int (iI v)), (4, .int (iI (r x)))]) C 5 dX0_bestWordFor_84 rfl (by decide) rfl ?_
      refine q_goto C 17 dX0_bestWordFor_87 (by decide) ?_
      refine q_lv (lv' := [(0, .ref (adr w b)), (1, .int (iI x)), (2, .int (iI t)), (3, .int (iI v)), (4, .int (iI (r x))), (5, .int (iI (i + 1)))]) [1, 2, 3, 4, 5, 0] rfl ?_
      exact ih17 (i + 1) t v (⟨by omega, by omega, by rw [bfI_s hi0]; rw [← hi2]; first | rw [if_pos ⟨by assumption, by assumption, by omega⟩] | rw [if_neg (by omega)], by omega, by first | exact hi4 | exact fun _ => rfl⟩) (by omega)
    · refine q_aload_n C 0 dX0_bestWordFor_38 rfl ?_
      refine q_iload C 5 dX0_bestWordFor_39 rfl ?_
      refine q_iload_n C 1 dX0_bestWordFor_41 rfl ?_
      refine q_iload C 4 dX0_bestWordFor_42 rfl ?_
      refine q_cI (q_runV (As := [.int (iI i), .int (iI x), .int (iI (r x))]) (rest := []) C (k_X0_refusal l hb hB ⟨by omega, by omega⟩ ⟨by omega, by omega⟩ ⟨by omega, by omega⟩) hb.k0 (by decide) rfl wd_470 wd_468 wd_469 wd_14 wd_502 nd_X0_refusal rfl (by decide) ⟨Nat.zero_le _, Nat.zero_le _⟩ rfl (Nat.le_of_ble_eq_true rfl) dX0_bestWordFor_44) ?_
      rintro z F' ⟨rfl, rfl⟩
      have q44 := rea_range r i x (r x)
      refine q_if_ne C 84 dX0_bestWordFor_47 ⟨by omega, by omega⟩  (by decide) (fun h47 => ?_) (fun h47 => ?_)
      · refine q_iinc (lv' := [(5, .int (iI (i + 1))), (0, .ref (adr w b)), (1, .int (iI x)), (2, .int (iI t)), (3, .int (iI v)), (4, .int (iI (r x)))]) C 5 dX0_bestWordFor_84 rfl (by decide) rfl ?_
        refine q_goto C 17 dX0_bestWordFor_87 (by decide) ?_
        refine q_lv (lv' := [(0, .ref (adr w b)), (1, .int (iI x)), (2, .int (iI t)), (3, .int (iI v)), (4, .int (iI (r x))), (5, .int (iI (i + 1)))]) [1, 2, 3, 4, 5, 0] rfl ?_
        exact ih17 (i + 1) t v (⟨by omega, by omega, by rw [bfI_s hi0]; rw [← hi2]; first | rw [if_pos ⟨by assumption, by assumption, by omega⟩] | rw [if_neg (by omega)], by omega, by first | exact hi4 | exact fun _ => rfl⟩) (by omega)
      · refine q_aload_n C 0 dX0_bestWordFor_50 rfl ?_
        refine q_iload_n C 1 dX0_bestWordFor_51 rfl ?_
        refine q_iload C 5 dX0_bestWordFor_52 rfl ?_
        refine q_cI (q_runV (As := [.int (iI x), .int (iI i)]) (rest := []) C (k_wol_w l hb hB (x := x) (y := i) ⟨by omega, by omega⟩ ⟨by omega, by omega⟩) hb.k0 (by decide) rfl wd_327 wd_325 wd_326 wd_14 wd_324 nd_X0_worthOfLine rfl (by decide) ⟨Nat.zero_le _, Nat.zero_le _⟩ rfl (Nat.le_of_ble_eq_true rfl) dX0_bestWordFor_54) ?_
        rintro z F' ⟨rfl, rfl⟩
        refine q_iconst C 4 dX0_bestWordFor_57 ?_
        refine q_aload_n C 0 dX0_bestWordFor_58 rfl ?_
        refine q_iload_n C 1 dX0_bestWordFor_59 rfl ?_
        refine q_iload C 5 dX0_bestWordFor_60 rfl ?_
        refine q_cI (q_runSN (As := [.int (iI i)]) (rest := [.int (iI x), .ref (adr w b), .int (iI 4), .int (iI (LW (fw r x i) (r x + 1)))]) C (k_X3_endingOf l (by omega)) wd_271 wd_270 wd_13 nw_269 nd_X3_endingOf rfl (by decide) ⟨Nat.zero_le _, Nat.zero_le _⟩ rfl (Nat.le_of_ble_eq_true rfl) dX0_bestWordFor_62) ?_
        rintro z F' ⟨rfl, rfl⟩
        have q62 := en_pos (x := i) (by omega)
        refine q_cI (q_runV (As := [.int (iI x), .int (iI (en i))]) (rest := [.int (iI 4), .int (iI (LW (fw r x i) (r x + 1)))]) C (k_X0_rhymesOf l hb hB ⟨by omega, by omega⟩ ⟨by omega, by omega⟩) hb.k0 (by decide) rfl wd_338 wd_336 wd_337 wd_14 wd_335 nd_X0_rhymesOf rfl (by decide) ⟨Nat.zero_le _, Nat.zero_le _⟩ rfl (Nat.le_of_ble_eq_true rfl) dX0_bestWordFor_65) ?_
        rintro z F' ⟨rfl, rfl⟩
        have q65 := rhE_range r x (en i)
        refine q_imul C dX0_bestWordFor_68 ?_
        refine q_iadd C dX0_bestWordFor_69 ?_
        have qw := bfV_range hI hl (x := i) (by omega)
        have qe : (LW (fw r x i) (r x + 1)) + (4 * (rhE r x (en i))) = bfV r x i := rfl
        refine q_top (z' := bfV r x i) (rfl) ?_
        refine q_istore (lv' := [(6, .int (iI (bfV r x i))), (0, .ref (adr w b)), (1, .int (iI x)), (2, .int (iI t)), (3, .int (iI v)), (4, .int (iI (r x))), (5, .int (iI i))]) C dX0_bestWordFor_70 (by decide) rfl ?_
        refine q_iload C 0 dX0_bestWordFor_72 rfl ?_
        refine q_iload_n C 4 dX0_bestWordFor_74 rfl ?_
        refine q_icmp_le C 84 dX0_bestWordFor_75 ⟨by omega, by omega⟩ ⟨by omega, by omega⟩ (by decide) (fun h75 => ?_) (fun h75 => ?_)
        · refine q_iinc (lv' := [(5, .int (iI (i + 1))), (6, .int (iI (bfV r x i))), (0, .ref (adr w b)), (1, .int (iI x)), (2, .int (iI t)), (3, .int (iI v)), (4, .int (iI (r x)))]) C 6 dX0_bestWordFor_84 rfl (by decide) rfl ?_
          refine q_goto C 17 dX0_bestWordFor_87 (by decide) ?_
          refine q_lv (lv' := [(0, .ref (adr w b)), (1, .int (iI x)), (2, .int (iI t)), (3, .int (iI v)), (4, .int (iI (r x))), (5, .int (iI (i + 1)))]) [2, 3, 4, 5, 6, 0] rfl ?_
          exact ih17 (i + 1) t v (⟨by omega, by omega, by rw [bfI_s hi0]; rw [← hi2]; first | rw [if_pos ⟨by assumption, by assumption, by omega⟩] | rw [if_neg (by omega)], by omega, by first | exact hi4 | exact fun _ => rfl⟩) (by omega)
        · refine q_iload C 6 dX0_bestWordFor_78 rfl ?_
          refine q_istore_n (lv' := [(2, .int (iI i)), (6, .int (iI (bfV r x i))), (0, .ref (adr w b)), (1, .int (iI x)), (3, .int (iI v)), (4, .int (iI (r x))), (5, .int (iI i))]) C dX0_bestWordFor_80 (by decide) rfl ?_
          refine q_iload C 1 dX0_bestWordFor_81 rfl ?_
          refine q_istore_n (lv' := [(3, .int (iI (bfV r x i))), (2, .int (iI i)), (6, .int (iI (bfV r x i))), (0, .ref (adr w b)), (1, .int (iI x)), (4, .int (iI (r x))), (5, .int (iI i))]) C dX0_bestWordFor_83 (by decide) rfl ?_
          refine q_iinc (lv' := [(5, .int (iI (i + 1))), (3, .int (iI (bfV r x i))), (2, .int (iI i)), (6, .int (iI (bfV r x i))), (0, .ref (adr w b)), (1, .int (iI x)), (4, .int (iI (r x)))]) C 6 dX0_bestWordFor_84 rfl (by decide) rfl ?_
          refine q_goto C 17 dX0_bestWordFor_87 (by decide) ?_
          refine q_lv (lv' := [(0, .ref (adr w b)), (1, .int (iI x)), (2, .int (iI i)), (3, .int (iI (bfV r x i))), (4, .int (iI (r x))), (5, .int (iI (i + 1)))]) [4, 5, 2, 1, 6, 0] rfl ?_
          exact ih17 (i + 1) i (bfV r x i) (⟨by omega, by omega, by rw [bfI_s hi0]; rw [← hi2]; first | rw [if_pos ⟨by assumption, by assumption, by omega⟩] | rw [if_neg (by omega)], by omega, by first | exact hi4 | exact fun _ => rfl⟩) (by omega)

set_option maxRecDepth 100000 in
set_option maxHeartbeats 4000000 in
theorem k_X0_borrows (l : Launch) {w : WP} {F : FF} {b : Nat} {r : Rw} {x : Int} (hb : IsB b) (hB : BI F b r) (hl : 0 ≤ x ∧ x < 16) : Con l yX0_borrows cX0_borrows 2 (some .boolean) 1 w [.ref (adr w b), .int (iI x)] F (QI w (fun z F' => (z = 1 ∧ 0 < r (112 + x) ∨ z = 0 ∧ ¬ 0 < r (112 + x)) ∧ F = F')) := by
  refine Con.mk (lv := [(0, .ref (adr w b)), (1, .int (iI x))]) (by decide) (Nat.le_of_ble_eq_true rfl) rfl ?_
  intro pg ev s0 mi be me co C hz
  have hI := hB.iv
  refine q_aload_n C 0 dX0_borrows_0 rfl ?_
  refine q_get (T := TX0) (i := 3) C hb.k0 (by decide) rfl uws0 (by decide) wd_46 rfl dX0_borrows_1 ?_
  refine q_iload_n C 1 dX0_borrows_4 rfl ?_
  refine q_cI (q_runSN (As := [.ref (adr w (b + 4)), .int (iI x)]) (rest := []) C (k_c4 l hb hB (x := x) ⟨by omega, by omega⟩) wd_265 wd_264 wd_13 nw_263 nd_X3_cell rfl (by decide) ⟨Nat.zero_le _, Nat.zero_le _⟩ rfl (Nat.le_of_ble_eq_true rfl) dX0_borrows_5) ?_
  rintro z F' ⟨rfl, rfl⟩
  have q5 := hI.ld (l := x) (by omega) (by omega)
  refine q_iconst C (-1) dX0_borrows_8 ?_
  refine q_icmp_eq C 16 dX0_borrows_9 ⟨by omega, by omega⟩ ⟨by decide, by decide⟩ (by decide) (fun h9 => ?_) (fun h9 => ?_)
  · refine q_iconst C 0 dX0_borrows_16 ?_
    refine q_zret C dX0_borrows_17 (by decide) ?_
    exact ⟨by omega, rfl⟩
  · refine q_iconst C 1 dX0_borrows_12 ?_
    refine q_goto C 17 dX0_borrows_13 (by decide) ?_
    refine q_zret C dX0_borrows_17 (by decide) ?_
    exact ⟨by omega, rfl⟩

set_option maxRecDepth 100000 in
set_option maxHeartbeats 4000000 in
theorem k_X0_isFreeForLoan (l : Launch) {w : WP} {F : FF} {b : Nat} {r : Rw} {x : Int} (hb : IsB b) (hB : BI F b r) (hl : 0 ≤ x ∧ x < 16) : Con l yX0_isFreeForLoan cX0_isFreeForLoan 2 (some .boolean) 1 w [.ref (adr w b), .int (iI x)] F (QI w (fun z F' => (z = 1 ∧ (0 < r x ∧ r (112 + x) = 0 ∧ bor r x = -1) ∨ z = 0 ∧ ¬ (0 < r x ∧ r (112 + x) = 0 ∧ bor r x = -1)) ∧ F = F')) := by
  refine Con.mk (lv := [(0, .ref (adr w b)), (1, .int (iI x))]) (by decide) (Nat.le_of_ble_eq_true rfl) rfl ?_
  intro pg ev s0 mi be me co C hz
  have hI := hB.iv
  refine q_aload_n C 0 dX0_isFreeForLoan_0 rfl ?_
  refine q_get (T := TX0) (i := 2) C hb.k0 (by decide) rfl uws0 (by decide) wd_45 rfl dX0_isFreeForLoan_1 ?_
  refine q_iload_n C 1 dX0_isFreeForLoan_4 rfl ?_
  refine q_cI (q_runSN (As := [.ref (adr w (b + 3)), .int (iI x)]) (rest := []) C (k_c3 l hb hB (x := x) ⟨by omega, by omega⟩) wd_265 wd_264 wd_13 nw_263 nd_X3_cell rfl (by decide) ⟨Nat.zero_le _, Nat.zero_le _⟩ rfl (Nat.le_of_ble_eq_true rfl) dX0_isFreeForLoan_5) ?_
  rintro z F' ⟨rfl, rfl⟩
  have q5 := hI.sz (l := x) (by omega) (by omega)
  refine q_if_le C 39 dX0_isFreeForLoan_8 ⟨by omega, by omega⟩  (by decide) (fun h8 => ?_) (fun h8 => ?_)
  · refine q_iconst C 0 dX0_isFreeForLoan_39 ?_
    refine q_zret C dX0_isFreeForLoan_40 (by decide) ?_
    exact ⟨by omega, rfl⟩
  · refine q_aload_n C 0 dX0_isFreeForLoan_11 rfl ?_
    refine q_get (T := TX0) (i := 3) C hb.k0 (by decide) rfl uws0 (by decide) wd_46 rfl dX0_isFreeForLoan_12 ?_
    refine q_iload_n C 1 dX0_isFreeForLoan_15 rfl ?_
    refine q_cI (q_runSN (As := [.ref (adr w (b + 4)), .int (iI x)]) (rest := []) C (k_c4 l hb hB (x := x) ⟨by omega, by omega⟩) wd_265 wd_264 wd_13 nw_263 nd_X3_cell rfl (by decide) ⟨Nat.zero_le _, Nat.zero_le _⟩ rfl (Nat.le_of_ble_eq_true rfl) dX0_isFreeForLoan_16) ?_
    rintro z F' ⟨rfl, rfl⟩
    have q16 := hI.ld (l := x) (by omega) (by omega)
    refine q_iconst C (-1) dX0_isFreeForLoan_19 ?_
    refine q_icmp_ne C 39 dX0_isFreeForLoan_20 ⟨by omega, by omega⟩ ⟨by decide, by decide⟩ (by decide) (fun h20 => ?_) (fun h20 => ?_)
    · refine q_iconst C 0 dX0_isFreeForLoan_39 ?_
      refine q_zret C dX0_isFreeForLoan_40 (by decide) ?_
      exact ⟨by omega, rfl⟩
    · refine q_aload_n C 0 dX0_isFreeForLoan_23 rfl ?_
      refine q_get (T := TX0) (i := 4) C hb.k0 (by decide) rfl uws0 (by decide) wd_47 rfl dX0_isFreeForLoan_24 ?_
      refine q_iload_n C 1 dX0_isFreeForLoan_27 rfl ?_
      refine q_cI (q_runSN (As := [.ref (adr w (b + 5)), .int (iI x)]) (rest := []) C (k_c5 l hb hB (x := x) ⟨by omega, by omega⟩) wd_265 wd_264 wd_13 nw_263 nd_X3_cell rfl (by decide) ⟨Nat.zero_le _, Nat.zero_le _⟩ rfl (Nat.le_of_ble_eq_true rfl) dX0_isFreeForLoan_28) ?_
      rintro z F' ⟨rfl, rfl⟩
      have q28 := bor_range r x
      refine q_iconst C (-1) dX0_isFreeForLoan_31 ?_
      refine q_icmp_ne C 39 dX0_isFreeForLoan_32 ⟨by omega, by omega⟩ ⟨by decide, by decide⟩ (by decide) (fun h32 => ?_) (fun h32 => ?_)
      · refine q_iconst C 0 dX0_isFreeForLoan_39 ?_
        refine q_zret C dX0_isFreeForLoan_40 (by decide) ?_
        exact ⟨by omega, rfl⟩
      · refine q_iconst C 1 dX0_isFreeForLoan_35 ?_
        refine q_goto C 40 dX0_isFreeForLoan_36 (by decide) ?_
        refine q_zret C dX0_isFreeForLoan_40 (by decide) ?_
        exact ⟨by omega, rfl⟩

set_option maxRecDepth 100000 in
set_option maxHeartbeats 4000000 in
theorem k_X0_loans (l : Launch) {w : WP} {F : FF} {b : Nat} {r : Rw} (hb : IsB b) (hB : BI F b r)  : Con l yX0_loans cX0_loans 3 (some .int) 0 w [.ref (adr w b)] F (QI w (fun z F' => z = lnt r ∧ F = F')) := by
  refine Con.mk (lv := [(0, .ref (adr w b))]) (by decide) (Nat.le_of_ble_eq_true rfl) rfl ?_
  intro pg ev s0 mi be me co C hz
  have hI := hB.iv
  refine q_iconst C 0 dX0_loans_0 ?_
  refine q_istore_n (lv' := [(1, .int (iI 0)), (0, .ref (adr w b))]) C dX0_loans_1 (by decide) rfl ?_
  refine q_iconst C 0 dX0_loans_2 ?_
  refine q_istore_n (lv' := [(2, .int (iI 0)), (1, .int (iI 0)), (0, .ref (adr w b))]) C dX0_loans_3 (by decide) rfl ?_
  refine q_lv (lv' := [(0, .ref (adr w b)), (1, .int (iI 0)), (2, .int (iI 0))]) [2, 1, 0] rfl ?_
  refine wf2 (P := fun (i : Int) (n : Int) => Wq pg l ev _ s0 mi _ be me co _ w _ _ _ 4 [(0, .ref (adr w b)), (1, .int (iI n)), (2, .int (iI i))] [] F) (I := fun (i : Int) (n : Int) => 0 ≤ i ∧ i ≤ 16 ∧ n = sm (fun l => if 0 < r (112 + l) then 1 else 0) i) (μ := fun (i : Int) (n : Int) => (16 - i).toNat) ?_ 0 0 (⟨by omega, by omega, rfl⟩)
  intro i n hI' ih4
  (try dsimp only at hI'); (try dsimp only at ih4); (try dsimp only)
  obtain ⟨hi0, hi1, hi2⟩ := hI'
  refine q_iload_n C 2 dX0_loans_4 rfl ?_
  refine q_aload_n C 0 dX0_loans_5 rfl ?_
  refine q_get (T := TX0) (i := 3) C hb.k0 (by decide) rfl uws0 (by decide) wd_46 rfl dX0_loans_6 ?_
  refine q_alen (N := 16) C (by rw [hb.k4]; decide) hb.n4 dX0_loans_9 ?_
  refine q_icmp_ge C 32 dX0_loans_10 ⟨by omega, by omega⟩ ⟨by decide, by decide⟩ (by decide) (fun h10 => ?_) (fun h10 => ?_)
  · refine q_iload_n C 1 dX0_loans_32 rfl ?_
    refine q_iret C dX0_loans_33 ?_
    exact ⟨by rw [hi2, show i = 16 by omega]; rfl, rfl⟩
  · refine q_aload_n C 0 dX0_loans_13 rfl ?_
    refine q_get (T := TX0) (i := 3) C hb.k0 (by decide) rfl uws0 (by decide) wd_46 rfl dX0_loans_14 ?_
    refine q_iload_n C 2 dX0_loans_17 rfl ?_
    refine q_iald C hb.k4 ⟨by omega, by rw [hb.n4]; omega⟩ dX0_loans_18 ?_
    rw [hB.h4 (x := i) (by omega) (by omega)]
    have qr := hI.ld (l := i) (by omega) (by omega)
    refine q_iconst C (-1) dX0_loans_19 ?_
    refine q_icmp_eq C 26 dX0_loans_20 ⟨by omega, by omega⟩ ⟨by decide, by decide⟩ (by decide) (fun h20 => ?_) (fun h20 => ?_)
    · refine q_iinc (lv' := [(2, .int (iI (i + 1))), (0, .ref (adr w b)), (1, .int (iI n))]) C 2 dX0_loans_26 rfl (by decide) rfl ?_
      refine q_goto C 4 dX0_loans_29 (by decide) ?_
      refine q_lv (lv' := [(0, .ref (adr w b)), (1, .int (iI n)), (2, .int (iI (i + 1)))]) [1, 2, 0] rfl ?_
      exact ih4 (i + 1) n (⟨by omega, by omega, by rw [sm_s hi0, hi2]; split <;> omega⟩) (by omega)
    · refine q_iinc (lv' := [(1, .int (iI (n + 1))), (0, .ref (adr w b)), (2, .int (iI i))]) C 1 dX0_loans_23 rfl (by decide) rfl ?_
      refine q_iinc (lv' := [(2, .int (iI (i + 1))), (1, .int (iI (n + 1))), (0, .ref (adr w b))]) C 2 dX0_loans_26 rfl (by decide) rfl ?_
      refine q_goto C 4 dX0_loans_29 (by decide) ?_
      refine q_lv (lv' := [(0, .ref (adr w b)), (1, .int (iI (n + 1))), (2, .int (iI (i + 1)))]) [2, 1, 0] rfl ?_
      exact ih4 (i + 1) (n + 1) (⟨by omega, by omega, by rw [sm_s hi0, hi2]; split <;> omega⟩) (by omega)

set_option maxRecDepth 100000 in
set_option maxHeartbeats 4000000 in
theorem k_X0_doorOfThief (l : Launch) {w : WP} {F : FF} {b : Nat} {r : Rw} (hb : IsB b) (hB : BI F b r)  : Con l yX0_doorOfThief cX0_doorOfThief 5 (some .int) 4 w [.ref (adr w b)] F (QI w (fun z F' => z = tg r ∧ F = F')) := by
  refine Con.mk (lv := [(0, .ref (adr w b))]) (by decide) (Nat.le_of_ble_eq_true rfl) rfl ?_
  intro pg ev s0 mi be me co C hz
  have hI := hB.iv
  refine q_iconst C (-1) dX0_doorOfThief_0 ?_
  refine q_istore_n (lv' := [(1, .int (iI (-1))), (0, .ref (adr w b))]) C dX0_doorOfThief_1 (by decide) rfl ?_
  refine q_iconst C (-1) dX0_doorOfThief_2 ?_
  refine q_istore_n (lv' := [(2, .int (iI (-1))), (1, .int (iI (-1))), (0, .ref (adr w b))]) C dX0_doorOfThief_3 (by decide) rfl ?_
  refine q_iconst C 0 dX0_doorOfThief_4 ?_
  refine q_istore_n (lv' := [(3, .int (iI 0)), (2, .int (iI (-1))), (1, .int (iI (-1))), (0, .ref (adr w b))]) C dX0_doorOfThief_5 (by decide) rfl ?_
  refine q_lv (lv' := [(0, .ref (adr w b)), (1, .int (iI (-1))), (2, .int (iI (-1))), (3, .int (iI 0))]) [3, 2, 1, 0] rfl ?_
  refine wf3 (P := fun (i : Int) (t : Int) (v : Int) => Wq pg l ev _ s0 mi _ be me co _ w _ _ _ 6 [(0, .ref (adr w b)), (1, .int (iI t)), (2, .int (iI v)), (3, .int (iI i))] [] F) (I := fun (i : Int) (t : Int) (v : Int) => 0 ≤ i ∧ i ≤ 4 ∧ t = tgI r i ∧ (t = -1 → v = -1) ∧ (t ≠ -1 → v = dw r t)) (μ := fun (i : Int) (t : Int) (v : Int) => (4 - i).toNat) ?_ 0 (-1) (-1) (⟨by omega, by omega, rfl, fun _ => rfl, fun h => absurd rfl h⟩)
  intro i t v hI' ih6
  (try dsimp only at hI'); (try dsimp only at ih6); (try dsimp only)
  obtain ⟨hi0, hi1, hi2, hi3, hi4⟩ := hI'
  have qt := tgI_range r hi0
  have qv : t ≠ -1 → 0 ≤ dw r t ∧ dw r t ≤ 128 := fun h => dw_range hI (by omega) (by omega)
  refine q_iload_n C 3 dX0_doorOfThief_6 rfl ?_
  refine q_aload_n C 0 dX0_doorOfThief_7 rfl ?_
  refine q_get (T := TX0) (i := 6) C hb.k0 (by decide) rfl uws0 (by decide) wd_49 rfl dX0_doorOfThief_8 ?_
  refine q_alen (N := 4) C (by rw [hb.k7]; decide) hb.n7 dX0_doorOfThief_11 ?_
  refine q_icmp_ge C 56 dX0_doorOfThief_12 ⟨by omega, by omega⟩ ⟨by decide, by decide⟩ (by decide) (fun h12 => ?_) (fun h12 => ?_)
  · refine q_iload_n C 2 dX0_doorOfThief_56 rfl ?_
    refine q_aload_n C 0 dX0_doorOfThief_57 rfl ?_
    refine q_get (T := TX0) (i := 8) C hb.k0 (by decide) rfl uws0 (by decide) wd_51 rfl dX0_doorOfThief_58 ?_
    refine q_iconst C 1 dX0_doorOfThief_61 ?_
    refine q_cI (q_runSN (As := [.ref (adr w (b + 9)), .int (iI 1)]) (rest := [.int (iI v)]) C (k_c9 l hb hB (x := 1) (j := 177) ⟨by omega, by omega⟩ (by omega)) wd_265 wd_264 wd_13 nw_263 nd_X3_cell rfl (by decide) ⟨Nat.zero_le _, Nat.zero_le _⟩ rfl (Nat.le_of_ble_eq_true rfl) dX0_doorOfThief_62) ?_
    rintro z F' ⟨rfl, rfl⟩
    have q62 := hI.se
    refine q_icmp_lt C 72 dX0_doorOfThief_65 ⟨by omega, by omega⟩ ⟨by omega, by omega⟩ (by decide) (fun h65 => ?_) (fun h65 => ?_)
    · refine q_iconst C (-1) dX0_doorOfThief_72 ?_
      refine q_iret C dX0_doorOfThief_73 ?_
      exact ⟨by rw [tg_eq, ← show i = 4 by omega, ← hi2]; first | rw [if_pos ⟨by omega, by omega⟩] | rw [if_neg (by omega)], rfl⟩
    · refine q_iload_n C 1 dX0_doorOfThief_68 rfl ?_
      refine q_goto C 73 dX0_doorOfThief_69 (by decide) ?_
      refine q_iret C dX0_doorOfThief_73 ?_
      exact ⟨by rw [tg_eq, ← show i = 4 by omega, ← hi2]; first | rw [if_pos ⟨by omega, by omega⟩] | rw [if_neg (by omega)], rfl⟩
  · refine q_aload_n C 0 dX0_doorOfThief_15 rfl ?_
    refine q_get (T := TX0) (i := 6) C hb.k0 (by decide) rfl uws0 (by decide) wd_49 rfl dX0_doorOfThief_16 ?_
    refine q_iload_n C 3 dX0_doorOfThief_19 rfl ?_
    refine q_iald C hb.k7 ⟨by omega, by rw [hb.n7]; omega⟩ dX0_doorOfThief_20 ?_
    rw [hB.h7 (x := i) (by omega) (by omega)]
    have qr := hI.wt (d := i) (by omega) (by omega)
    refine q_if_ne C 50 dX0_doorOfThief_21 ⟨by omega, by omega⟩  (by decide) (fun h21 => ?_) (fun h21 => ?_)
    · refine q_iinc (lv' := [(3, .int (iI (i + 1))), (0, .ref (adr w b)), (1, .int (iI t)), (2, .int (iI v))]) C 3 dX0_doorOfThief_50 rfl (by decide) rfl ?_
      refine q_goto C 6 dX0_doorOfThief_53 (by decide) ?_
      refine q_lv (lv' := [(0, .ref (adr w b)), (1, .int (iI t)), (2, .int (iI v)), (3, .int (iI (i + 1)))]) [1, 2, 3, 0] rfl ?_
      exact ih6 (i + 1) t v (⟨by omega, by omega, by rw [tgI_s hi0]; rw [← hi2]; first | rw [if_pos ⟨by omega, by assumption, by omega⟩] | rw [if_neg (by omega)], by omega, by first | exact hi4 | exact fun _ => rfl⟩) (by omega)
    · refine q_aload_n C 0 dX0_doorOfThief_24 rfl ?_
      refine q_iload_n C 3 dX0_doorOfThief_25 rfl ?_
      refine q_cI (q_runV (As := [.int (iI i)]) (rest := []) C (k_X0_wordsOfDoor l hb hB ⟨by omega, by omega⟩) hb.k0 (by decide) rfl wd_396 wd_394 wd_395 wd_14 wd_393 nd_X0_wordsOfDoor rfl (by decide) ⟨Nat.zero_le _, Nat.zero_le _⟩ rfl (Nat.le_of_ble_eq_true rfl) dX0_doorOfThief_26) ?_
      rintro z F' ⟨rfl, rfl⟩
      have q26 := dwo_range hI (d := i) (by omega) (by omega)
      refine q_if_le C 50 dX0_doorOfThief_29 ⟨by omega, by omega⟩  (by decide) (fun h29 => ?_) (fun h29 => ?_)
      · refine q_iinc (lv' := [(3, .int (iI (i + 1))), (0, .ref (adr w b)), (1, .int (iI t)), (2, .int (iI v))]) C 3 dX0_doorOfThief_50 rfl (by decide) rfl ?_
        refine q_goto C 6 dX0_doorOfThief_53 (by decide) ?_
        refine q_lv (lv' := [(0, .ref (adr w b)), (1, .int (iI t)), (2, .int (iI v)), (3, .int (iI (i + 1)))]) [1, 2, 3, 0] rfl ?_
        exact ih6 (i + 1) t v (⟨by omega, by omega, by rw [tgI_s hi0]; rw [← hi2]; first | rw [if_pos ⟨by omega, by assumption, by omega⟩] | rw [if_neg (by omega)], by omega, by first | exact hi4 | exact fun _ => rfl⟩) (by omega)
      · refine q_aload_n C 0 dX0_doorOfThief_32 rfl ?_
        refine q_iload_n C 3 dX0_doorOfThief_33 rfl ?_
        refine q_cI (q_runV (As := [.int (iI i)]) (rest := []) C (k_X0_worthOfDoor l hb hB ⟨by omega, by omega⟩) hb.k0 (by decide) rfl wd_388 wd_386 wd_387 wd_14 wd_385 nd_X0_worthOfDoor rfl (by decide) ⟨Nat.zero_le _, Nat.zero_le _⟩ rfl (Nat.le_of_ble_eq_true rfl) dX0_doorOfThief_34) ?_
        rintro z F' ⟨rfl, rfl⟩
        have q34 := dw_range hI (d := i) (by omega) (by omega)
        refine q_istore (lv' := [(4, .int (iI (dw r i))), (0, .ref (adr w b)), (1, .int (iI t)), (2, .int (iI v)), (3, .int (iI i))]) C dX0_doorOfThief_37 (by decide) rfl ?_
        refine q_iload C 0 dX0_doorOfThief_39 rfl ?_
        refine q_iload_n C 3 dX0_doorOfThief_41 rfl ?_
        refine q_icmp_le C 50 dX0_doorOfThief_42 ⟨by omega, by omega⟩ ⟨by omega, by omega⟩ (by decide) (fun h42 => ?_) (fun h42 => ?_)
        · refine q_iinc (lv' := [(3, .int (iI (i + 1))), (4, .int (iI (dw r i))), (0, .ref (adr w b)), (1, .int (iI t)), (2, .int (iI v))]) C 4 dX0_doorOfThief_50 rfl (by decide) rfl ?_
          refine q_goto C 6 dX0_doorOfThief_53 (by decide) ?_
          refine q_lv (lv' := [(0, .ref (adr w b)), (1, .int (iI t)), (2, .int (iI v)), (3, .int (iI (i + 1)))]) [2, 3, 4, 0] rfl ?_
          exact ih6 (i + 1) t v (⟨by omega, by omega, by rw [tgI_s hi0]; rw [← hi2]; first | rw [if_pos ⟨by omega, by assumption, by omega⟩] | rw [if_neg (by omega)], by omega, by first | exact hi4 | exact fun _ => rfl⟩) (by omega)
        · refine q_iload_n C 4 dX0_doorOfThief_45 rfl ?_
          refine q_istore_n (lv' := [(1, .int (iI i)), (4, .int (iI (dw r i))), (0, .ref (adr w b)), (2, .int (iI v)), (3, .int (iI i))]) C dX0_doorOfThief_46 (by decide) rfl ?_
          refine q_iload C 1 dX0_doorOfThief_47 rfl ?_
          refine q_istore_n (lv' := [(2, .int (iI (dw r i))), (1, .int (iI i)), (4, .int (iI (dw r i))), (0, .ref (adr w b)), (3, .int (iI i))]) C dX0_doorOfThief_49 (by decide) rfl ?_
          refine q_iinc (lv' := [(3, .int (iI (i + 1))), (2, .int (iI (dw r i))), (1, .int (iI i)), (4, .int (iI (dw r i))), (0, .ref (adr w b))]) C 4 dX0_doorOfThief_50 rfl (by decide) rfl ?_
          refine q_goto C 6 dX0_doorOfThief_53 (by decide) ?_
          refine q_lv (lv' := [(0, .ref (adr w b)), (1, .int (iI i)), (2, .int (iI (dw r i))), (3, .int (iI (i + 1)))]) [4, 2, 1, 0] rfl ?_
          exact ih6 (i + 1) i (dw r i) (⟨by omega, by omega, by rw [tgI_s hi0]; rw [← hi2]; first | rw [if_pos ⟨by omega, by assumption, by omega⟩] | rw [if_neg (by omega)], by omega, by first | exact hi4 | exact fun _ => rfl⟩) (by omega)

set_option maxRecDepth 100000 in
set_option maxHeartbeats 4000000 in
theorem k_X0_preyOn (l : Launch) {w : WP} {F : FF} {b : Nat} {r : Rw} {d : Int} (hb : IsB b) (hB : BI F b r) (hd : 0 ≤ d ∧ d < 4) : Con l yX0_preyOn cX0_preyOn 8 (some .int) 1 w [.ref (adr w b), .int (iI d)] F (QI w (fun z F' => z = pon r d ∧ F = F')) := by
  refine Con.mk (lv := [(0, .ref (adr w b)), (1, .int (iI d))]) (by decide) (Nat.le_of_ble_eq_true rfl) rfl ?_
  intro pg ev s0 mi be me co C hz
  have hI := hB.iv
  refine q_iconst C (-1) dX0_preyOn_0 ?_
  refine q_istore_n (lv' := [(2, .int (iI (-1))), (0, .ref (adr w b)), (1, .int (iI d))]) C dX0_preyOn_1 (by decide) rfl ?_
  refine q_iconst C 0 dX0_preyOn_2 ?_
  refine q_istore_n (lv' := [(3, .int (iI 0)), (2, .int (iI (-1))), (0, .ref (adr w b)), (1, .int (iI d))]) C dX0_preyOn_3 (by decide) rfl ?_
  refine q_iconst C 3 dX0_preyOn_4 ?_
  refine q_istore (lv' := [(4, .int (iI 3)), (3, .int (iI 0)), (2, .int (iI (-1))), (0, .ref (adr w b)), (1, .int (iI d))]) C dX0_preyOn_5 (by decide) rfl ?_
  refine q_lv (lv' := [(0, .ref (adr w b)), (1, .int (iI d)), (2, .int (iI (-1))), (3, .int (iI 0)), (4, .int (iI 3))]) [3, 4, 2, 1, 0] rfl ?_
  refine wf3 (P := fun (i : Int) (t : Int) (v : Int) => Wq pg l ev _ s0 mi _ be me co _ w _ _ _ 7 [(0, .ref (adr w b)), (1, .int (iI d)), (2, .int (iI t)), (3, .int (iI v)), (4, .int (iI i))] [] F) (I := fun (i : Int) (t : Int) (v : Int) => -1 ≤ i ∧ i ≤ 3 ∧ t = ponI r d (3 - i) ∧ (t = -1 → v = 0) ∧ (t ≠ -1 → v = bt t)) (μ := fun (i : Int) (t : Int) (v : Int) => (i + 1).toNat) ?_ 3 (-1) 0 (⟨by omega, by omega, rfl, fun _ => rfl, fun h => absurd rfl h⟩)
  intro i t v hI' ih7
  (try dsimp only at hI'); (try dsimp only at ih7); (try dsimp only)
  obtain ⟨hi0, hi1, hi2, hi3, hi4⟩ := hI'
  have qt := ponI_range hI hd (i := 3 - i) (by omega)
  refine q_iload C 4 dX0_preyOn_7 rfl ?_
  refine q_if_lt C 77 dX0_preyOn_9 ⟨by omega, by omega⟩  (by decide) (fun h9 => ?_) (fun h9 => ?_)
  · refine q_iload_n C 2 dX0_preyOn_77 rfl ?_
    refine q_iret C dX0_preyOn_78 ?_
    exact ⟨by rw [hi2, show 3 - i = 4 by omega]; rfl, rfl⟩
  · refine q_iload_n C 1 dX0_preyOn_12 rfl ?_
    refine q_iload C 4 dX0_preyOn_13 rfl ?_
    refine q_cI (q_runSN (As := [.int (iI d), .int (iI i)]) (rest := []) C (k_X3_lineNumber l) wd_308 wd_307 wd_13 nw_339 nd_X3_lineNumber rfl (by decide) ⟨Nat.zero_le _, Nat.zero_le _⟩ rfl (Nat.le_of_ble_eq_true rfl) dX0_preyOn_15) ?_
    rintro z F' ⟨rfl, rfl⟩
    refine q_istore (lv' := [(5, .int (iI (4 * d + i))), (0, .ref (adr w b)), (1, .int (iI d)), (2, .int (iI t)), (3, .int (iI v)), (4, .int (iI i))]) C dX0_preyOn_18 (by decide) rfl ?_
    refine q_iconst C 0 dX0_preyOn_20 ?_
    refine q_istore (lv' := [(6, .int (iI 0)), (5, .int (iI (4 * d + i))), (0, .ref (adr w b)), (1, .int (iI d)), (2, .int (iI t)), (3, .int (iI v)), (4, .int (iI i))]) C dX0_preyOn_21 (by decide) rfl ?_
    refine q_lv (lv' := [(0, .ref (adr w b)), (1, .int (iI d)), (2, .int (iI t)), (3, .int (iI v)), (4, .int (iI i)), (5, .int (iI (4 * d + i))), (6, .int (iI 0))]) [2, 3, 4, 5, 6, 1, 0] rfl ?_
    have qs := hI.sz (l := 4 * d + i) (by omega) (by omega)
    refine wf3 (P := fun (j : Int) (t2 : Int) (v2 : Int) => Wq pg l ev _ s0 mi _ be me co _ w _ _ _ 23 [(0, .ref (adr w b)), (1, .int (iI d)), (2, .int (iI t2)), (3, .int (iI v2)), (4, .int (iI i)), (5, .int (iI (4 * d + i))), (6, .int (iI j))] [] F) (I := fun (j : Int) (t2 : Int) (v2 : Int) => 0 ≤ j ∧ j ≤ r (4 * d + i) ∧ t2 = pinI r (4 * d + i) t j ∧ (t2 = -1 → v2 = 0) ∧ (t2 ≠ -1 → v2 = bt t2)) (μ := fun (j : Int) (t2 : Int) (v2 : Int) => (r (4 * d + i) - j).toNat) ?_ 0 t v (⟨by omega, by omega, rfl, hi3, hi4⟩)
    intro j t2 v2 hI' ih23
    (try dsimp only at hI'); (try dsimp only at ih23); (try dsimp only)
    obtain ⟨hk0, hk1, hk2, hk3, hk4⟩ := hI'
    have qp := pinI_range hI (l := 4 * d + i) (b := t) (i := j) (by omega) (by omega) hk1
    have qv2 : t2 ≠ -1 → 1 ≤ bt t2 ∧ bt t2 ≤ 3 := fun h => bt_pos (by omega)
    refine q_iload C 6 dX0_preyOn_23 rfl ?_
    refine q_aload_n C 0 dX0_preyOn_25 rfl ?_
    refine q_get (T := TX0) (i := 2) C hb.k0 (by decide) rfl uws0 (by decide) wd_45 rfl dX0_preyOn_26 ?_
    refine q_iload C 5 dX0_preyOn_29 rfl ?_
    refine q_cI (q_runSN (As := [.ref (adr w (b + 3)), .int (iI (4 * d + i))]) (rest := [.int (iI j)]) C (k_c3 l hb hB (x := 4 * d + i) ⟨by omega, by omega⟩) wd_265 wd_264 wd_13 nw_263 nd_X3_cell rfl (by decide) ⟨Nat.zero_le _, Nat.zero_le _⟩ rfl (Nat.le_of_ble_eq_true rfl) dX0_preyOn_31) ?_
    rintro z F' ⟨rfl, rfl⟩
    have q31 := hI.sz (l := 4 * d + i) (by omega) (by omega)
    refine q_icmp_ge C 71 dX0_preyOn_34 ⟨by omega, by omega⟩ ⟨by omega, by omega⟩ (by decide) (fun h34 => ?_) (fun h34 => ?_)
    · refine q_iinc (lv' := [(4, .int (iI (i + (-1)))), (0, .ref (adr w b)), (1, .int (iI d)), (2, .int (iI t2)), (3, .int (iI v2)), (5, .int (iI (4 * d + i))), (6, .int (iI j))]) C 4 dX0_preyOn_71 rfl (by decide) rfl ?_
      refine q_goto C 7 dX0_preyOn_74 (by decide) ?_
      refine q_lv (lv' := [(0, .ref (adr w b)), (1, .int (iI d)), (2, .int (iI t2)), (3, .int (iI v2)), (4, .int (iI (i + (-1))))]) [1, 2, 3, 4, 0] rfl ?_
      exact ih7 (i + (-1)) t2 v2 (⟨by omega, by omega, by rw [show 3 - (i + (-1)) = (3 - i) + 1 by omega, ponI_s (by omega), show 4 * d + 3 - (3 - i) = 4 * d + i by omega, ← hi2, hk2, show j = r (4 * d + i) by omega], hk3, hk4⟩) (by omega)
    · refine q_aload_n C 0 dX0_preyOn_37 rfl ?_
      refine q_iload C 5 dX0_preyOn_38 rfl ?_
      refine q_iload C 6 dX0_preyOn_40 rfl ?_
      refine q_cI (q_runV (As := [.int (iI (4 * d + i)), .int (iI j)]) (rest := []) C (k_wat_in l hb hB (x := 4 * d + i) (p := j) ⟨by omega, by omega⟩ ⟨by omega, by omega⟩) hb.k0 (by decide) rfl wd_282 wd_280 wd_281 wd_14 wd_279 nd_X0_wordAt rfl (by decide) ⟨Nat.zero_le _, Nat.zero_le _⟩ rfl (Nat.le_of_ble_eq_true rfl) dX0_preyOn_42) ?_
      rintro z F' ⟨rfl, rfl⟩
      have q42 := hI.wd (l := 4 * d + i) (p := j) (by omega) (by omega) (by omega) (by omega)
      refine q_istore (lv' := [(7, .int (iI (wa r (4 * d + i) j))), (0, .ref (adr w b)), (1, .int (iI d)), (2, .int (iI t2)), (3, .int (iI v2)), (4, .int (iI i)), (5, .int (iI (4 * d + i))), (6, .int (iI j))]) C dX0_preyOn_45 (by decide) rfl ?_
      refine q_iload C 0 dX0_preyOn_47 rfl ?_
      refine q_cI (q_runSN (As := [.int (iI (wa r (4 * d + i) j))]) (rest := []) C (k_X3_beatsOf l (by omega)) wd_274 wd_273 wd_13 nw_272 nd_X3_beatsOf rfl (by decide) ⟨Nat.zero_le _, Nat.zero_le _⟩ rfl (Nat.le_of_ble_eq_true rfl) dX0_preyOn_49) ?_
      rintro z F' ⟨rfl, rfl⟩
      have q49 := bt_pos (x := wa r (4 * d + i) j) (by omega)
      refine q_iload_n C 4 dX0_preyOn_52 rfl ?_
      refine q_icmp_le C 65 dX0_preyOn_53 ⟨by omega, by omega⟩ ⟨by omega, by omega⟩ (by decide) (fun h53 => ?_) (fun h53 => ?_)
      · refine q_iinc (lv' := [(6, .int (iI (j + 1))), (7, .int (iI (wa r (4 * d + i) j))), (0, .ref (adr w b)), (1, .int (iI d)), (2, .int (iI t2)), (3, .int (iI v2)), (4, .int (iI i)), (5, .int (iI (4 * d + i)))]) C 7 dX0_preyOn_65 rfl (by decide) rfl ?_
        refine q_goto C 23 dX0_preyOn_68 (by decide) ?_
        refine q_lv (lv' := [(0, .ref (adr w b)), (1, .int (iI d)), (2, .int (iI t2)), (3, .int (iI v2)), (4, .int (iI i)), (5, .int (iI (4 * d + i))), (6, .int (iI (j + 1)))]) [2, 3, 4, 5, 6, 7, 0] rfl ?_
        exact ih23 (j + 1) t2 v2 (⟨by omega, by omega, by rw [pinI_s hk0]; rw [← hk2]; first | rw [if_pos (by omega)] | rw [if_neg (by omega)], by omega, by first | exact hk4 | exact fun _ => rfl⟩) (by omega)
      · refine q_iload C 0 dX0_preyOn_56 rfl ?_
        refine q_istore_n (lv' := [(2, .int (iI (wa r (4 * d + i) j))), (7, .int (iI (wa r (4 * d + i) j))), (0, .ref (adr w b)), (1, .int (iI d)), (3, .int (iI v2)), (4, .int (iI i)), (5, .int (iI (4 * d + i))), (6, .int (iI j))]) C dX0_preyOn_58 (by decide) rfl ?_
        refine q_iload C 1 dX0_preyOn_59 rfl ?_
        refine q_cI (q_runSN (As := [.int (iI (wa r (4 * d + i) j))]) (rest := []) C (k_X3_beatsOf l (by omega)) wd_274 wd_273 wd_13 nw_272 nd_X3_beatsOf rfl (by decide) ⟨Nat.zero_le _, Nat.zero_le _⟩ rfl (Nat.le_of_ble_eq_true rfl) dX0_preyOn_61) ?_
        rintro z F' ⟨rfl, rfl⟩
        have q61 := bt_pos (x := wa r (4 * d + i) j) (by omega)
        refine q_istore_n (lv' := [(3, .int (iI (bt (wa r (4 * d + i) j)))), (2, .int (iI (wa r (4 * d + i) j))), (7, .int (iI (wa r (4 * d + i) j))), (0, .ref (adr w b)), (1, .int (iI d)), (4, .int (iI i)), (5, .int (iI (4 * d + i))), (6, .int (iI j))]) C dX0_preyOn_64 (by decide) rfl ?_
        refine q_iinc (lv' := [(6, .int (iI (j + 1))), (3, .int (iI (bt (wa r (4 * d + i) j)))), (2, .int (iI (wa r (4 * d + i) j))), (7, .int (iI (wa r (4 * d + i) j))), (0, .ref (adr w b)), (1, .int (iI d)), (4, .int (iI i)), (5, .int (iI (4 * d + i)))]) C 7 dX0_preyOn_65 rfl (by decide) rfl ?_
        refine q_goto C 23 dX0_preyOn_68 (by decide) ?_
        refine q_lv (lv' := [(0, .ref (adr w b)), (1, .int (iI d)), (2, .int (iI (wa r (4 * d + i) j))), (3, .int (iI (bt (wa r (4 * d + i) j)))), (4, .int (iI i)), (5, .int (iI (4 * d + i))), (6, .int (iI (j + 1)))]) [4, 5, 2, 1, 6, 7, 0] rfl ?_
        exact ih23 (j + 1) (wa r (4 * d + i) j) (bt (wa r (4 * d + i) j)) (⟨by omega, by omega, by rw [pinI_s hk0]; rw [← hk2]; first | rw [if_pos (by omega)] | rw [if_neg (by omega)], by omega, by first | exact hk4 | exact fun _ => rfl⟩) (by omega)

set_option maxRecDepth 100000 in
set_option maxHeartbeats 4000000 in
theorem k_X0_nextPrey (l : Launch) {w : WP} {F : FF} {b : Nat} {r : Rw} (hb : IsB b) (hB : BI F b r)  : Con l yX0_nextPrey cX0_nextPrey 2 (some .int) 5 w [.ref (adr w b)] F (QI w (fun z F' => z = py r ∧ F = F')) := by
  refine Con.mk (lv := [(0, .ref (adr w b))]) (by decide) (Nat.le_of_ble_eq_true rfl) rfl ?_
  intro pg ev s0 mi be me co C hz
  have hI := hB.iv
  refine q_aload_n C 0 dX0_nextPrey_0 rfl ?_
  refine q_cI (q_runV (As := []) (rest := []) C (k_X0_doorOfThief l hb hB ) hb.k0 (by decide) rfl wd_486 wd_485 wd_6 wd_14 wd_483 nd_X0_doorOfThief rfl (by decide) ⟨Nat.zero_le _, Nat.zero_le _⟩ rfl (Nat.le_of_ble_eq_true rfl) dX0_nextPrey_1) ?_
  rintro z F' ⟨rfl, rfl⟩
  have q1 := tg_range r
  refine q_istore_n (lv' := [(1, .int (iI (tg r))), (0, .ref (adr w b))]) C dX0_nextPrey_4 (by decide) rfl ?_
  refine q_iload_n C 0 dX0_nextPrey_5 rfl ?_
  refine q_iconst C (-1) dX0_nextPrey_6 ?_
  refine q_icmp_ne C 14 dX0_nextPrey_7 ⟨by omega, by omega⟩ ⟨by decide, by decide⟩ (by decide) (fun h7 => ?_) (fun h7 => ?_)
  · refine q_aload_n C 1 dX0_nextPrey_14 rfl ?_
    refine q_iload_n C 0 dX0_nextPrey_15 rfl ?_
    refine q_cI (q_runV (As := [.int (iI (tg r))]) (rest := []) C (k_X0_preyOn l hb hB ⟨by omega, by omega⟩) hb.k0 (by decide) rfl wd_490 wd_489 wd_7 wd_14 wd_487 nd_X0_preyOn rfl (by decide) ⟨Nat.zero_le _, Nat.zero_le _⟩ rfl (Nat.le_of_ble_eq_true rfl) dX0_nextPrey_16) ?_
    rintro z F' ⟨rfl, rfl⟩
    have q16 := pon_range hI (d := tg r) ⟨by omega, by omega⟩
    refine q_iret C dX0_nextPrey_19 ?_
    exact ⟨by unfold py; first | rw [if_pos (by assumption)] | rw [if_neg (by assumption)], rfl⟩
  · refine q_iconst C (-1) dX0_nextPrey_10 ?_
    refine q_goto C 19 dX0_nextPrey_11 (by decide) ?_
    refine q_iret C dX0_nextPrey_19 ?_
    exact ⟨by unfold py; first | rw [if_pos (by assumption)] | rw [if_neg (by assumption)], rfl⟩

set_option maxRecDepth 100000 in
set_option maxHeartbeats 4000000 in
theorem k_X0_settingValue (l : Launch) {w : WP} {F : FF} {b : Nat} {r : Rw} {x : Int} (hb : IsB b) (hB : BI F b r) (hx : 0 ≤ x ∧ x < 3) : Con l yX0_settingValue cX0_settingValue 2 (some .int) 1 w [.ref (adr w b), .int (iI x)] F (QI w (fun z F' => z = r (176 + x) ∧ F = F')) := by
  refine Con.mk (lv := [(0, .ref (adr w b)), (1, .int (iI x))]) (by decide) (Nat.le_of_ble_eq_true rfl) rfl ?_
  intro pg ev s0 mi be me co C hz
  have hI := hB.iv
  refine q_aload_n C 0 dX0_settingValue_0 rfl ?_
  refine q_get (T := TX0) (i := 8) C hb.k0 (by decide) rfl uws0 (by decide) wd_51 rfl dX0_settingValue_1 ?_
  refine q_iload_n C 1 dX0_settingValue_4 rfl ?_
  refine q_cI (q_runSN (As := [.ref (adr w (b + 9)), .int (iI x)]) (rest := []) C (k_c9 l hb hB (x := x) (j := 176 + x) ⟨by omega, by omega⟩ (by omega)) wd_265 wd_264 wd_13 nw_263 nd_X3_cell rfl (by decide) ⟨Nat.zero_le _, Nat.zero_le _⟩ rfl (Nat.le_of_ble_eq_true rfl) dX0_settingValue_5) ?_
  rintro z F' ⟨rfl, rfl⟩
  have q5 := hI.se
  refine q_iret C dX0_settingValue_8 ?_
  exact ⟨rfl, rfl⟩

set_option maxRecDepth 100000 in
set_option maxHeartbeats 4000000 in
theorem k_X0_wordProperty (l : Launch) {w : WP} {F : FF} {b : Nat} {r : Rw} {x k : Int} (hb : IsB b) (hB : BI F b r) (hx : 0 ≤ x ∧ x < 40) (hk : 0 ≤ k ∧ k < 7) : Con l yX0_wordProperty cX0_wordProperty 4 (some .int) 2 w [.ref (adr w b), .int (iI x), .int (iI k)] F (QI w (fun z F' => z = wpr r x k ∧ F = F')) := by
  refine Con.mk (lv := [(0, .ref (adr w b)), (1, .int (iI x)), (2, .int (iI k))]) (by decide) (Nat.le_of_ble_eq_true rfl) rfl ?_
  intro pg ev s0 mi be me co C hz
  have hI := hB.iv
  refine q_aload_n C 0 dX0_wordProperty_0 rfl ?_
  refine q_get (T := TX0) (i := 0) C hb.k0 (by decide) rfl uws0 (by decide) wd_43 rfl dX0_wordProperty_1 ?_
  refine q_iload_n C 1 dX0_wordProperty_4 rfl ?_
  refine q_cI (q_runSN (As := [.ref (adr w (b + 1)), .int (iI x)]) (rest := []) C (k_c1 l hb hB (x := x) ⟨by omega, by omega⟩) wd_265 wd_264 wd_13 nw_263 nd_X3_cell rfl (by decide) ⟨Nat.zero_le _, Nat.zero_le _⟩ rfl (Nat.le_of_ble_eq_true rfl) dX0_wordProperty_5) ?_
  rintro z F' ⟨rfl, rfl⟩
  have q5 := home_range r x
  refine q_istore_n (lv' := [(3, .int (iI (home r x))), (0, .ref (adr w b)), (1, .int (iI x)), (2, .int (iI k))]) C dX0_wordProperty_8 (by decide) rfl ?_
  refine q_iload_n C 3 dX0_wordProperty_9 rfl ?_
  rcases (show k = 0 ∨ k = 1 ∨ k = 2 ∨ k = 3 ∨ k = 4 ∨ k = 5 ∨ (k < 0 ∨ 5 < k) by omega) with hsw | hsw | hsw | hsw | hsw | hsw | hsw
  · refine q_tableIn C 48 dX0_wordProperty_10 ⟨by omega, by omega⟩ (by omega) (by omega) (by rw [hsw]; rfl) (by decide) ?_
    refine q_iload_n C 2 dX0_wordProperty_48 rfl ?_
    refine q_cI (q_runSN (As := [.int (iI x)]) (rest := []) C (k_X3_kindOf l (by omega)) wd_268 wd_267 wd_13 nw_266 nd_X3_kindOf rfl (by decide) ⟨Nat.zero_le _, Nat.zero_le _⟩ rfl (Nat.le_of_ble_eq_true rfl) dX0_wordProperty_49) ?_
    rintro z F' ⟨rfl, rfl⟩
    have q49 := kn_pos (x := x) (by omega)
    refine q_iret C dX0_wordProperty_52 ?_
    exact ⟨by rw [show k = _ from hsw]; rfl, rfl⟩
  · refine q_tableIn C 53 dX0_wordProperty_10 ⟨by omega, by omega⟩ (by omega) (by omega) (by rw [hsw]; rfl) (by decide) ?_
    refine q_iload_n C 2 dX0_wordProperty_53 rfl ?_
    refine q_cI (q_runSN (As := [.int (iI x)]) (rest := []) C (k_X3_endingOf l (by omega)) wd_271 wd_270 wd_13 nw_269 nd_X3_endingOf rfl (by decide) ⟨Nat.zero_le _, Nat.zero_le _⟩ rfl (Nat.le_of_ble_eq_true rfl) dX0_wordProperty_54) ?_
    rintro z F' ⟨rfl, rfl⟩
    have q54 := en_pos (x := x) (by omega)
    refine q_iret C dX0_wordProperty_57 ?_
    exact ⟨by rw [show k = _ from hsw]; rfl, rfl⟩
  · refine q_tableIn C 58 dX0_wordProperty_10 ⟨by omega, by omega⟩ (by omega) (by omega) (by rw [hsw]; rfl) (by decide) ?_
    refine q_iload_n C 2 dX0_wordProperty_58 rfl ?_
    refine q_cI (q_runSN (As := [.int (iI x)]) (rest := []) C (k_X3_beatsOf l (by omega)) wd_274 wd_273 wd_13 nw_272 nd_X3_beatsOf rfl (by decide) ⟨Nat.zero_le _, Nat.zero_le _⟩ rfl (Nat.le_of_ble_eq_true rfl) dX0_wordProperty_59) ?_
    rintro z F' ⟨rfl, rfl⟩
    have q59 := bt_pos (x := x) (by omega)
    refine q_iret C dX0_wordProperty_62 ?_
    exact ⟨by rw [show k = _ from hsw]; rfl, rfl⟩
  · refine q_tableIn C 63 dX0_wordProperty_10 ⟨by omega, by omega⟩ (by omega) (by omega) (by rw [hsw]; rfl) (by decide) ?_
    refine q_iload_n C 0 dX0_wordProperty_63 rfl ?_
    refine q_iconst C (-1) dX0_wordProperty_64 ?_
    refine q_icmp_ne C 72 dX0_wordProperty_65 ⟨by omega, by omega⟩ ⟨by decide, by decide⟩ (by decide) (fun h65 => ?_) (fun h65 => ?_)
    · refine q_iload_n C 0 dX0_wordProperty_72 rfl ?_
      refine q_iconst C 4 dX0_wordProperty_73 ?_
      refine q_idiv C dX0_wordProperty_74 ⟨by omega, by omega⟩ ⟨by decide, by decide⟩ ?_
      refine q_iret C dX0_wordProperty_75 ?_
      exact ⟨by rw [show k = _ from hsw]; show _ = if home r x = -1 then _ else _; first | rw [if_pos (by assumption)] | rw [if_neg (by assumption)], rfl⟩
    · refine q_iconst C (-1) dX0_wordProperty_68 ?_
      refine q_goto C 75 dX0_wordProperty_69 (by decide) ?_
      refine q_iret C dX0_wordProperty_75 ?_
      exact ⟨by rw [show k = _ from hsw]; show _ = if home r x = -1 then _ else _; first | rw [if_pos (by assumption)] | rw [if_neg (by assumption)], rfl⟩
  · refine q_tableIn C 76 dX0_wordProperty_10 ⟨by omega, by omega⟩ (by omega) (by omega) (by rw [hsw]; rfl) (by decide) ?_
    refine q_iload_n C 0 dX0_wordProperty_76 rfl ?_
    refine q_iconst C (-1) dX0_wordProperty_77 ?_
    refine q_icmp_ne C 85 dX0_wordProperty_78 ⟨by omega, by omega⟩ ⟨by decide, by decide⟩ (by decide) (fun h78 => ?_) (fun h78 => ?_)
    · refine q_iload_n C 0 dX0_wordProperty_85 rfl ?_
      refine q_iconst C 4 dX0_wordProperty_86 ?_
      refine q_irem C dX0_wordProperty_87 ⟨by omega, by omega⟩ ⟨by decide, by decide⟩ ?_
      refine q_iret C dX0_wordProperty_88 ?_
      exact ⟨by rw [show k = _ from hsw]; show _ = if home r x = -1 then _ else _; first | rw [if_pos (by assumption)] | rw [if_neg (by assumption)], rfl⟩
    · refine q_iconst C (-1) dX0_wordProperty_81 ?_
      refine q_goto C 88 dX0_wordProperty_82 (by decide) ?_
      refine q_iret C dX0_wordProperty_88 ?_
      exact ⟨by rw [show k = _ from hsw]; show _ = if home r x = -1 then _ else _; first | rw [if_pos (by assumption)] | rw [if_neg (by assumption)], rfl⟩
  · refine q_tableIn C 89 dX0_wordProperty_10 ⟨by omega, by omega⟩ (by omega) (by omega) (by rw [hsw]; rfl) (by decide) ?_
    refine q_aload_n C 1 dX0_wordProperty_89 rfl ?_
    refine q_iload_n C 2 dX0_wordProperty_90 rfl ?_
    refine q_cI (q_runV (As := [.int (iI x)]) (rest := []) C (k_X0_placeOf l hb hB ⟨by omega, by omega⟩) hb.k0 (by decide) rfl wd_278 wd_276 wd_277 wd_14 wd_275 nd_X0_placeOf rfl (by decide) ⟨Nat.zero_le _, Nat.zero_le _⟩ rfl (Nat.le_of_ble_eq_true rfl) dX0_wordProperty_91) ?_
    rintro z F' ⟨rfl, rfl⟩
    have q91 := plc_range hI (x := x)
    refine q_iret C dX0_wordProperty_94 ?_
    exact ⟨by rw [show k = _ from hsw]; rfl, rfl⟩
  · refine q_tableOut C 95 dX0_wordProperty_10 ⟨by omega, by omega⟩ hsw (by decide) ?_
    refine q_aload_n C 1 dX0_wordProperty_95 rfl ?_
    refine q_get (T := TX0) (i := 5) C hb.k0 (by decide) rfl uws0 (by decide) wd_48 rfl dX0_wordProperty_96 ?_
    refine q_iload_n C 2 dX0_wordProperty_99 rfl ?_
    refine q_cI (q_runSN (As := [.ref (adr w (b + 6)), .int (iI x)]) (rest := []) C (k_c6 l hb hB (x := x) ⟨by omega, by omega⟩) wd_265 wd_264 wd_13 nw_263 nd_X3_cell rfl (by decide) ⟨Nat.zero_le _, Nat.zero_le _⟩ rfl (Nat.le_of_ble_eq_true rfl) dX0_wordProperty_100) ?_
    rintro z F' ⟨rfl, rfl⟩
    refine q_iret C dX0_wordProperty_103 ?_
    exact ⟨by rw [show k = 6 by omega]; rfl, rfl⟩

set_option maxRecDepth 100000 in
set_option maxHeartbeats 4000000 in
theorem k_X0_lineProperty (l : Launch) {w : WP} {F : FF} {b : Nat} {r : Rw} {x k : Int} (hb : IsB b) (hB : BI F b r) (hl : 0 ≤ x ∧ x < 16) (hk : 0 ≤ k ∧ k < 8) : Con l yX0_lineProperty cX0_lineProperty 3 (some .int) 3 w [.ref (adr w b), .int (iI x), .int (iI k)] F (QI w (fun z F' => z = lpr r x k ∧ F = F')) := by
  refine Con.mk (lv := [(0, .ref (adr w b)), (1, .int (iI x)), (2, .int (iI k))]) (by decide) (Nat.le_of_ble_eq_true rfl) rfl ?_
  intro pg ev s0 mi be me co C hz
  have hI := hB.iv
  refine q_iload_n C 2 dX0_lineProperty_0 rfl ?_
  rcases (show k = 0 ∨ k = 1 ∨ k = 2 ∨ k = 3 ∨ k = 4 ∨ k = 5 ∨ k = 6 ∨ (k < 0 ∨ 6 < k) by omega) with hsw | hsw | hsw | hsw | hsw | hsw | hsw | hsw
  · refine q_tableIn C 44 dX0_lineProperty_1 ⟨by omega, by omega⟩ (by omega) (by omega) (by rw [hsw]; rfl) (by decide) ?_
    refine q_aload_n C 0 dX0_lineProperty_44 rfl ?_
    refine q_get (T := TX0) (i := 2) C hb.k0 (by decide) rfl uws0 (by decide) wd_45 rfl dX0_lineProperty_45 ?_
    refine q_iload_n C 1 dX0_lineProperty_48 rfl ?_
    refine q_cI (q_runSN (As := [.ref (adr w (b + 3)), .int (iI x)]) (rest := []) C (k_c3 l hb hB (x := x) ⟨by omega, by omega⟩) wd_265 wd_264 wd_13 nw_263 nd_X3_cell rfl (by decide) ⟨Nat.zero_le _, Nat.zero_le _⟩ rfl (Nat.le_of_ble_eq_true rfl) dX0_lineProperty_49) ?_
    rintro z F' ⟨rfl, rfl⟩
    have q49 := hI.sz (l := x) (by omega) (by omega)
    refine q_iret C dX0_lineProperty_52 ?_
    exact ⟨by rw [show k = _ from hsw]; rfl, rfl⟩
  · refine q_tableIn C 53 dX0_lineProperty_1 ⟨by omega, by omega⟩ (by omega) (by omega) (by rw [hsw]; rfl) (by decide) ?_
    refine q_aload_n C 0 dX0_lineProperty_53 rfl ?_
    refine q_iload_n C 1 dX0_lineProperty_54 rfl ?_
    refine q_cI (q_runV (As := [.int (iI x)]) (rest := []) C (k_X0_beatsOn l hb hB ⟨by omega, by omega⟩) hb.k0 (by decide) rfl wd_323 wd_321 wd_322 wd_14 wd_320 nd_X0_beatsOn rfl (by decide) ⟨Nat.zero_le _, Nat.zero_le _⟩ rfl (Nat.le_of_ble_eq_true rfl) dX0_lineProperty_55) ?_
    rintro z F' ⟨rfl, rfl⟩
    have qz55 := hI.sz (l := x) (by omega) (by omega)
    have q55 := bo_bounds (f := wa r x) (n := r x) (by omega) (fun p u v => (hI.wd (l := x) (by omega) (by omega) u v).1)
    refine q_iret C dX0_lineProperty_58 ?_
    exact ⟨by rw [show k = _ from hsw]; rfl, rfl⟩
  · refine q_tableIn C 59 dX0_lineProperty_1 ⟨by omega, by omega⟩ (by omega) (by omega) (by rw [hsw]; rfl) (by decide) ?_
    refine q_aload_n C 0 dX0_lineProperty_59 rfl ?_
    refine q_iload_n C 1 dX0_lineProperty_60 rfl ?_
    refine q_iconst C (-1) dX0_lineProperty_61 ?_
    refine q_cI (q_runV (As := [.int (iI x), .int (iI (-1))]) (rest := []) C (k_wol_n l hb hB (x := x) ⟨by omega, by omega⟩) hb.k0 (by decide) rfl wd_327 wd_325 wd_326 wd_14 wd_324 nd_X0_worthOfLine rfl (by decide) ⟨Nat.zero_le _, Nat.zero_le _⟩ rfl (Nat.le_of_ble_eq_true rfl) dX0_lineProperty_62) ?_
    rintro z F' ⟨rfl, rfl⟩
    refine q_iret C dX0_lineProperty_65 ?_
    exact ⟨by rw [show k = _ from hsw]; rfl, rfl⟩
  · refine q_tableIn C 66 dX0_lineProperty_1 ⟨by omega, by omega⟩ (by omega) (by omega) (by rw [hsw]; rfl) (by decide) ?_
    refine q_aload_n C 0 dX0_lineProperty_66 rfl ?_
    refine q_iload_n C 1 dX0_lineProperty_67 rfl ?_
    refine q_cI (q_runV (As := [.int (iI x)]) (rest := []) C (k_X0_endingOn l hb hB ⟨by omega, by omega⟩) hb.k0 (by decide) rfl wd_331 wd_329 wd_330 wd_14 wd_328 nd_X0_endingOn rfl (by decide) ⟨Nat.zero_le _, Nat.zero_le _⟩ rfl (Nat.le_of_ble_eq_true rfl) dX0_lineProperty_68) ?_
    rintro z F' ⟨rfl, rfl⟩
    have q68 := le_range hI (l := x) (by omega) (by omega)
    refine q_iret C dX0_lineProperty_71 ?_
    exact ⟨by rw [show k = _ from hsw]; rfl, rfl⟩
  · refine q_tableIn C 72 dX0_lineProperty_1 ⟨by omega, by omega⟩ (by omega) (by omega) (by rw [hsw]; rfl) (by decide) ?_
    refine q_aload_n C 0 dX0_lineProperty_72 rfl ?_
    refine q_get (T := TX0) (i := 3) C hb.k0 (by decide) rfl uws0 (by decide) wd_46 rfl dX0_lineProperty_73 ?_
    refine q_iload_n C 1 dX0_lineProperty_76 rfl ?_
    refine q_cI (q_runSN (As := [.ref (adr w (b + 4)), .int (iI x)]) (rest := []) C (k_c4 l hb hB (x := x) ⟨by omega, by omega⟩) wd_265 wd_264 wd_13 nw_263 nd_X3_cell rfl (by decide) ⟨Nat.zero_le _, Nat.zero_le _⟩ rfl (Nat.le_of_ble_eq_true rfl) dX0_lineProperty_77) ?_
    rintro z F' ⟨rfl, rfl⟩
    have q77 := hI.ld (l := x) (by omega) (by omega)
    refine q_cI (q_runSN (As := [.int (iI (r (112 + x) - 1))]) (rest := []) C (k_X3_lineCode l ⟨by omega, by omega⟩) wd_334 wd_333 wd_13 nw_332 nd_X3_lineCode rfl (by decide) ⟨Nat.zero_le _, Nat.zero_le _⟩ rfl (Nat.le_of_ble_eq_true rfl) dX0_lineProperty_80) ?_
    rintro z F' ⟨rfl, rfl⟩
    refine q_iret C dX0_lineProperty_83 ?_
    exact ⟨by rw [show k = _ from hsw]; rfl, rfl⟩
  · refine q_tableIn C 84 dX0_lineProperty_1 ⟨by omega, by omega⟩ (by omega) (by omega) (by rw [hsw]; rfl) (by decide) ?_
    refine q_aload_n C 0 dX0_lineProperty_84 rfl ?_
    refine q_get (T := TX0) (i := 4) C hb.k0 (by decide) rfl uws0 (by decide) wd_47 rfl dX0_lineProperty_85 ?_
    refine q_iload_n C 1 dX0_lineProperty_88 rfl ?_
    refine q_cI (q_runSN (As := [.ref (adr w (b + 5)), .int (iI x)]) (rest := []) C (k_c5 l hb hB (x := x) ⟨by omega, by omega⟩) wd_265 wd_264 wd_13 nw_263 nd_X3_cell rfl (by decide) ⟨Nat.zero_le _, Nat.zero_le _⟩ rfl (Nat.le_of_ble_eq_true rfl) dX0_lineProperty_89) ?_
    rintro z F' ⟨rfl, rfl⟩
    have q89 := bor_range r x
    refine q_cI (q_runSN (As := [.int (iI (bor r x))]) (rest := []) C (k_X3_lineCode l ⟨by omega, by omega⟩) wd_334 wd_333 wd_13 nw_332 nd_X3_lineCode rfl (by decide) ⟨Nat.zero_le _, Nat.zero_le _⟩ rfl (Nat.le_of_ble_eq_true rfl) dX0_lineProperty_92) ?_
    rintro z F' ⟨rfl, rfl⟩
    refine q_iret C dX0_lineProperty_95 ?_
    exact ⟨by rw [show k = _ from hsw]; rfl, rfl⟩
  · refine q_tableIn C 96 dX0_lineProperty_1 ⟨by omega, by omega⟩ (by omega) (by omega) (by rw [hsw]; rfl) (by decide) ?_
    refine q_aload_n C 0 dX0_lineProperty_96 rfl ?_
    refine q_iload_n C 1 dX0_lineProperty_97 rfl ?_
    refine q_aload_n C 0 dX0_lineProperty_98 rfl ?_
    refine q_iload_n C 1 dX0_lineProperty_99 rfl ?_
    refine q_cI (q_runV (As := [.int (iI x)]) (rest := [.int (iI x), .ref (adr w b)]) C (k_X0_endingOn l hb hB ⟨by omega, by omega⟩) hb.k0 (by decide) rfl wd_331 wd_329 wd_330 wd_14 wd_328 nd_X0_endingOn rfl (by decide) ⟨Nat.zero_le _, Nat.zero_le _⟩ rfl (Nat.le_of_ble_eq_true rfl) dX0_lineProperty_100) ?_
    rintro z F' ⟨rfl, rfl⟩
    have q100 := le_range hI (l := x) (by omega) (by omega)
    refine q_cI (q_runV (As := [.int (iI x), .int (iI (le r x))]) (rest := []) C (k_X0_rhymesOf l hb hB ⟨by omega, by omega⟩ ⟨by omega, by omega⟩) hb.k0 (by decide) rfl wd_338 wd_336 wd_337 wd_14 wd_335 nd_X0_rhymesOf rfl (by decide) ⟨Nat.zero_le _, Nat.zero_le _⟩ rfl (Nat.le_of_ble_eq_true rfl) dX0_lineProperty_103) ?_
    rintro z F' ⟨rfl, rfl⟩
    have q103 := rhE_range r x (le r x)
    refine q_iret C dX0_lineProperty_106 ?_
    exact ⟨by rw [show k = _ from hsw]; rfl, rfl⟩
  · refine q_tableOut C 107 dX0_lineProperty_1 ⟨by omega, by omega⟩ hsw (by decide) ?_
    refine q_aload_n C 0 dX0_lineProperty_107 rfl ?_
    refine q_iload_n C 1 dX0_lineProperty_108 rfl ?_
    refine q_cI (q_runV (As := [.int (iI x)]) (rest := []) C (k_X0_clashes l hb hB (x := x) ⟨by omega, by omega⟩) hb.k0 (by decide) rfl wd_343 wd_342 wd_1 wd_14 wd_340 nd_X0_clashes rfl (by decide) ⟨Nat.zero_le _, Nat.zero_le _⟩ rfl (Nat.le_of_ble_eq_true rfl) dX0_lineProperty_109) ?_
    rintro z F' ⟨⟨rfl, hg109⟩ | ⟨rfl, hg109⟩, rfl⟩
    · refine q_if_eq C 119 dX0_lineProperty_112 ⟨by decide, by decide⟩  (by decide) (fun h => absurd h (by decide)) (fun _ => ?_)
      refine q_iconst C 0 dX0_lineProperty_115 ?_
      refine q_goto C 120 dX0_lineProperty_116 (by decide) ?_
      refine q_iret C dX0_lineProperty_120 ?_
      exact ⟨by rw [show k = 7 by omega]; show _ = if mx r x = true then _ else _; first | rw [if_pos (by assumption)] | rw [if_neg (by assumption)], rfl⟩
    · refine q_if_eq C 119 dX0_lineProperty_112 ⟨by decide, by decide⟩  (by decide) (fun _ => ?_) (fun h => absurd h (by decide))
      refine q_iconst C 1 dX0_lineProperty_119 ?_
      refine q_iret C dX0_lineProperty_120 ?_
      exact ⟨by rw [show k = 7 by omega]; show _ = if mx r x = true then _ else _; first | rw [if_pos (by assumption)] | rw [if_neg (by assumption)], rfl⟩

set_option maxRecDepth 100000 in
set_option maxHeartbeats 4000000 in
theorem k_X0_doorProperty (l : Launch) {w : WP} {F : FF} {b : Nat} {r : Rw} {d k : Int} (hb : IsB b) (hB : BI F b r) (hd : 0 ≤ d ∧ d < 4) (hk : 0 ≤ k ∧ k < 5) : Con l yX0_doorProperty cX0_doorProperty 3 (some .int) 4 w [.ref (adr w b), .int (iI d), .int (iI k)] F (QI w (fun z F' => z = dpr r d k ∧ F = F')) := by
  refine Con.mk (lv := [(0, .ref (adr w b)), (1, .int (iI d)), (2, .int (iI k))]) (by decide) (Nat.le_of_ble_eq_true rfl) rfl ?_
  intro pg ev s0 mi be me co C hz
  have hI := hB.iv
  refine q_iload_n C 2 dX0_doorProperty_0 rfl ?_
  rcases (show k = 0 ∨ k = 1 ∨ k = 2 ∨ k = 3 ∨ (k < 0 ∨ 3 < k) by omega) with hsw | hsw | hsw | hsw | hsw
  · refine q_tableIn C 32 dX0_doorProperty_1 ⟨by omega, by omega⟩ (by omega) (by omega) (by rw [hsw]; rfl) (by decide) ?_
    refine q_aload_n C 0 dX0_doorProperty_32 rfl ?_
    refine q_iload_n C 1 dX0_doorProperty_33 rfl ?_
    refine q_cI (q_runV (As := [.int (iI d)]) (rest := []) C (k_X0_worthOfDoor l hb hB ⟨by omega, by omega⟩) hb.k0 (by decide) rfl wd_388 wd_386 wd_387 wd_14 wd_385 nd_X0_worthOfDoor rfl (by decide) ⟨Nat.zero_le _, Nat.zero_le _⟩ rfl (Nat.le_of_ble_eq_true rfl) dX0_doorProperty_34) ?_
    rintro z F' ⟨rfl, rfl⟩
    have q34 := dw_range hI (d := d) (by omega) (by omega)
    refine q_iret C dX0_doorProperty_37 ?_
    exact ⟨by rw [show k = _ from hsw]; rfl, rfl⟩
  · refine q_tableIn C 38 dX0_doorProperty_1 ⟨by omega, by omega⟩ (by omega) (by omega) (by rw [hsw]; rfl) (by decide) ?_
    refine q_aload_n C 0 dX0_doorProperty_38 rfl ?_
    refine q_iload_n C 1 dX0_doorProperty_39 rfl ?_
    refine q_cI (q_runV (As := [.int (iI d)]) (rest := []) C (k_X0_wordsOfDoor l hb hB ⟨by omega, by omega⟩) hb.k0 (by decide) rfl wd_396 wd_394 wd_395 wd_14 wd_393 nd_X0_wordsOfDoor rfl (by decide) ⟨Nat.zero_le _, Nat.zero_le _⟩ rfl (Nat.le_of_ble_eq_true rfl) dX0_doorProperty_40) ?_
    rintro z F' ⟨rfl, rfl⟩
    have q40 := dwo_range hI (d := d) (by omega) (by omega)
    refine q_iret C dX0_doorProperty_43 ?_
    exact ⟨by rw [show k = _ from hsw]; rfl, rfl⟩
  · refine q_tableIn C 44 dX0_doorProperty_1 ⟨by omega, by omega⟩ (by omega) (by omega) (by rw [hsw]; rfl) (by decide) ?_
    refine q_aload_n C 0 dX0_doorProperty_44 rfl ?_
    refine q_iload_n C 1 dX0_doorProperty_45 rfl ?_
    refine q_cI (q_runV (As := [.int (iI d)]) (rest := []) C (k_X0_rhymesOfDoor l hb hB ⟨by omega, by omega⟩) hb.k0 (by decide) rfl wd_392 wd_390 wd_391 wd_14 wd_389 nd_X0_rhymesOfDoor rfl (by decide) ⟨Nat.zero_le _, Nat.zero_le _⟩ rfl (Nat.le_of_ble_eq_true rfl) dX0_doorProperty_46) ?_
    rintro z F' ⟨rfl, rfl⟩
    have q46 := prs_range r d
    refine q_iret C dX0_doorProperty_49 ?_
    exact ⟨by rw [show k = _ from hsw]; rfl, rfl⟩
  · refine q_tableIn C 50 dX0_doorProperty_1 ⟨by omega, by omega⟩ (by omega) (by omega) (by rw [hsw]; rfl) (by decide) ?_
    refine q_aload_n C 0 dX0_doorProperty_50 rfl ?_
    refine q_get (T := TX0) (i := 6) C hb.k0 (by decide) rfl uws0 (by decide) wd_49 rfl dX0_doorProperty_51 ?_
    refine q_iload_n C 1 dX0_doorProperty_54 rfl ?_
    refine q_cI (q_runSN (As := [.ref (adr w (b + 7)), .int (iI d)]) (rest := []) C (k_c7 l hb hB (x := d) ⟨by omega, by omega⟩) wd_265 wd_264 wd_13 nw_263 nd_X3_cell rfl (by decide) ⟨Nat.zero_le _, Nat.zero_le _⟩ rfl (Nat.le_of_ble_eq_true rfl) dX0_doorProperty_55) ?_
    rintro z F' ⟨rfl, rfl⟩
    have q55 := hI.wt (d := d) (by omega) (by omega)
    refine q_iret C dX0_doorProperty_58 ?_
    exact ⟨by rw [show k = _ from hsw]; rfl, rfl⟩
  · refine q_tableOut C 59 dX0_doorProperty_1 ⟨by omega, by omega⟩ hsw (by decide) ?_
    refine q_aload_n C 0 dX0_doorProperty_59 rfl ?_
    refine q_get (T := TX0) (i := 7) C hb.k0 (by decide) rfl uws0 (by decide) wd_50 rfl dX0_doorProperty_60 ?_
    refine q_iload_n C 1 dX0_doorProperty_63 rfl ?_
    refine q_cI (q_runSN (As := [.ref (adr w (b + 8)), .int (iI d)]) (rest := []) C (k_c8 l hb hB (x := d) ⟨by omega, by omega⟩) wd_265 wd_264 wd_13 nw_263 nd_X3_cell rfl (by decide) ⟨Nat.zero_le _, Nat.zero_le _⟩ rfl (Nat.le_of_ble_eq_true rfl) dX0_doorProperty_64) ?_
    rintro z F' ⟨rfl, rfl⟩
    refine q_iret C dX0_doorProperty_67 ?_
    exact ⟨by rw [show k = 4 by omega]; rfl, rfl⟩
