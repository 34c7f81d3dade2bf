/-! the reference: endings, worth, thefts -/
theorem rhT_e {r : Rw} {x i : Int} (h : le r x = -1) : rhT r x (le r x) i = 0 := by
  unfold rhT
  rw [h, eqv_n]; split <;> rfl
theorem prs_half {r : Rw} {d : Int} (hd : 0 ≤ d ∧ d < 4) : sm (fun i => rh r (4 * d + i)) 4 / 2 = prs r d := by
  have h : ∀ i, 0 ≤ i → i < 4 → rh r (4 * d + i) = (if i = 0 then 0 else eqv (le r (4 * d + i)) (le r (4 * d + 0))) + (if i = 1 then 0 else eqv (le r (4 * d + i)) (le r (4 * d + 1))) + (if i = 2 then 0 else eqv (le r (4 * d + i)) (le r (4 * d + 2))) + (if i = 3 then 0 else eqv (le r (4 * d + i)) (le r (4 * d + 3))) := by
    intro i h0 h1
    show rhE r _ _ = _
    rw [rhE_eq, sm_4]
    unfold rhT
    rw [show 4 * ((4 * d + i) / 4) = 4 * d by omega]
    have e : ∀ j : Int, (if 4 * d + j ≠ 4 * d + i then eqv (le r (4 * d + i)) (le r (4 * d + j)) else 0) = if i = j then 0 else eqv (le r (4 * d + i)) (le r (4 * d + j)) := by
      intro j
      by_cases q : i = j
      · rw [if_pos q, if_neg (by omega)]
      · rw [if_neg q, if_pos (by omega)]
    rw [e, e, e, e]
  rw [sm_4, h 0 (by omega) (by omega), h 1 (by omega) (by omega), h 2 (by omega) (by omega), h 3 (by omega) (by omega)]
  unfold prs
  rw [eqv_comm (le r (4 * d + 0)) (le r (4 * d + 1)), eqv_comm (le r (4 * d + 0)) (le r (4 * d + 2)), eqv_comm (le r (4 * d + 0)) (le r (4 * d + 3)), eqv_comm (le r (4 * d + 1)) (le r (4 * d + 2)), eqv_comm (le r (4 * d + 1)) (le r (4 * d + 3)), eqv_comm (le r (4 * d + 2)) (le r (4 * d + 3)), Int.add_zero]
  simp only [show ¬ (0 : Int) = 1 by decide, show ¬ (0 : Int) = 2 by decide, show ¬ (0 : Int) = 3 by decide, show ¬ (1 : Int) = 0 by decide, show ¬ (1 : Int) = 2 by decide, show ¬ (1 : Int) = 3 by decide, show ¬ (2 : Int) = 0 by decide, show ¬ (2 : Int) = 1 by decide, show ¬ (2 : Int) = 3 by decide, show ¬ (3 : Int) = 0 by decide, show ¬ (3 : Int) = 1 by decide, show ¬ (3 : Int) = 2 by decide, if_true, if_false]
  omega
theorem py_range {r : Rw} (hI : Iv r) : -1 ≤ py r ∧ py r < 40 := by
  unfold py
  by_cases e : tg r = -1
  · rw [if_pos e]; omega
  · rw [if_neg e]
    have h := tg_range r
    exact pon_range hI ⟨by omega, by omega⟩

set_option maxRecDepth 100000 in
set_option maxHeartbeats 4000000 in
theorem k_X4_rhymes (l : Launch) {w : WP} {F : FF} {r : Rw} {x : Int} (hr : F 111 = r) (hI : Iv r) (hl : 0 ≤ x ∧ x < 16) : Con l yX4_rhymes cX4_rhymes 4 (some .int) 3 w [.ref (adr w 110), .int (iI x)] F (QI w (fun z F' => z = rh r x ∧ F = F')) := by
  refine Con.mk (lv := [(0, .ref (adr w 110)), (1, .int (iI x))]) (by decide) (Nat.le_of_ble_eq_true rfl) rfl ?_
  intro pg ev s0 mi be me co C hz
  refine q_iconst C 0 dX4_rhymes_0 ?_
  refine q_istore_n (lv' := [(2, .int (iI 0)), (0, .ref (adr w 110)), (1, .int (iI x))]) C dX4_rhymes_1 (by decide) rfl ?_
  refine q_iload_n C 2 dX4_rhymes_2 rfl ?_
  refine q_iconst C 4 dX4_rhymes_3 ?_
  refine q_idiv C dX4_rhymes_4 ⟨by omega, by omega⟩ ⟨by decide, by decide⟩ ?_
  refine q_iconst C 4 dX4_rhymes_5 ?_
  refine q_imul C dX4_rhymes_6 ?_
  refine q_istore_n (lv' := [(3, .int (iI ((x / 4) * 4))), (2, .int (iI 0)), (0, .ref (adr w 110)), (1, .int (iI x))]) C dX4_rhymes_7 (by decide) rfl ?_
  refine q_lv (lv' := [(0, .ref (adr w 110)), (1, .int (iI x)), (2, .int (iI 0)), (3, .int (iI ((x / 4) * 4)))]) [2, 3, 1, 0] rfl ?_
  refine wf2 (P := fun (o : Int) (n : Int) => Wq pg l ev _ s0 mi _ be me co _ w _ _ _ 8 [(0, .ref (adr w 110)), (1, .int (iI x)), (2, .int (iI n)), (3, .int (iI o))] [] F) (I := fun (o : Int) (n : Int) => x / 4 * 4 ≤ o ∧ o ≤ x / 4 * 4 + 4 ∧ n = sm (rhT r x (le r x)) (o - 4 * (x / 4)) ∧ 0 ≤ n ∧ n ≤ 4 ∧ n ≤ o - 4 * (x / 4)) (μ := fun (o : Int) (n : Int) => (x / 4 * 4 + 4 - o).toNat) ?_ ((x / 4) * 4) 0 (⟨by omega, by omega, by rw [show x / 4 * 4 - 4 * (x / 4) = 0 by omega]; rfl, by omega, by omega, by omega⟩)
  intro o n hI' ih8
  (try dsimp only at hI'); (try dsimp only at ih8); (try dsimp only)
  obtain ⟨ho0, ho1, hn, hn0, hn1, hn2⟩ := hI'
  refine q_iload_n C 3 dX4_rhymes_8 rfl ?_
  refine q_iload_n C 1 dX4_rhymes_9 rfl ?_
  refine q_iconst C 4 dX4_rhymes_10 ?_
  refine q_idiv C dX4_rhymes_11 ⟨by omega, by omega⟩ ⟨by decide, by decide⟩ ?_
  refine q_iconst C 4 dX4_rhymes_12 ?_
  refine q_imul C dX4_rhymes_13 ?_
  refine q_iconst C 4 dX4_rhymes_14 ?_
  refine q_iadd C dX4_rhymes_15 ?_
  refine q_icmp_ge C 60 dX4_rhymes_16 ⟨by omega, by omega⟩ ⟨by omega, by omega⟩ (by decide) (fun h16 => ?_) (fun h16 => ?_)
  · refine q_iload_n C 2 dX4_rhymes_60 rfl ?_
    refine q_iret C dX4_rhymes_61 ?_
    exact ⟨by rw [hn, show o - 4 * (x / 4) = 4 by omega]; rfl, rfl⟩
  · refine q_iload_n C 2 dX4_rhymes_19 rfl ?_
    refine q_iload_n C 3 dX4_rhymes_20 rfl ?_
    refine q_iload_n C 1 dX4_rhymes_21 rfl ?_
    refine q_icmp_eq C 51 dX4_rhymes_22 ⟨by omega, by omega⟩ ⟨by omega, by omega⟩ (by decide) (fun h22 => ?_) (fun h22 => ?_)
    · refine q_iconst C 0 dX4_rhymes_51 ?_
      refine q_iadd C dX4_rhymes_52 ?_
      refine q_istore_n (lv' := [(2, .int (iI (n + 0))), (0, .ref (adr w 110)), (1, .int (iI x)), (3, .int (iI o))]) C dX4_rhymes_53 (by decide) rfl ?_
      refine q_iinc (lv' := [(3, .int (iI (o + 1))), (2, .int (iI (n + 0))), (0, .ref (adr w 110)), (1, .int (iI x))]) C 3 dX4_rhymes_54 rfl (by decide) rfl ?_
      refine q_goto C 8 dX4_rhymes_57 (by decide) ?_
      refine q_lv (lv' := [(0, .ref (adr w 110)), (1, .int (iI x)), (2, .int (iI (n + 0))), (3, .int (iI (o + 1)))]) [2, 3, 1, 0] rfl ?_
      exact ih8 (o + 1) (n + 0) (⟨by omega, by omega, by rw [show o + 1 - 4 * (x / 4) = (o - 4 * (x / 4)) + 1 by omega, sm_s (by omega), ← hn]; first | rw [rhT_1 (by omega) (by rw [show 4 * (x / 4) + (o - 4 * (x / 4)) = o by omega]; assumption) (by assumption)] | rw [rhT_0 (by omega)] | rw [rhT_n (by rw [show 4 * (x / 4) + (o - 4 * (x / 4)) = o by omega]; assumption)] | rw [rhT_e (by assumption)], by omega, by omega, by omega⟩) (by omega)
    · refine q_aload_n C 0 dX4_rhymes_25 rfl ?_
      refine q_iload_n C 1 dX4_rhymes_26 rfl ?_
      refine q_cI (q_runV (As := [.int (iI x)]) (rest := [.int (iI n)]) C (k_X4_lineEnding l hr hI (x := x) ⟨by omega, by omega⟩) kd110 (by decide) rfl wd_1025 wd_1024 wd_38 wd_81 wd_1022 nd_X4_lineEnding rfl (by decide) ⟨Nat.zero_le _, Nat.zero_le _⟩ rfl (Nat.le_of_ble_eq_true rfl) dX4_rhymes_27) ?_
      rintro z F' ⟨rfl, rfl⟩
      have q27 := le_range hI (l := x) (by omega) (by omega)
      refine q_iconst C (-1) dX4_rhymes_30 ?_
      refine q_icmp_eq C 51 dX4_rhymes_31 ⟨by omega, by omega⟩ ⟨by decide, by decide⟩ (by decide) (fun h31 => ?_) (fun h31 => ?_)
      · refine q_iconst C 0 dX4_rhymes_51 ?_
        refine q_iadd C dX4_rhymes_52 ?_
        refine q_istore_n (lv' := [(2, .int (iI (n + 0))), (0, .ref (adr w 110)), (1, .int (iI x)), (3, .int (iI o))]) C dX4_rhymes_53 (by decide) rfl ?_
        refine q_iinc (lv' := [(3, .int (iI (o + 1))), (2, .int (iI (n + 0))), (0, .ref (adr w 110)), (1, .int (iI x))]) C 3 dX4_rhymes_54 rfl (by decide) rfl ?_
        refine q_goto C 8 dX4_rhymes_57 (by decide) ?_
        refine q_lv (lv' := [(0, .ref (adr w 110)), (1, .int (iI x)), (2, .int (iI (n + 0))), (3, .int (iI (o + 1)))]) [2, 3, 1, 0] rfl ?_
        exact ih8 (o + 1) (n + 0) (⟨by omega, by omega, by rw [show o + 1 - 4 * (x / 4) = (o - 4 * (x / 4)) + 1 by omega, sm_s (by omega), ← hn]; first | rw [rhT_1 (by omega) (by rw [show 4 * (x / 4) + (o - 4 * (x / 4)) = o by omega]; assumption) (by assumption)] | rw [rhT_0 (by omega)] | rw [rhT_n (by rw [show 4 * (x / 4) + (o - 4 * (x / 4)) = o by omega]; assumption)] | rw [rhT_e (by assumption)], by omega, by omega, by omega⟩) (by omega)
      · refine q_aload_n C 0 dX4_rhymes_34 rfl ?_
        refine q_iload_n C 3 dX4_rhymes_35 rfl ?_
        refine q_cI (q_runV (As := [.int (iI o)]) (rest := [.int (iI n)]) C (k_X4_lineEnding l hr hI (x := o) ⟨by omega, by omega⟩) kd110 (by decide) rfl wd_1025 wd_1024 wd_38 wd_81 wd_1022 nd_X4_lineEnding rfl (by decide) ⟨Nat.zero_le _, Nat.zero_le _⟩ rfl (Nat.le_of_ble_eq_true rfl) dX4_rhymes_36) ?_
        rintro z F' ⟨rfl, rfl⟩
        have q36 := le_range hI (l := o) (by omega) (by omega)
        refine q_aload_n C 0 dX4_rhymes_39 rfl ?_
        refine q_iload_n C 1 dX4_rhymes_40 rfl ?_
        refine q_cI (q_runV (As := [.int (iI x)]) (rest := [.int (iI (le r o)), .int (iI n)]) C (k_X4_lineEnding l hr hI (x := x) ⟨by omega, by omega⟩) kd110 (by decide) rfl wd_1025 wd_1024 wd_38 wd_81 wd_1022 nd_X4_lineEnding rfl (by decide) ⟨Nat.zero_le _, Nat.zero_le _⟩ rfl (Nat.le_of_ble_eq_true rfl) dX4_rhymes_41) ?_
        rintro z F' ⟨rfl, rfl⟩
        have q41 := le_range hI (l := x) (by omega) (by omega)
        refine q_icmp_ne C 51 dX4_rhymes_44 ⟨by omega, by omega⟩ ⟨by omega, by omega⟩ (by decide) (fun h44 => ?_) (fun h44 => ?_)
        · refine q_iconst C 0 dX4_rhymes_51 ?_
          refine q_iadd C dX4_rhymes_52 ?_
          refine q_istore_n (lv' := [(2, .int (iI (n + 0))), (0, .ref (adr w 110)), (1, .int (iI x)), (3, .int (iI o))]) C dX4_rhymes_53 (by decide) rfl ?_
          refine q_iinc (lv' := [(3, .int (iI (o + 1))), (2, .int (iI (n + 0))), (0, .ref (adr w 110)), (1, .int (iI x))]) C 3 dX4_rhymes_54 rfl (by decide) rfl ?_
          refine q_goto C 8 dX4_rhymes_57 (by decide) ?_
          refine q_lv (lv' := [(0, .ref (adr w 110)), (1, .int (iI x)), (2, .int (iI (n + 0))), (3, .int (iI (o + 1)))]) [2, 3, 1, 0] rfl ?_
          exact ih8 (o + 1) (n + 0) (⟨by omega, by omega, by rw [show o + 1 - 4 * (x / 4) = (o - 4 * (x / 4)) + 1 by omega, sm_s (by omega), ← hn]; first | rw [rhT_1 (by omega) (by rw [show 4 * (x / 4) + (o - 4 * (x / 4)) = o by omega]; assumption) (by assumption)] | rw [rhT_0 (by omega)] | rw [rhT_n (by rw [show 4 * (x / 4) + (o - 4 * (x / 4)) = o by omega]; assumption)] | rw [rhT_e (by assumption)], by omega, by omega, by omega⟩) (by omega)
        · refine q_iconst C 1 dX4_rhymes_47 ?_
          refine q_goto C 52 dX4_rhymes_48 (by decide) ?_
          refine q_iadd C dX4_rhymes_52 ?_
          refine q_istore_n (lv' := [(2, .int (iI (n + 1))), (0, .ref (adr w 110)), (1, .int (iI x)), (3, .int (iI o))]) C dX4_rhymes_53 (by decide) rfl ?_
          refine q_iinc (lv' := [(3, .int (iI (o + 1))), (2, .int (iI (n + 1))), (0, .ref (adr w 110)), (1, .int (iI x))]) C 3 dX4_rhymes_54 rfl (by decide) rfl ?_
          refine q_goto C 8 dX4_rhymes_57 (by decide) ?_
          refine q_lv (lv' := [(0, .ref (adr w 110)), (1, .int (iI x)), (2, .int (iI (n + 1))), (3, .int (iI (o + 1)))]) [2, 3, 1, 0] rfl ?_
          exact ih8 (o + 1) (n + 1) (⟨by omega, by omega, by rw [show o + 1 - 4 * (x / 4) = (o - 4 * (x / 4)) + 1 by omega, sm_s (by omega), ← hn]; first | rw [rhT_1 (by omega) (by rw [show 4 * (x / 4) + (o - 4 * (x / 4)) = o by omega]; assumption) (by assumption)] | rw [rhT_0 (by omega)] | rw [rhT_n (by rw [show 4 * (x / 4) + (o - 4 * (x / 4)) = o by omega]; assumption)] | rw [rhT_e (by assumption)], by omega, by omega, by omega⟩) (by omega)

set_option maxRecDepth 100000 in
set_option maxHeartbeats 4000000 in
theorem k_X4_pairs (l : Launch) {w : WP} {F : FF} {r : Rw} {d : Int} (hr : F 111 = r) (hI : Iv r) (hd : 0 ≤ d ∧ d < 4) : Con l yX4_pairs cX4_pairs 4 (some .int) 4 w [.ref (adr w 110), .int (iI d)] F (QI w (fun z F' => z = prs r d ∧ F = F')) := by
  refine Con.mk (lv := [(0, .ref (adr w 110)), (1, .int (iI d))]) (by decide) (Nat.le_of_ble_eq_true rfl) rfl ?_
  intro pg ev s0 mi be me co C hz
  refine q_iconst C 0 dX4_pairs_0 ?_
  refine q_istore_n (lv' := [(2, .int (iI 0)), (0, .ref (adr w 110)), (1, .int (iI d))]) C dX4_pairs_1 (by decide) rfl ?_
  refine q_iconst C 4 dX4_pairs_2 ?_
  refine q_iload_n C 2 dX4_pairs_3 rfl ?_
  refine q_imul C dX4_pairs_4 ?_
  refine q_istore_n (lv' := [(3, .int (iI (4 * d))), (2, .int (iI 0)), (0, .ref (adr w 110)), (1, .int (iI d))]) C dX4_pairs_5 (by decide) rfl ?_
  refine q_lv (lv' := [(0, .ref (adr w 110)), (1, .int (iI d)), (2, .int (iI 0)), (3, .int (iI (4 * d)))]) [2, 3, 1, 0] rfl ?_
  refine wf2 (P := fun (o : Int) (n : Int) => Wq pg l ev _ s0 mi _ be me co _ w _ _ _ 6 [(0, .ref (adr w 110)), (1, .int (iI d)), (2, .int (iI n)), (3, .int (iI o))] [] F) (I := fun (o : Int) (n : Int) => 4 * d ≤ o ∧ o ≤ 4 * d + 4 ∧ n = sm (fun i => rh r (4 * d + i)) (o - 4 * d) ∧ 0 ≤ n ∧ n ≤ 4 * (o - 4 * d)) (μ := fun (o : Int) (n : Int) => (4 * d + 4 - o).toNat) ?_ (4 * d) 0 (⟨by omega, by omega, by rw [show 4 * d - 4 * d = 0 by omega]; rfl, by omega, by omega⟩)
  intro o n hI' ih6
  (try dsimp only at hI'); (try dsimp only at ih6); (try dsimp only)
  obtain ⟨ho0, ho1, hn, hn0, hn1⟩ := hI'
  refine q_iload_n C 3 dX4_pairs_6 rfl ?_
  refine q_iconst C 4 dX4_pairs_7 ?_
  refine q_iload_n C 1 dX4_pairs_8 rfl ?_
  refine q_imul C dX4_pairs_9 ?_
  refine q_iconst C 4 dX4_pairs_10 ?_
  refine q_iadd C dX4_pairs_11 ?_
  refine q_icmp_ge C 29 dX4_pairs_12 ⟨by omega, by omega⟩ ⟨by omega, by omega⟩ (by decide) (fun h12 => ?_) (fun h12 => ?_)
  · refine q_iload_n C 2 dX4_pairs_29 rfl ?_
    refine q_iconst C 2 dX4_pairs_30 ?_
    refine q_idiv C dX4_pairs_31 ⟨by omega, by omega⟩ ⟨by decide, by decide⟩ ?_
    refine q_iret C dX4_pairs_32 ?_
    exact ⟨by rw [hn, show o - 4 * d = 4 by omega]; exact prs_half hd, rfl⟩
  · refine q_iload_n C 2 dX4_pairs_15 rfl ?_
    refine q_aload_n C 0 dX4_pairs_16 rfl ?_
    refine q_iload_n C 3 dX4_pairs_17 rfl ?_
    refine q_cI (q_runV (As := [.int (iI o)]) (rest := [.int (iI n)]) C (k_X4_rhymes l hr hI (x := o) ⟨by omega, by omega⟩) kd110 (by decide) rfl wd_1068 wd_1067 wd_46 wd_81 wd_1065 nd_X4_rhymes rfl (by decide) ⟨Nat.zero_le _, Nat.zero_le _⟩ rfl (Nat.le_of_ble_eq_true rfl) dX4_pairs_18) ?_
    rintro z F' ⟨rfl, rfl⟩
    have q18 := rhE_range r o (le r o); have q_18 : 0 ≤ rh r o ∧ rh r o ≤ 4 := q18
    refine q_iadd C dX4_pairs_21 ?_
    refine q_istore_n (lv' := [(2, .int (iI (n + (rh r o)))), (0, .ref (adr w 110)), (1, .int (iI d)), (3, .int (iI o))]) C dX4_pairs_22 (by decide) rfl ?_
    refine q_iinc (lv' := [(3, .int (iI (o + 1))), (2, .int (iI (n + (rh r o)))), (0, .ref (adr w 110)), (1, .int (iI d))]) C 3 dX4_pairs_23 rfl (by decide) rfl ?_
    refine q_goto C 6 dX4_pairs_26 (by decide) ?_
    refine q_lv (lv' := [(0, .ref (adr w 110)), (1, .int (iI d)), (2, .int (iI (n + (rh r o)))), (3, .int (iI (o + 1)))]) [2, 3, 1, 0] rfl ?_
    exact ih6 (o + 1) (n + (rh r o)) (⟨by omega, by omega, by rw [show o + 1 - 4 * d = (o - 4 * d) + 1 by omega, sm_s (by omega), ← hn, show 4 * d + (o - 4 * d) = o by omega], by omega, by omega⟩) (by omega)

set_option maxRecDepth 100000 in
set_option maxHeartbeats 4000000 in
theorem k_X4_doorWorth (l : Launch) {w : WP} {F : FF} {r : Rw} {d : Int} (hr : F 111 = r) (hI : Iv r) (hd : 0 ≤ d ∧ d < 4) : Con l yX4_doorWorth cX4_doorWorth 4 (some .int) 5 w [.ref (adr w 110), .int (iI d)] F (QI w (fun z F' => z = dw r d ∧ F = F')) := by
  refine Con.mk (lv := [(0, .ref (adr w 110)), (1, .int (iI d))]) (by decide) (Nat.le_of_ble_eq_true rfl) rfl ?_
  intro pg ev s0 mi be me co C hz
  refine q_iconst C 4 dX4_doorWorth_0 ?_
  refine q_aload_n C 0 dX4_doorWorth_1 rfl ?_
  refine q_iload_n C 1 dX4_doorWorth_2 rfl ?_
  refine q_cI (q_runV (As := [.int (iI d)]) (rest := [.int (iI 4)]) C (k_X4_pairs l hr hI (d := d) ⟨by omega, by omega⟩) kd110 (by decide) rfl wd_1064 wd_1063 wd_45 wd_81 wd_1061 nd_X4_pairs rfl (by decide) ⟨Nat.zero_le _, Nat.zero_le _⟩ rfl (Nat.le_of_ble_eq_true rfl) dX4_doorWorth_3) ?_
  rintro z F' ⟨rfl, rfl⟩
  have q3 := prs_range r d
  refine q_imul C dX4_doorWorth_6 ?_
  refine q_istore_n (lv' := [(2, .int (iI (4 * (prs r d)))), (0, .ref (adr w 110)), (1, .int (iI d))]) C dX4_doorWorth_7 (by decide) rfl ?_
  refine q_iconst C 4 dX4_doorWorth_8 ?_
  refine q_iload_n C 2 dX4_doorWorth_9 rfl ?_
  refine q_imul C dX4_doorWorth_10 ?_
  refine q_istore_n (lv' := [(3, .int (iI (4 * d))), (2, .int (iI (4 * (prs r d)))), (0, .ref (adr w 110)), (1, .int (iI d))]) C dX4_doorWorth_11 (by decide) rfl ?_
  refine q_lv (lv' := [(0, .ref (adr w 110)), (1, .int (iI d)), (2, .int (iI (4 * (prs r d)))), (3, .int (iI (4 * d)))]) [2, 3, 1, 0] rfl ?_
  refine wf2 (P := fun (o : Int) (n : Int) => Wq pg l ev _ s0 mi _ be me co _ w _ _ _ 12 [(0, .ref (adr w 110)), (1, .int (iI d)), (2, .int (iI n)), (3, .int (iI o))] [] F) (I := fun (o : Int) (n : Int) => 4 * d ≤ o ∧ o ≤ 4 * d + 4 ∧ n = 4 * prs r d + sm (fun i => lw r (4 * d + i)) (o - 4 * d)) (μ := fun (o : Int) (n : Int) => (4 * d + 4 - o).toNat) ?_ (4 * d) (4 * (prs r d)) (⟨by omega, by omega, by rw [show 4 * d - 4 * d = 0 by omega, sm_0, Int.add_zero]⟩)
  intro o n hI' ih12
  (try dsimp only at hI'); (try dsimp only at ih12); (try dsimp only)
  obtain ⟨ho0, ho1, hn⟩ := hI'
  refine q_iload_n C 3 dX4_doorWorth_12 rfl ?_
  refine q_iconst C 4 dX4_doorWorth_13 ?_
  refine q_iload_n C 1 dX4_doorWorth_14 rfl ?_
  refine q_imul C dX4_doorWorth_15 ?_
  refine q_iconst C 4 dX4_doorWorth_16 ?_
  refine q_iadd C dX4_doorWorth_17 ?_
  refine q_icmp_ge C 35 dX4_doorWorth_18 ⟨by omega, by omega⟩ ⟨by omega, by omega⟩ (by decide) (fun h18 => ?_) (fun h18 => ?_)
  · refine q_iload_n C 2 dX4_doorWorth_35 rfl ?_
    refine q_iret C dX4_doorWorth_36 ?_
    exact ⟨by rw [hn, show o - 4 * d = 4 by omega]; rfl, rfl⟩
  · refine q_iload_n C 2 dX4_doorWorth_21 rfl ?_
    refine q_aload_n C 0 dX4_doorWorth_22 rfl ?_
    refine q_iload_n C 3 dX4_doorWorth_23 rfl ?_
    refine q_cI (q_runV (As := [.int (iI o)]) (rest := [.int (iI n)]) C (k_X4_lineWorth l hr hI (x := o) ⟨by omega, by omega⟩) kd110 (by decide) rfl wd_1072 wd_1071 wd_47 wd_81 wd_1069 nd_X4_lineWorth rfl (by decide) ⟨Nat.zero_le _, Nat.zero_le _⟩ rfl (Nat.le_of_ble_eq_true rfl) dX4_doorWorth_24) ?_
    rintro z F' ⟨rfl, rfl⟩
    have q24 := lw_bounds hI (l := o) (by omega) (by omega)
    refine q_iadd C dX4_doorWorth_27 ?_
    refine q_istore_n (lv' := [(2, .int (iI (n + (lw r o)))), (0, .ref (adr w 110)), (1, .int (iI d)), (3, .int (iI o))]) C dX4_doorWorth_28 (by decide) rfl ?_
    refine q_iinc (lv' := [(3, .int (iI (o + 1))), (2, .int (iI (n + (lw r o)))), (0, .ref (adr w 110)), (1, .int (iI d))]) C 3 dX4_doorWorth_29 rfl (by decide) rfl ?_
    refine q_goto C 12 dX4_doorWorth_32 (by decide) ?_
    refine q_lv (lv' := [(0, .ref (adr w 110)), (1, .int (iI d)), (2, .int (iI (n + (lw r o)))), (3, .int (iI (o + 1)))]) [2, 3, 1, 0] rfl ?_
    exact ih12 (o + 1) (n + (lw r o)) (⟨by omega, by omega, by rw [show o + 1 - 4 * d = (o - 4 * d) + 1 by omega, sm_s (by omega), hn, show 4 * d + (o - 4 * d) = o by omega]; omega⟩) (by omega)

set_option maxRecDepth 100000 in
set_option maxHeartbeats 4000000 in
theorem k_X4_target (l : Launch) {w : WP} {F : FF} {r : Rw} (hr : F 111 = r) (hI : Iv r)  : Con l yX4_target cX4_target 3 (some .int) 6 w [.ref (adr w 110)] F (QI w (fun z F' => z = tg r ∧ F = F')) := by
  refine Con.mk (lv := [(0, .ref (adr w 110))]) (by decide) (Nat.le_of_ble_eq_true rfl) rfl ?_
  intro pg ev s0 mi be me co C hz
  refine q_iconst C (-1) dX4_target_0 ?_
  refine q_istore_n (lv' := [(1, .int (iI (-1))), (0, .ref (adr w 110))]) C dX4_target_1 (by decide) rfl ?_
  refine q_iconst C 0 dX4_target_2 ?_
  refine q_istore_n (lv' := [(2, .int (iI 0)), (1, .int (iI (-1))), (0, .ref (adr w 110))]) C dX4_target_3 (by decide) rfl ?_
  refine q_lv (lv' := [(0, .ref (adr w 110)), (1, .int (iI (-1))), (2, .int (iI 0))]) [2, 1, 0] rfl ?_
  refine wf2 (P := fun (i : Int) (b : Int) => Wq pg l ev _ s0 mi _ be me co _ w _ _ _ 4 [(0, .ref (adr w 110)), (1, .int (iI b)), (2, .int (iI i))] [] F) (I := fun (i : Int) (b : Int) => 0 ≤ i ∧ i ≤ 4 ∧ b = tgI r i ∧ -1 ≤ b ∧ b < i) (μ := fun (i : Int) (b : Int) => (4 - i).toNat) ?_ 0 (-1) (⟨by omega, by omega, rfl, by omega, by omega⟩)
  intro i b hI' ih4
  (try dsimp only at hI'); (try dsimp only at ih4); (try dsimp only)
  obtain ⟨hi0, hi1, hb, hb0, hb1⟩ := hI'
  refine q_iload_n C 2 dX4_target_4 rfl ?_
  refine q_iconst C 4 dX4_target_5 ?_
  refine q_icmp_ge C 56 dX4_target_6 ⟨by omega, by omega⟩ ⟨by decide, by decide⟩ (by decide) (fun h6 => ?_) (fun h6 => ?_)
  · refine q_iload_n C 1 dX4_target_56 rfl ?_
    refine q_iconst C (-1) dX4_target_57 ?_
    refine q_icmp_eq C 81 dX4_target_58 ⟨by omega, by omega⟩ ⟨by decide, by decide⟩ (by decide) (fun h58 => ?_) (fun h58 => ?_)
    · refine q_iconst C (-1) dX4_target_81 ?_
      refine q_iret C dX4_target_82 ?_
      exact ⟨by rw [tg_eq, ← show i = 4 by omega, ← hb]; first | rw [if_pos ⟨by omega, by omega⟩] | rw [if_neg (by omega)], rfl⟩
    · refine q_aload_n C 0 dX4_target_61 rfl ?_
      refine q_iload_n C 1 dX4_target_62 rfl ?_
      refine q_cI (q_runV (As := [.int (iI b)]) (rest := []) C (k_X4_doorWorth l hr hI (d := b) ⟨by omega, by omega⟩) kd110 (by decide) rfl wd_1060 wd_1059 wd_44 wd_81 wd_1057 nd_X4_doorWorth rfl (by decide) ⟨Nat.zero_le _, Nat.zero_le _⟩ rfl (Nat.le_of_ble_eq_true rfl) dX4_target_63) ?_
      rintro z F' ⟨rfl, rfl⟩
      have q63 := dw_range hI (d := b) (by omega) (by omega)
      refine q_aload_n C 0 dX4_target_66 rfl ?_
      refine q_get (T := TX4) (i := 0) C kd110 (by decide) rfl uws4 (by decide) wd_865 rfl dX4_target_67 ?_
      refine q_sipush C 177 dX4_target_70 (by decide) ?_
      refine q_iald C kd111 ⟨by omega, by rw [ln111]; omega⟩ dX4_target_73 ?_
      refine q_top (z' := r 177) (by rw [hr]) ?_
      have q_0 := hI.se
      refine q_icmp_lt C 81 dX4_target_74 ⟨by omega, by omega⟩ ⟨by omega, by omega⟩ (by decide) (fun h74 => ?_) (fun h74 => ?_)
      · refine q_iconst C (-1) dX4_target_81 ?_
        refine q_iret C dX4_target_82 ?_
        exact ⟨by rw [tg_eq, ← show i = 4 by omega, ← hb]; first | rw [if_pos ⟨by omega, by omega⟩] | rw [if_neg (by omega)], rfl⟩
      · refine q_iload_n C 1 dX4_target_77 rfl ?_
        refine q_goto C 82 dX4_target_78 (by decide) ?_
        refine q_iret C dX4_target_82 ?_
        exact ⟨by rw [tg_eq, ← show i = 4 by omega, ← hb]; first | rw [if_pos ⟨by omega, by omega⟩] | rw [if_neg (by omega)], rfl⟩
  · refine q_aload_n C 0 dX4_target_9 rfl ?_
    refine q_iload_n C 2 dX4_target_10 rfl ?_
    refine q_cI (q_runV (As := [.int (iI i)]) (rest := []) C (k_X4_doorWords l hr hI (d := i) ⟨by omega, by omega⟩) kd110 (by decide) rfl wd_1056 wd_1055 wd_43 wd_81 wd_1053 nd_X4_doorWords rfl (by decide) ⟨Nat.zero_le _, Nat.zero_le _⟩ rfl (Nat.le_of_ble_eq_true rfl) dX4_target_11) ?_
    rintro z F' ⟨rfl, rfl⟩
    have q11 := dwo_range hI (d := i) (by omega) (by omega)
    refine q_if_le C 50 dX4_target_14 ⟨by omega, by omega⟩  (by decide) (fun h14 => ?_) (fun h14 => ?_)
    · refine q_iinc (lv' := [(2, .int (iI (i + 1))), (0, .ref (adr w 110)), (1, .int (iI b))]) C 2 dX4_target_50 rfl (by decide) rfl ?_
      refine q_goto C 4 dX4_target_53 (by decide) ?_
      refine q_lv (lv' := [(0, .ref (adr w 110)), (1, .int (iI b)), (2, .int (iI (i + 1)))]) [1, 2, 0] rfl ?_
      exact ih4 (i + 1) b (⟨by omega, by omega, by rw [tgI_s hi0, ← hb]; first | rw [if_pos ⟨by omega, by omega, by omega⟩] | rw [if_neg (by omega)], by omega, by omega⟩) (by omega)
    · refine q_aload_n C 0 dX4_target_17 rfl ?_
      refine q_get (T := TX4) (i := 0) C kd110 (by decide) rfl uws4 (by decide) wd_865 rfl dX4_target_18 ?_
      refine q_sipush C 128 dX4_target_21 (by decide) ?_
      refine q_iload_n C 2 dX4_target_24 rfl ?_
      refine q_iadd C dX4_target_25 ?_
      refine q_iald C kd111 ⟨by omega, by rw [ln111]; omega⟩ dX4_target_26 ?_
      refine q_top (z' := r (128 + i)) (by rw [hr]) ?_
      have q_1 := hI.wt (d := i) (by omega) (by omega)
      refine q_if_ne C 50 dX4_target_27 ⟨by omega, by omega⟩  (by decide) (fun h27 => ?_) (fun h27 => ?_)
      · refine q_iinc (lv' := [(2, .int (iI (i + 1))), (0, .ref (adr w 110)), (1, .int (iI b))]) C 2 dX4_target_50 rfl (by decide) rfl ?_
        refine q_goto C 4 dX4_target_53 (by decide) ?_
        refine q_lv (lv' := [(0, .ref (adr w 110)), (1, .int (iI b)), (2, .int (iI (i + 1)))]) [1, 2, 0] rfl ?_
        exact ih4 (i + 1) b (⟨by omega, by omega, by rw [tgI_s hi0, ← hb]; first | rw [if_pos ⟨by omega, by omega, by omega⟩] | rw [if_neg (by omega)], by omega, by omega⟩) (by omega)
      · refine q_iload_n C 1 dX4_target_30 rfl ?_
        refine q_iconst C (-1) dX4_target_31 ?_
        refine q_icmp_eq C 48 dX4_target_32 ⟨by omega, by omega⟩ ⟨by decide, by decide⟩ (by decide) (fun h32 => ?_) (fun h32 => ?_)
        · refine q_iload_n C 2 dX4_target_48 rfl ?_
          refine q_istore_n (lv' := [(1, .int (iI i)), (0, .ref (adr w 110)), (2, .int (iI i))]) C dX4_target_49 (by decide) rfl ?_
          refine q_iinc (lv' := [(2, .int (iI (i + 1))), (1, .int (iI i)), (0, .ref (adr w 110))]) C 2 dX4_target_50 rfl (by decide) rfl ?_
          refine q_goto C 4 dX4_target_53 (by decide) ?_
          refine q_lv (lv' := [(0, .ref (adr w 110)), (1, .int (iI i)), (2, .int (iI (i + 1)))]) [2, 1, 0] rfl ?_
          exact ih4 (i + 1) i (⟨by omega, by omega, by rw [tgI_s hi0, ← hb]; first | rw [if_pos ⟨by omega, by omega, by omega⟩] | rw [if_neg (by omega)], by omega, by omega⟩) (by omega)
        · refine q_aload_n C 0 dX4_target_35 rfl ?_
          refine q_iload_n C 2 dX4_target_36 rfl ?_
          refine q_cI (q_runV (As := [.int (iI i)]) (rest := []) C (k_X4_doorWorth l hr hI (d := i) ⟨by omega, by omega⟩) kd110 (by decide) rfl wd_1060 wd_1059 wd_44 wd_81 wd_1057 nd_X4_doorWorth rfl (by decide) ⟨Nat.zero_le _, Nat.zero_le _⟩ rfl (Nat.le_of_ble_eq_true rfl) dX4_target_37) ?_
          rintro z F' ⟨rfl, rfl⟩
          have q37 := dw_range hI (d := i) (by omega) (by omega)
          refine q_aload_n C 0 dX4_target_40 rfl ?_
          refine q_iload_n C 1 dX4_target_41 rfl ?_
          refine q_cI (q_runV (As := [.int (iI b)]) (rest := [.int (iI (dw r i))]) C (k_X4_doorWorth l hr hI (d := b) ⟨by omega, by omega⟩) kd110 (by decide) rfl wd_1060 wd_1059 wd_44 wd_81 wd_1057 nd_X4_doorWorth rfl (by decide) ⟨Nat.zero_le _, Nat.zero_le _⟩ rfl (Nat.le_of_ble_eq_true rfl) dX4_target_42) ?_
          rintro z F' ⟨rfl, rfl⟩
          have q42 := dw_range hI (d := b) (by omega) (by omega)
          refine q_icmp_le C 50 dX4_target_45 ⟨by omega, by omega⟩ ⟨by omega, by omega⟩ (by decide) (fun h45 => ?_) (fun h45 => ?_)
          · refine q_iinc (lv' := [(2, .int (iI (i + 1))), (0, .ref (adr w 110)), (1, .int (iI b))]) C 2 dX4_target_50 rfl (by decide) rfl ?_
            refine q_goto C 4 dX4_target_53 (by decide) ?_
            refine q_lv (lv' := [(0, .ref (adr w 110)), (1, .int (iI b)), (2, .int (iI (i + 1)))]) [1, 2, 0] rfl ?_
            exact ih4 (i + 1) b (⟨by omega, by omega, by rw [tgI_s hi0, ← hb]; first | rw [if_pos ⟨by omega, by omega, by omega⟩] | rw [if_neg (by omega)], by omega, by omega⟩) (by omega)
          · refine q_iload_n C 2 dX4_target_48 rfl ?_
            refine q_istore_n (lv' := [(1, .int (iI i)), (0, .ref (adr w 110)), (2, .int (iI i))]) C dX4_target_49 (by decide) rfl ?_
            refine q_iinc (lv' := [(2, .int (iI (i + 1))), (1, .int (iI i)), (0, .ref (adr w 110))]) C 2 dX4_target_50 rfl (by decide) rfl ?_
            refine q_goto C 4 dX4_target_53 (by decide) ?_
            refine q_lv (lv' := [(0, .ref (adr w 110)), (1, .int (iI i)), (2, .int (iI (i + 1)))]) [2, 1, 0] rfl ?_
            exact ih4 (i + 1) i (⟨by omega, by omega, by rw [tgI_s hi0, ← hb]; first | rw [if_pos ⟨by omega, by omega, by omega⟩] | rw [if_neg (by omega)], by omega, by omega⟩) (by omega)

set_option maxRecDepth 100000 in
set_option maxHeartbeats 4000000 in
theorem k_X4_preyOn (l : Launch) {w : WP} {F : FF} {r : Rw} {d : Int} (hr : F 111 = r) (hI : Iv r) (hd : 0 ≤ d ∧ d < 4) : Con l yX4_preyOn cX4_preyOn 6 (some .int) 1 w [.ref (adr w 110), .int (iI d)] F (QI w (fun z F' => z = pon r d ∧ F = F')) := by
  refine Con.mk (lv := [(0, .ref (adr w 110)), (1, .int (iI d))]) (by decide) (Nat.le_of_ble_eq_true rfl) rfl ?_
  intro pg ev s0 mi be me co C hz
  refine q_iconst C (-1) dX4_preyOn_0 ?_
  refine q_istore_n (lv' := [(2, .int (iI (-1))), (0, .ref (adr w 110)), (1, .int (iI d))]) C dX4_preyOn_1 (by decide) rfl ?_
  refine q_iconst C 4 dX4_preyOn_2 ?_
  refine q_iload_n C 2 dX4_preyOn_3 rfl ?_
  refine q_imul C dX4_preyOn_4 ?_
  refine q_iconst C 4 dX4_preyOn_5 ?_
  refine q_iadd C dX4_preyOn_6 ?_
  refine q_iconst C 1 dX4_preyOn_7 ?_
  refine q_isub C dX4_preyOn_8 ?_
  refine q_istore_n (lv' := [(3, .int (iI (((4 * d) + 4) - 1))), (2, .int (iI (-1))), (0, .ref (adr w 110)), (1, .int (iI d))]) C dX4_preyOn_9 (by decide) rfl ?_
  refine q_lv (lv' := [(0, .ref (adr w 110)), (1, .int (iI d)), (2, .int (iI (-1))), (3, .int (iI (((4 * d) + 4) - 1)))]) [2, 3, 1, 0] rfl ?_
  refine wf2 (P := fun (o : Int) (b : Int) => Wq pg l ev _ s0 mi _ be me co _ w _ _ _ 10 [(0, .ref (adr w 110)), (1, .int (iI d)), (2, .int (iI b)), (3, .int (iI o))] [] F) (I := fun (o : Int) (b : Int) => 4 * d - 1 ≤ o ∧ o ≤ 4 * d + 3 ∧ b = ponI r d (4 * d + 3 - o)) (μ := fun (o : Int) (b : Int) => (o + 1 - 4 * d).toNat) ?_ (((4 * d) + 4) - 1) (-1) (⟨by omega, by omega, by rw [show 4 * d + 3 - (4 * d + 4 - 1) = 0 by omega]; rfl⟩)
  intro o b hI' ih10
  (try dsimp only at hI'); (try dsimp only at ih10); (try dsimp only)
  obtain ⟨ho0, ho1, hb⟩ := hI'
  have hbr := ponI_range hI hd (i := 4 * d + 3 - o) (by omega)
  refine q_iload_n C 3 dX4_preyOn_10 rfl ?_
  refine q_iconst C 4 dX4_preyOn_11 ?_
  refine q_iload_n C 1 dX4_preyOn_12 rfl ?_
  refine q_imul C dX4_preyOn_13 ?_
  refine q_icmp_lt C 78 dX4_preyOn_14 ⟨by omega, by omega⟩ ⟨by omega, by omega⟩ (by decide) (fun h14 => ?_) (fun h14 => ?_)
  · refine q_iload_n C 2 dX4_preyOn_78 rfl ?_
    refine q_iret C dX4_preyOn_79 ?_
    exact ⟨by rw [hb, show 4 * d + 3 - o = 4 by omega]; rfl, rfl⟩
  · refine q_iconst C 0 dX4_preyOn_17 ?_
    refine q_istore (lv' := [(4, .int (iI 0)), (0, .ref (adr w 110)), (1, .int (iI d)), (2, .int (iI b)), (3, .int (iI o))]) C dX4_preyOn_18 (by decide) rfl ?_
    refine q_lv (lv' := [(0, .ref (adr w 110)), (1, .int (iI d)), (2, .int (iI b)), (3, .int (iI o)), (4, .int (iI 0))]) [1, 2, 3, 4, 0] rfl ?_
    refine wf2 (P := fun (p : Int) (c : Int) => Wq pg l ev _ s0 mi _ be me co _ w _ _ _ 20 [(0, .ref (adr w 110)), (1, .int (iI d)), (2, .int (iI c)), (3, .int (iI o)), (4, .int (iI p))] [] F) (I := fun (p : Int) (c : Int) => 0 ≤ p ∧ p ≤ r o ∧ c = pinI r o b p) (μ := fun (p : Int) (c : Int) => (r o - p).toNat) ?_ 0 b (⟨by omega, (hI.sz (by omega) (by omega)).1, rfl⟩)
    intro p c hI' ih20
    (try dsimp only at hI'); (try dsimp only at ih20); (try dsimp only)
    obtain ⟨hp0, hp1, hc⟩ := hI'
    have hcr := pinI_range hI (l := o) (b := b) (i := p) ⟨by omega, by omega⟩ (by omega) (by omega)
    refine q_iload C 4 dX4_preyOn_20 rfl ?_
    refine q_aload_n C 0 dX4_preyOn_22 rfl ?_
    refine q_get (T := TX4) (i := 0) C kd110 (by decide) rfl uws4 (by decide) wd_865 rfl dX4_preyOn_23 ?_
    refine q_iconst C 0 dX4_preyOn_26 ?_
    refine q_iload_n C 3 dX4_preyOn_27 rfl ?_
    refine q_iadd C dX4_preyOn_28 ?_
    refine q_iald C kd111 ⟨by omega, by rw [ln111]; omega⟩ dX4_preyOn_29 ?_
    refine q_top (z' := r o) (by rw [hr, Int.zero_add]) ?_
    have q_0 := hI.sz (l := o) (by omega) (by omega)
    refine q_icmp_ge C 72 dX4_preyOn_30 ⟨by omega, by omega⟩ ⟨by omega, by omega⟩ (by decide) (fun h30 => ?_) (fun h30 => ?_)
    · refine q_iinc (lv' := [(3, .int (iI (o + (-1)))), (0, .ref (adr w 110)), (1, .int (iI d)), (2, .int (iI c)), (4, .int (iI p))]) C 3 dX4_preyOn_72 rfl (by decide) rfl ?_
      refine q_goto C 10 dX4_preyOn_75 (by decide) ?_
      refine q_lv (lv' := [(0, .ref (adr w 110)), (1, .int (iI d)), (2, .int (iI c)), (3, .int (iI (o + (-1))))]) [1, 2, 3, 0] rfl ?_
      exact ih10 (o + (-1)) c (⟨by omega, by omega, by rw [hc, show p = r o by omega, show 4 * d + 3 - (o + -1) = (4 * d + 3 - o) + 1 by omega, ponI_s (by omega), ← hb, show 4 * d + 3 - (4 * d + 3 - o) = o by omega]⟩) (by omega)
    · refine q_aload_n C 0 dX4_preyOn_33 rfl ?_
      refine q_iload_n C 3 dX4_preyOn_34 rfl ?_
      refine q_iload C 4 dX4_preyOn_35 rfl ?_
      refine q_cI (q_runV (As := [.int (iI o), .int (iI p)]) (rest := []) C (k_X4_wordAt l hr (x := o) (p := p) ⟨by omega, by omega⟩ ⟨by omega, by omega⟩) kd110 (by decide) rfl wd_948 wd_947 wd_25 wd_81 wd_945 nd_X4_wordAt rfl (by decide) ⟨Nat.zero_le _, Nat.zero_le _⟩ rfl (Nat.le_of_ble_eq_true rfl) dX4_preyOn_37) ?_
      rintro z F' ⟨rfl, rfl⟩
      have q37 := hI.wd (l := o) (p := p) (by omega) (by omega) (by omega) (by omega)
      refine q_istore (lv' := [(5, .int (iI (wa r o p))), (0, .ref (adr w 110)), (1, .int (iI d)), (2, .int (iI c)), (3, .int (iI o)), (4, .int (iI p))]) C dX4_preyOn_40 (by decide) rfl ?_
      refine q_iload_n C 3 dX4_preyOn_42 rfl ?_
      refine q_iconst C (-1) dX4_preyOn_43 ?_
      refine q_icmp_eq C 59 dX4_preyOn_44 ⟨by omega, by omega⟩ ⟨by decide, by decide⟩ (by decide) (fun h44 => ?_) (fun h44 => ?_)
      · refine q_iload C 0 dX4_preyOn_59 rfl ?_
        refine q_goto C 65 dX4_preyOn_61 (by decide) ?_
        refine q_istore_n (lv' := [(2, .int (iI (wa r o p))), (5, .int (iI (wa r o p))), (0, .ref (adr w 110)), (1, .int (iI d)), (3, .int (iI o)), (4, .int (iI p))]) C dX4_preyOn_65 (by decide) rfl ?_
        refine q_iinc (lv' := [(4, .int (iI (p + 1))), (2, .int (iI (wa r o p))), (5, .int (iI (wa r o p))), (0, .ref (adr w 110)), (1, .int (iI d)), (3, .int (iI o))]) C 5 dX4_preyOn_66 rfl (by decide) rfl ?_
        refine q_goto C 20 dX4_preyOn_69 (by decide) ?_
        refine q_lv (lv' := [(0, .ref (adr w 110)), (1, .int (iI d)), (2, .int (iI (wa r o p))), (3, .int (iI o)), (4, .int (iI (p + 1)))]) [3, 4, 1, 5, 0] rfl ?_
        exact ih20 (p + 1) (wa r o p) (⟨by omega, by omega, by rw [pinI_s hp0, ← hc]; first | rw [if_pos (by omega)] | rw [if_neg (by omega)]⟩) (by omega)
      · refine q_iload C 0 dX4_preyOn_47 rfl ?_
        refine q_cI (q_runS (As := [.int (iI (wa r o p))]) (rest := []) C (k_X4_beatsOf l (by omega)) wd_963 wd_962 wd_81 wd_961 nd_X4_beatsOf rfl (by decide) ⟨Nat.zero_le _, Nat.zero_le _⟩ rfl (Nat.le_of_ble_eq_true rfl) dX4_preyOn_49) ?_
        rintro z F' ⟨rfl, rfl⟩
        have q49 := bt_pos (x := wa r o p) (by omega)
        refine q_iload_n C 3 dX4_preyOn_52 rfl ?_
        refine q_cI (q_runS (As := [.int (iI c)]) (rest := [.int (iI (bt (wa r o p)))]) C (k_X4_beatsOf l (by omega)) wd_963 wd_962 wd_81 wd_961 nd_X4_beatsOf rfl (by decide) ⟨Nat.zero_le _, Nat.zero_le _⟩ rfl (Nat.le_of_ble_eq_true rfl) dX4_preyOn_53) ?_
        rintro z F' ⟨rfl, rfl⟩
        have q53 := bt_pos (x := c) (by omega)
        refine q_icmp_le C 64 dX4_preyOn_56 ⟨by omega, by omega⟩ ⟨by omega, by omega⟩ (by decide) (fun h56 => ?_) (fun h56 => ?_)
        · refine q_iload_n C 3 dX4_preyOn_64 rfl ?_
          refine q_istore_n (lv' := [(2, .int (iI c)), (5, .int (iI (wa r o p))), (0, .ref (adr w 110)), (1, .int (iI d)), (3, .int (iI o)), (4, .int (iI p))]) C dX4_preyOn_65 (by decide) rfl ?_
          refine q_iinc (lv' := [(4, .int (iI (p + 1))), (2, .int (iI c)), (5, .int (iI (wa r o p))), (0, .ref (adr w 110)), (1, .int (iI d)), (3, .int (iI o))]) C 5 dX4_preyOn_66 rfl (by decide) rfl ?_
          refine q_goto C 20 dX4_preyOn_69 (by decide) ?_
          refine q_lv (lv' := [(0, .ref (adr w 110)), (1, .int (iI d)), (2, .int (iI c)), (3, .int (iI o)), (4, .int (iI (p + 1)))]) [3, 4, 1, 5, 0] rfl ?_
          exact ih20 (p + 1) c (⟨by omega, by omega, by rw [pinI_s hp0, ← hc]; first | rw [if_pos (by omega)] | rw [if_neg (by omega)]⟩) (by omega)
        · refine q_iload C 0 dX4_preyOn_59 rfl ?_
          refine q_goto C 65 dX4_preyOn_61 (by decide) ?_
          refine q_istore_n (lv' := [(2, .int (iI (wa r o p))), (5, .int (iI (wa r o p))), (0, .ref (adr w 110)), (1, .int (iI d)), (3, .int (iI o)), (4, .int (iI p))]) C dX4_preyOn_65 (by decide) rfl ?_
          refine q_iinc (lv' := [(4, .int (iI (p + 1))), (2, .int (iI (wa r o p))), (5, .int (iI (wa r o p))), (0, .ref (adr w 110)), (1, .int (iI d)), (3, .int (iI o))]) C 5 dX4_preyOn_66 rfl (by decide) rfl ?_
          refine q_goto C 20 dX4_preyOn_69 (by decide) ?_
          refine q_lv (lv' := [(0, .ref (adr w 110)), (1, .int (iI d)), (2, .int (iI (wa r o p))), (3, .int (iI o)), (4, .int (iI (p + 1)))]) [3, 4, 1, 5, 0] rfl ?_
          exact ih20 (p + 1) (wa r o p) (⟨by omega, by omega, by rw [pinI_s hp0, ← hc]; first | rw [if_pos (by omega)] | rw [if_neg (by omega)]⟩) (by omega)

set_option maxRecDepth 100000 in
set_option maxHeartbeats 4000000 in
theorem k_X4_preyNow (l : Launch) {w : WP} {F : FF} {r : Rw} (hr : F 111 = r) (hI : Iv r)  : Con l yX4_preyNow cX4_preyNow 2 (some .int) 7 w [.ref (adr w 110)] F (QI w (fun z F' => z = py r ∧ F = F')) := by
  refine Con.mk (lv := [(0, .ref (adr w 110))]) (by decide) (Nat.le_of_ble_eq_true rfl) rfl ?_
  intro pg ev s0 mi be me co C hz
  refine q_aload_n C 0 dX4_preyNow_0 rfl ?_
  refine q_cI (q_runV (As := []) (rest := []) C (k_X4_target l hr hI ) kd110 (by decide) rfl wd_1052 wd_1051 wd_42 wd_81 wd_1049 nd_X4_target rfl (by decide) ⟨Nat.zero_le _, Nat.zero_le _⟩ rfl (Nat.le_of_ble_eq_true rfl) dX4_preyNow_1) ?_
  rintro z F' ⟨rfl, rfl⟩
  have q1 := tg_range r
  refine q_istore_n (lv' := [(1, .int (iI (tg r))), (0, .ref (adr w 110))]) C dX4_preyNow_4 (by decide) rfl ?_
  refine q_iload_n C 0 dX4_preyNow_5 rfl ?_
  refine q_iconst C (-1) dX4_preyNow_6 ?_
  refine q_icmp_ne C 14 dX4_preyNow_7 ⟨by omega, by omega⟩ ⟨by decide, by decide⟩ (by decide) (fun h7 => ?_) (fun h7 => ?_)
  · refine q_aload_n C 1 dX4_preyNow_14 rfl ?_
    refine q_iload_n C 0 dX4_preyNow_15 rfl ?_
    refine q_cI (q_runV (As := [.int (iI (tg r))]) (rest := []) C (k_X4_preyOn l hr hI (d := tg r) ⟨by omega, by omega⟩) kd110 (by decide) rfl wd_1080 wd_1079 wd_49 wd_81 wd_1077 nd_X4_preyOn rfl (by decide) ⟨Nat.zero_le _, Nat.zero_le _⟩ rfl (Nat.le_of_ble_eq_true rfl) dX4_preyNow_16) ?_
    rintro z F' ⟨rfl, rfl⟩
    have q16 := pon_range hI (d := tg r) ⟨by omega, by omega⟩
    refine q_iret C dX4_preyNow_19 ?_
    exact ⟨by unfold py; first | rw [if_pos (by omega)] | rw [if_neg (by omega)], rfl⟩
  · refine q_iconst C (-1) dX4_preyNow_10 ?_
    refine q_goto C 19 dX4_preyNow_11 (by decide) ?_
    refine q_iret C dX4_preyNow_19 ?_
    exact ⟨by unfold py; first | rw [if_pos (by omega)] | rw [if_neg (by omega)], rfl⟩
