theorem ww_range {r : Rw} {x y q k : Int} (hI : Iv r) (hx : 0 ≤ x ∧ x < 40) (hl : 0 ≤ y ∧ y < 16) (hq : 0 ≤ q ∧ q ≤ r y) (h0 : 0 ≤ k) (h1 : k ≤ r y) : 0 ≤ ww r x y q k ∧ ww r x y q k < 40 := by
  unfold ww
  split
  · exact hI.wd hl.1 hl.2 h0 (by omega)
  · split
    · exact hx
    · exact hI.wd hl.1 hl.2 (by omega) (by omega)
theorem rea_range (r : Rw) (x l p : Int) : 0 ≤ rea r x l p ∧ rea r x l p ≤ 4 := by
  unfold rea; split <;> (try split) <;> (try split) <;> (try split) <;> omega
theorem fw_nn {r : Rw} {l x p : Int} (hI : Iv r) (hl : 0 ≤ l ∧ l < 16) (hx : 0 ≤ x ∨ p < r l) (h0 : 0 ≤ p) : 0 ≤ fw r l x p := by
  unfold fw; split
  · exact (hI.wd hl.1 hl.2 h0 (by assumption)).1
  · omega

set_option maxRecDepth 100000 in
set_option maxHeartbeats 4000000 in
theorem k_X0_homeOf (l : Launch) {w : WP} {F : FF} {b : Nat} {r : Rw} {x : Int} (hb : IsB b) (hB : BI F b r) (hx : 0 ≤ x ∧ x < 40) : Con l yX0_homeOf cX0_homeOf 2 (some .int) 1 w [.ref (adr w b), .int (iI x)] F (QI w (fun z F' => z = home r x ∧ F = F')) := by
  refine Con.mk (lv := [(0, .ref (adr w b)), (1, .int (iI x))]) (by decide) (Nat.le_of_ble_eq_true rfl) rfl ?_
  intro pg ev s0 mi be me co C hz
  have hI := hB.iv
  refine q_aload_n C 0 dX0_homeOf_0 rfl ?_
  refine q_get (T := TX0) (i := 0) C hb.k0 (by decide) rfl uws0 (by decide) wd_43 rfl dX0_homeOf_1 ?_
  refine q_iload_n C 1 dX0_homeOf_4 rfl ?_
  refine q_cI (q_runSN (As := [.ref (adr w (b + 1)), .int (iI x)]) (rest := []) C (k_c1 l hb hB (x := x) ⟨by omega, by omega⟩) wd_265 wd_264 wd_13 nw_263 nd_X3_cell rfl (by decide) ⟨Nat.zero_le _, Nat.zero_le _⟩ rfl (Nat.le_of_ble_eq_true rfl) dX0_homeOf_5) ?_
  rintro z F' ⟨rfl, rfl⟩
  have q5 := home_range r x
  refine q_iret C dX0_homeOf_8 ?_
  exact ⟨rfl, rfl⟩

set_option maxRecDepth 100000 in
set_option maxHeartbeats 4000000 in
theorem k_X0_isInBag (l : Launch) {w : WP} {F : FF} {b : Nat} {r : Rw} {x : Int} (hb : IsB b) (hB : BI F b r) (hx : 0 ≤ x ∧ x < 40) : Con l yX0_isInBag cX0_isInBag 2 (some .boolean) 1 w [.ref (adr w b), .int (iI x)] F (QI w (fun z F' => (z = 1 ∧ home r x = -1 ∨ z = 0 ∧ ¬ home r x = -1) ∧ F = F')) := by
  refine Con.mk (lv := [(0, .ref (adr w b)), (1, .int (iI x))]) (by decide) (Nat.le_of_ble_eq_true rfl) rfl ?_
  intro pg ev s0 mi be me co C hz
  have hI := hB.iv
  refine q_aload_n C 0 dX0_isInBag_0 rfl ?_
  refine q_get (T := TX0) (i := 0) C hb.k0 (by decide) rfl uws0 (by decide) wd_43 rfl dX0_isInBag_1 ?_
  refine q_iload_n C 1 dX0_isInBag_4 rfl ?_
  refine q_cI (q_runSN (As := [.ref (adr w (b + 1)), .int (iI x)]) (rest := []) C (k_c1 l hb hB (x := x) ⟨by omega, by omega⟩) wd_265 wd_264 wd_13 nw_263 nd_X3_cell rfl (by decide) ⟨Nat.zero_le _, Nat.zero_le _⟩ rfl (Nat.le_of_ble_eq_true rfl) dX0_isInBag_5) ?_
  rintro z F' ⟨rfl, rfl⟩
  have q5 := home_range r x
  refine q_iconst C (-1) dX0_isInBag_8 ?_
  refine q_icmp_ne C 16 dX0_isInBag_9 ⟨by omega, by omega⟩ ⟨by decide, by decide⟩ (by decide) (fun h9 => ?_) (fun h9 => ?_)
  · refine q_iconst C 0 dX0_isInBag_16 ?_
    refine q_zret C dX0_isInBag_17 (by decide) ?_
    exact ⟨by omega, rfl⟩
  · refine q_iconst C 1 dX0_isInBag_12 ?_
    refine q_goto C 17 dX0_isInBag_13 (by decide) ?_
    refine q_zret C dX0_isInBag_17 (by decide) ?_
    exact ⟨by omega, rfl⟩

set_option maxRecDepth 100000 in
set_option maxHeartbeats 4000000 in
theorem k_X0_sizeOf (l : Launch) {w : WP} {F : FF} {b : Nat} {r : Rw} {x : Int} (hb : IsB b) (hB : BI F b r) (hl : 0 ≤ x ∧ x < 16) : Con l yX0_sizeOf cX0_sizeOf 2 (some .int) 1 w [.ref (adr w b), .int (iI x)] F (QI w (fun z F' => z = r x ∧ F = F')) := by
  refine Con.mk (lv := [(0, .ref (adr w b)), (1, .int (iI x))]) (by decide) (Nat.le_of_ble_eq_true rfl) rfl ?_
  intro pg ev s0 mi be me co C hz
  have hI := hB.iv
  refine q_aload_n C 0 dX0_sizeOf_0 rfl ?_
  refine q_get (T := TX0) (i := 2) C hb.k0 (by decide) rfl uws0 (by decide) wd_45 rfl dX0_sizeOf_1 ?_
  refine q_iload_n C 1 dX0_sizeOf_4 rfl ?_
  refine q_cI (q_runSN (As := [.ref (adr w (b + 3)), .int (iI x)]) (rest := []) C (k_c3 l hb hB (x := x) ⟨by omega, by omega⟩) wd_265 wd_264 wd_13 nw_263 nd_X3_cell rfl (by decide) ⟨Nat.zero_le _, Nat.zero_le _⟩ rfl (Nat.le_of_ble_eq_true rfl) dX0_sizeOf_5) ?_
  rintro z F' ⟨rfl, rfl⟩
  have q5 := hI.sz (l := x) (by omega) (by omega)
  refine q_iret C dX0_sizeOf_8 ?_
  exact ⟨rfl, rfl⟩

set_option maxRecDepth 100000 in
set_option maxHeartbeats 4000000 in
theorem k_X0_wordAt (l : Launch) {w : WP} {F : FF} {b : Nat} {x p : Int} (hb : IsB b) (hx : 0 ≤ x ∧ x < 16) (hp : -1000 ≤ p ∧ p ≤ 1000) : Con l yX0_wordAt cX0_wordAt 5 (some .int) 0 w [.ref (adr w b), .int (iI x), .int (iI p)] F (QI w (fun z F' => (0 ≤ p ∧ p < 6 → z = F (b+2) (6 * x + p)) ∧ (¬ (0 ≤ p ∧ p < 6) → z = -1) ∧ F = F')) := by
  refine Con.mk (lv := [(0, .ref (adr w b)), (1, .int (iI x)), (2, .int (iI p))]) (by decide) (Nat.le_of_ble_eq_true rfl) rfl ?_
  intro pg ev s0 mi be me co C hz
  refine q_iload_n C 1 dX0_wordAt_0 rfl ?_
  refine q_bipush C 6 dX0_wordAt_1 (by decide) ?_
  refine q_imul C dX0_wordAt_3 ?_
  refine q_iload_n C 2 dX0_wordAt_4 rfl ?_
  refine q_iadd C dX0_wordAt_5 ?_
  refine q_istore_n (lv' := [(3, .int (iI ((x * 6) + p))), (0, .ref (adr w b)), (1, .int (iI x)), (2, .int (iI p))]) C dX0_wordAt_6 (by decide) rfl ?_
  refine q_iload_n C 3 dX0_wordAt_7 rfl ?_
  refine q_if_lt C 34 dX0_wordAt_8 ⟨by omega, by omega⟩  (by decide) (fun h8 => ?_) (fun h8 => ?_)
  · refine q_iconst C 0 dX0_wordAt_34 ?_
    refine q_istore (lv' := [(4, .int (iI 0)), (3, .int (iI ((x * 6) + p))), (0, .ref (adr w b)), (1, .int (iI x)), (2, .int (iI p))]) C dX0_wordAt_35 (by decide) rfl ?_
    refine q_iload C 0 dX0_wordAt_37 rfl ?_
    refine q_if_eq C 51 dX0_wordAt_39 ⟨by decide, by decide⟩  (by decide) (fun _ => ?_) (fun h => absurd h (by decide))
    refine q_iconst C (-1) dX0_wordAt_51 ?_
    refine q_iret C dX0_wordAt_52 ?_
    exact ⟨fun h => by omega, fun _ => rfl, rfl⟩
  · refine q_iload_n C 3 dX0_wordAt_11 rfl ?_
    refine q_bipush C 6 dX0_wordAt_12 (by decide) ?_
    refine q_icmp_ge C 34 dX0_wordAt_14 ⟨by omega, by omega⟩ ⟨by decide, by decide⟩ (by decide) (fun h14 => ?_) (fun h14 => ?_)
    · refine q_iconst C 0 dX0_wordAt_34 ?_
      refine q_istore (lv' := [(4, .int (iI 0)), (3, .int (iI ((x * 6) + p))), (0, .ref (adr w b)), (1, .int (iI x)), (2, .int (iI p))]) C dX0_wordAt_35 (by decide) rfl ?_
      refine q_iload C 0 dX0_wordAt_37 rfl ?_
      refine q_if_eq C 51 dX0_wordAt_39 ⟨by decide, by decide⟩  (by decide) (fun _ => ?_) (fun h => absurd h (by decide))
      refine q_iconst C (-1) dX0_wordAt_51 ?_
      refine q_iret C dX0_wordAt_52 ?_
      exact ⟨fun h => by omega, fun _ => rfl, rfl⟩
    · refine q_iload_n C 0 dX0_wordAt_17 rfl ?_
      refine q_if_lt C 34 dX0_wordAt_18 ⟨by omega, by omega⟩  (by decide) (fun h18 => ?_) (fun h18 => ?_)
      · refine q_iconst C 0 dX0_wordAt_34 ?_
        refine q_istore (lv' := [(4, .int (iI 0)), (3, .int (iI ((x * 6) + p))), (0, .ref (adr w b)), (1, .int (iI x)), (2, .int (iI p))]) C dX0_wordAt_35 (by decide) rfl ?_
        refine q_iload C 0 dX0_wordAt_37 rfl ?_
        refine q_if_eq C 51 dX0_wordAt_39 ⟨by decide, by decide⟩  (by decide) (fun _ => ?_) (fun h => absurd h (by decide))
        refine q_iconst C (-1) dX0_wordAt_51 ?_
        refine q_iret C dX0_wordAt_52 ?_
        exact ⟨fun h => by omega, fun _ => rfl, rfl⟩
      · refine q_iload_n C 0 dX0_wordAt_21 rfl ?_
        refine q_aload_n C 1 dX0_wordAt_22 rfl ?_
        refine q_get (T := TX0) (i := 1) C hb.k0 (by decide) rfl uws0 (by decide) wd_44 rfl dX0_wordAt_23 ?_
        refine q_alen (N := 96) C (by rw [hb.k2]; decide) hb.n2 dX0_wordAt_26 ?_
        refine q_icmp_ge C 34 dX0_wordAt_27 ⟨by omega, by omega⟩ ⟨by decide, by decide⟩ (by decide) (fun h27 => ?_) (fun h27 => ?_)
        · refine q_iconst C 0 dX0_wordAt_34 ?_
          refine q_istore (lv' := [(4, .int (iI 0)), (3, .int (iI ((x * 6) + p))), (0, .ref (adr w b)), (1, .int (iI x)), (2, .int (iI p))]) C dX0_wordAt_35 (by decide) rfl ?_
          refine q_iload C 0 dX0_wordAt_37 rfl ?_
          refine q_if_eq C 51 dX0_wordAt_39 ⟨by decide, by decide⟩  (by decide) (fun _ => ?_) (fun h => absurd h (by decide))
          refine q_iconst C (-1) dX0_wordAt_51 ?_
          refine q_iret C dX0_wordAt_52 ?_
          exact ⟨fun h => by omega, fun _ => rfl, rfl⟩
        · refine q_iconst C 1 dX0_wordAt_30 ?_
          refine q_goto C 35 dX0_wordAt_31 (by decide) ?_
          refine q_istore (lv' := [(4, .int (iI 1)), (3, .int (iI ((x * 6) + p))), (0, .ref (adr w b)), (1, .int (iI x)), (2, .int (iI p))]) C dX0_wordAt_35 (by decide) rfl ?_
          refine q_iload C 0 dX0_wordAt_37 rfl ?_
          refine q_if_eq C 51 dX0_wordAt_39 ⟨by decide, by decide⟩  (by decide) (fun h => absurd h (by decide)) (fun _ => ?_)
          refine q_aload_n C 2 dX0_wordAt_42 rfl ?_
          refine q_get (T := TX0) (i := 1) C hb.k0 (by decide) rfl uws0 (by decide) wd_44 rfl dX0_wordAt_43 ?_
          refine q_iload_n C 1 dX0_wordAt_46 rfl ?_
          refine q_iald C hb.k2 ⟨by omega, by rw [hb.n2]; omega⟩ dX0_wordAt_47 ?_
          refine q_goto C 52 dX0_wordAt_48 (by decide) ?_
          refine q_iret C dX0_wordAt_52 ?_
          exact ⟨fun _ => by rw [Int.mul_comm 6 x], fun h => by omega, rfl⟩

theorem k_wat {w : WP} {F : FF} {b : Nat} {r : Rw} {x p : Int} (l : Launch) (hb : IsB b) (hB : BI F b r) (hx : 0 ≤ x ∧ x < 16) (hp : -1000 ≤ p ∧ p ≤ 1000) : Con l yX0_wordAt cX0_wordAt 5 (some .int) 0 w [.ref (adr w b), .int (iI x), .int (iI p)] F (QI w (fun z F' => ((0 ≤ p ∧ p < r x) ∧ z = wa r x p ∨ ¬ (0 ≤ p ∧ p < r x) ∧ z = -1) ∧ F = F')) := (k_X0_wordAt l hb hx hp).post (fun z F' h => ⟨by
  have hs := hB.iv.sz hx.1 hx.2
  by_cases q : 0 ≤ p ∧ p < 6
  · have e := hB.h2 hx.1 hx.2 q.1 q.2
    rw [h.1 q, e]
    by_cases q2 : p < r x
    · rw [if_pos q2]; left; exact ⟨⟨q.1, q2⟩, rfl⟩
    · rw [if_neg q2]; right; exact ⟨fun q3 => q2 q3.2, rfl⟩
  · right; exact ⟨by omega, h.2.1 q⟩, h.2.2⟩)
theorem k_wat_in {w : WP} {F : FF} {b : Nat} {r : Rw} {x p : Int} (l : Launch) (hb : IsB b) (hB : BI F b r) (hx : 0 ≤ x ∧ x < 16) (hp : 0 ≤ p ∧ p < r x) : Con l yX0_wordAt cX0_wordAt 5 (some .int) 0 w [.ref (adr w b), .int (iI x), .int (iI p)] F (QI w (fun z F' => z = wa r x p ∧ F = F')) := (k_wat l hb hB hx (by have := hB.iv.sz hx.1 hx.2; omega)).post (fun z F' h => ⟨by
  rcases h.1 with ⟨_, e⟩ | ⟨q, _⟩
  · exact e
  · exact absurd hp q, h.2⟩)

set_option maxRecDepth 100000 in
set_option maxHeartbeats 4000000 in
theorem k_X0_placeOf (l : Launch) {w : WP} {F : FF} {b : Nat} {r : Rw} {x : Int} (hb : IsB b) (hB : BI F b r) (hx : 0 ≤ x ∧ x < 40) : Con l yX0_placeOf cX0_placeOf 4 (some .int) 1 w [.ref (adr w b), .int (iI x)] F (QI w (fun z F' => z = plc r x ∧ F = F')) := by
  refine Con.mk (lv := [(0, .ref (adr w b)), (1, .int (iI x))]) (by decide) (Nat.le_of_ble_eq_true rfl) rfl ?_
  intro pg ev s0 mi be me co C hz
  have hI := hB.iv
  refine q_aload_n C 0 dX0_placeOf_0 rfl ?_
  refine q_get (T := TX0) (i := 0) C hb.k0 (by decide) rfl uws0 (by decide) wd_43 rfl dX0_placeOf_1 ?_
  refine q_iload_n C 1 dX0_placeOf_4 rfl ?_
  refine q_cI (q_runSN (As := [.ref (adr w (b + 1)), .int (iI x)]) (rest := []) C (k_c1 l hb hB (x := x) ⟨by omega, by omega⟩) wd_265 wd_264 wd_13 nw_263 nd_X3_cell rfl (by decide) ⟨Nat.zero_le _, Nat.zero_le _⟩ rfl (Nat.le_of_ble_eq_true rfl) dX0_placeOf_5) ?_
  rintro z F' ⟨rfl, rfl⟩
  have q5 := home_range r x
  refine q_istore_n (lv' := [(2, .int (iI (home r x))), (0, .ref (adr w b)), (1, .int (iI x))]) C dX0_placeOf_8 (by decide) rfl ?_
  refine q_iconst C 0 dX0_placeOf_9 ?_
  refine q_istore_n (lv' := [(3, .int (iI 0)), (2, .int (iI (home r x))), (0, .ref (adr w b)), (1, .int (iI x))]) C dX0_placeOf_10 (by decide) rfl ?_
  refine q_lv (lv' := [(0, .ref (adr w b)), (1, .int (iI x)), (2, .int (iI (home r x))), (3, .int (iI 0))]) [2, 3, 1, 0] rfl ?_
  refine wf1 (P := fun (i : Int) => Wq pg l ev _ s0 mi _ be me co _ w _ _ _ 11 [(0, .ref (adr w b)), (1, .int (iI x)), (2, .int (iI (home r x))), (3, .int (iI i))] [] F) (I := fun (i : Int) => 0 ≤ i ∧ i ≤ 6 ∧ (home r x = -1 → i = 0) ∧ (home r x ≠ -1 → i ≤ r (home r x)) ∧ ∀ j, 0 ≤ j → j < i → wa r (home r x) j ≠ x) (μ := fun (i : Int) => (6 - i).toNat) ?_ 0 (⟨by omega, by omega, fun _ => rfl, fun h => (hI.sz (by omega) (by omega)).1, fun j a b => by omega⟩)
  intro i hI' ih11
  (try dsimp only at hI'); (try dsimp only at ih11); (try dsimp only)
  obtain ⟨hi0, hi1, hi2, hi3, hi4⟩ := hI'
  have qh := home_range r x
  refine q_iload_n C 3 dX0_placeOf_11 rfl ?_
  refine q_aload_n C 0 dX0_placeOf_12 rfl ?_
  refine q_get (T := TX0) (i := 2) C hb.k0 (by decide) rfl uws0 (by decide) wd_45 rfl dX0_placeOf_13 ?_
  refine q_iload_n C 2 dX0_placeOf_16 rfl ?_
  refine q_cI (q_runSN (As := [.ref (adr w (b + 3)), .int (iI (home r x))]) (rest := [.int (iI i)]) C (k_c3m l hb hB (x := home r x) ⟨by omega, by omega⟩) wd_265 wd_264 wd_13 nw_263 nd_X3_cell rfl (by decide) ⟨Nat.zero_le _, Nat.zero_le _⟩ rfl (Nat.le_of_ble_eq_true rfl) dX0_placeOf_17) ?_
  rintro z F' ⟨⟨hm, rfl⟩ | ⟨hm, rfl⟩, rfl⟩
  · refine q_icmp_ge C 41 dX0_placeOf_20 ⟨by omega, by omega⟩ ⟨by decide, by decide⟩ (by decide) (fun h20 => ?_) (fun h20 => ?_)
    · refine q_iconst C (-1) dX0_placeOf_41 ?_
      refine q_iret C dX0_placeOf_42 ?_
      first | exact ⟨by rw [plc, if_pos hm], rfl⟩ | (have hh := home_at hI (x := x) (by omega); exact absurd hh.2.2.2.2 (hi4 _ hh.2.2.1 (by omega)))
    · refine q_aload_n C 0 dX0_placeOf_23 rfl ?_
      refine q_iload_n C 2 dX0_placeOf_24 rfl ?_
      refine q_iload_n C 3 dX0_placeOf_25 rfl ?_
      refine q_cI (q_runV (As := [.int (iI (home r x)), .int (iI i)]) (rest := []) C (k_wat_in l hb hB (x := home r x) (p := i) ⟨by omega, by omega⟩ ⟨by omega, by omega⟩) hb.k0 (by decide) rfl wd_282 wd_280 wd_281 wd_14 wd_279 nd_X0_wordAt rfl (by decide) ⟨Nat.zero_le _, Nat.zero_le _⟩ rfl (Nat.le_of_ble_eq_true rfl) dX0_placeOf_26) ?_
      rintro z F' ⟨rfl, rfl⟩
      have q26 := hI.wd (l := home r x) (p := i) (by omega) (by omega) (by omega) (by omega)
      refine q_iload_n C 1 dX0_placeOf_29 rfl ?_
      refine q_icmp_ne C 35 dX0_placeOf_30 ⟨by omega, by omega⟩ ⟨by omega, by omega⟩ (by decide) (fun h30 => ?_) (fun h30 => ?_)
      · refine q_iinc (lv' := [(3, .int (iI (i + 1))), (0, .ref (adr w b)), (1, .int (iI x)), (2, .int (iI (home r x)))]) C 3 dX0_placeOf_35 rfl (by decide) rfl ?_
        refine q_goto C 11 dX0_placeOf_38 (by decide) ?_
        refine q_lv (lv' := [(0, .ref (adr w b)), (1, .int (iI x)), (2, .int (iI (home r x))), (3, .int (iI (i + 1)))]) [1, 2, 3, 0] rfl ?_
        exact ih11 (i + 1) (⟨by omega, by omega, fun h => by omega, fun h => by omega, fun j a b => by rcases (show j < i ∨ j = i by omega) with g | g; exact hi4 j a g; rw [g]; assumption⟩) (by omega)
      · refine q_iload_n C 3 dX0_placeOf_33 rfl ?_
        refine q_iret C dX0_placeOf_34 ?_
        exact ⟨by rw [plc, if_neg (by omega)]; exact (pl_is hI (by omega) (by omega) hi0 (by omega) (by assumption)).symm, rfl⟩
  · have q17 := hI.sz (l := home r x) (by omega) (by omega)
    refine q_icmp_ge C 41 dX0_placeOf_20 ⟨by omega, by omega⟩ ⟨by omega, by omega⟩ (by decide) (fun h20 => ?_) (fun h20 => ?_)
    · refine q_iconst C (-1) dX0_placeOf_41 ?_
      refine q_iret C dX0_placeOf_42 ?_
      first | exact ⟨by rw [plc, if_pos hm], rfl⟩ | (have hh := home_at hI (x := x) (by omega); exact absurd hh.2.2.2.2 (hi4 _ hh.2.2.1 (by omega)))
    · refine q_aload_n C 0 dX0_placeOf_23 rfl ?_
      refine q_iload_n C 2 dX0_placeOf_24 rfl ?_
      refine q_iload_n C 3 dX0_placeOf_25 rfl ?_
      refine q_cI (q_runV (As := [.int (iI (home r x)), .int (iI i)]) (rest := []) C (k_wat_in l hb hB (x := home r x) (p := i) ⟨by omega, by omega⟩ ⟨by omega, by omega⟩) hb.k0 (by decide) rfl wd_282 wd_280 wd_281 wd_14 wd_279 nd_X0_wordAt rfl (by decide) ⟨Nat.zero_le _, Nat.zero_le _⟩ rfl (Nat.le_of_ble_eq_true rfl) dX0_placeOf_26) ?_
      rintro z F' ⟨rfl, rfl⟩
      have q26 := hI.wd (l := home r x) (p := i) (by omega) (by omega) (by omega) (by omega)
      refine q_iload_n C 1 dX0_placeOf_29 rfl ?_
      refine q_icmp_ne C 35 dX0_placeOf_30 ⟨by omega, by omega⟩ ⟨by omega, by omega⟩ (by decide) (fun h30 => ?_) (fun h30 => ?_)
      · refine q_iinc (lv' := [(3, .int (iI (i + 1))), (0, .ref (adr w b)), (1, .int (iI x)), (2, .int (iI (home r x)))]) C 3 dX0_placeOf_35 rfl (by decide) rfl ?_
        refine q_goto C 11 dX0_placeOf_38 (by decide) ?_
        refine q_lv (lv' := [(0, .ref (adr w b)), (1, .int (iI x)), (2, .int (iI (home r x))), (3, .int (iI (i + 1)))]) [1, 2, 3, 0] rfl ?_
        exact ih11 (i + 1) (⟨by omega, by omega, fun h => by omega, fun h => by omega, fun j a b => by rcases (show j < i ∨ j = i by omega) with g | g; exact hi4 j a g; rw [g]; assumption⟩) (by omega)
      · refine q_iload_n C 3 dX0_placeOf_33 rfl ?_
        refine q_iret C dX0_placeOf_34 ?_
        exact ⟨by rw [plc, if_neg (by omega)]; exact (pl_is hI (by omega) (by omega) hi0 (by omega) (by assumption)).symm, rfl⟩

set_option maxRecDepth 100000 in
set_option maxHeartbeats 4000000 in
theorem k_X0_bagToldByWords (l : Launch) {w : WP} {F : FF} {b : Nat} {r : Rw} (hb : IsB b) (hB : BI F b r)  : Con l yX0_bagToldByWords cX0_bagToldByWords 3 (some .int) 0 w [.ref (adr w b)] F (QI w (fun z F' => z = bg r ∧ F = F')) := by
  refine Con.mk (lv := [(0, .ref (adr w b))]) (by decide) (Nat.le_of_ble_eq_true rfl) rfl ?_
  intro pg ev s0 mi be me co C hz
  have hI := hB.iv
  refine q_iconst C 0 dX0_bagToldByWords_0 ?_
  refine q_istore_n (lv' := [(1, .int (iI 0)), (0, .ref (adr w b))]) C dX0_bagToldByWords_1 (by decide) rfl ?_
  refine q_iconst C 0 dX0_bagToldByWords_2 ?_
  refine q_istore_n (lv' := [(2, .int (iI 0)), (1, .int (iI 0)), (0, .ref (adr w b))]) C dX0_bagToldByWords_3 (by decide) rfl ?_
  refine q_lv (lv' := [(0, .ref (adr w b)), (1, .int (iI 0)), (2, .int (iI 0))]) [2, 1, 0] rfl ?_
  refine wf2 (P := fun (i : Int) (n : Int) => Wq pg l ev _ s0 mi _ be me co _ w _ _ _ 4 [(0, .ref (adr w b)), (1, .int (iI n)), (2, .int (iI i))] [] F) (I := fun (i : Int) (n : Int) => 0 ≤ i ∧ i ≤ 40 ∧ n = sm (fun x => if home r x = -1 then 1 else 0) i) (μ := fun (i : Int) (n : Int) => (40 - i).toNat) ?_ 0 0 (⟨by omega, by omega, rfl⟩)
  intro i n hI' ih4
  (try dsimp only at hI'); (try dsimp only at ih4); (try dsimp only)
  obtain ⟨hi0, hi1, hi2⟩ := hI'
  refine q_iload_n C 2 dX0_bagToldByWords_4 rfl ?_
  refine q_aload_n C 0 dX0_bagToldByWords_5 rfl ?_
  refine q_get (T := TX0) (i := 0) C hb.k0 (by decide) rfl uws0 (by decide) wd_43 rfl dX0_bagToldByWords_6 ?_
  refine q_alen (N := 40) C (by rw [hb.k1]; decide) hb.n1 dX0_bagToldByWords_9 ?_
  refine q_icmp_ge C 32 dX0_bagToldByWords_10 ⟨by omega, by omega⟩ ⟨by decide, by decide⟩ (by decide) (fun h10 => ?_) (fun h10 => ?_)
  · refine q_iload_n C 1 dX0_bagToldByWords_32 rfl ?_
    refine q_iret C dX0_bagToldByWords_33 ?_
    exact ⟨by rw [← hI.cn, hi2, show i = 40 by omega]; rfl, rfl⟩
  · refine q_aload_n C 0 dX0_bagToldByWords_13 rfl ?_
    refine q_get (T := TX0) (i := 0) C hb.k0 (by decide) rfl uws0 (by decide) wd_43 rfl dX0_bagToldByWords_14 ?_
    refine q_iload_n C 2 dX0_bagToldByWords_17 rfl ?_
    refine q_iald C hb.k1 ⟨by omega, by rw [hb.n1]; omega⟩ dX0_bagToldByWords_18 ?_
    rw [hB.h1 (x := i) (by omega) (by omega)]
    have qr := home_range r i
    refine q_iconst C (-1) dX0_bagToldByWords_19 ?_
    refine q_icmp_ne C 26 dX0_bagToldByWords_20 ⟨by omega, by omega⟩ ⟨by decide, by decide⟩ (by decide) (fun h20 => ?_) (fun h20 => ?_)
    · refine q_iinc (lv' := [(2, .int (iI (i + 1))), (0, .ref (adr w b)), (1, .int (iI n))]) C 2 dX0_bagToldByWords_26 rfl (by decide) rfl ?_
      refine q_goto C 4 dX0_bagToldByWords_29 (by decide) ?_
      refine q_lv (lv' := [(0, .ref (adr w b)), (1, .int (iI n)), (2, .int (iI (i + 1)))]) [1, 2, 0] rfl ?_
      exact ih4 (i + 1) n (⟨by omega, by omega, by rw [sm_s hi0, hi2]; split <;> omega⟩) (by omega)
    · refine q_iinc (lv' := [(1, .int (iI (n + 1))), (0, .ref (adr w b)), (2, .int (iI i))]) C 1 dX0_bagToldByWords_23 rfl (by decide) rfl ?_
      refine q_iinc (lv' := [(2, .int (iI (i + 1))), (1, .int (iI (n + 1))), (0, .ref (adr w b))]) C 2 dX0_bagToldByWords_26 rfl (by decide) rfl ?_
      refine q_goto C 4 dX0_bagToldByWords_29 (by decide) ?_
      refine q_lv (lv' := [(0, .ref (adr w b)), (1, .int (iI (n + 1))), (2, .int (iI (i + 1)))]) [2, 1, 0] rfl ?_
      exact ih4 (i + 1) (n + 1) (⟨by omega, by omega, by rw [sm_s hi0, hi2]; split <;> omega⟩) (by omega)

set_option maxRecDepth 100000 in
set_option maxHeartbeats 4000000 in
theorem k_X0_bagToldByLines (l : Launch) {w : WP} {F : FF} {b : Nat} {r : Rw} (hb : IsB b) (hB : BI F b r)  : Con l yX0_bagToldByLines cX0_bagToldByLines 3 (some .int) 0 w [.ref (adr w b)] F (QI w (fun z F' => z = bg r ∧ F = F')) := by
  refine Con.mk (lv := [(0, .ref (adr w b))]) (by decide) (Nat.le_of_ble_eq_true rfl) rfl ?_
  intro pg ev s0 mi be me co C hz
  have hI := hB.iv
  refine q_bipush C 40 dX0_bagToldByLines_0 (by decide) ?_
  refine q_istore_n (lv' := [(1, .int (iI 40)), (0, .ref (adr w b))]) C dX0_bagToldByLines_2 (by decide) rfl ?_
  refine q_iconst C 0 dX0_bagToldByLines_3 ?_
  refine q_istore_n (lv' := [(2, .int (iI 0)), (1, .int (iI 40)), (0, .ref (adr w b))]) C dX0_bagToldByLines_4 (by decide) rfl ?_
  refine q_lv (lv' := [(0, .ref (adr w b)), (1, .int (iI 40)), (2, .int (iI 0))]) [2, 1, 0] rfl ?_
  refine wf2 (P := fun (i : Int) (n : Int) => Wq pg l ev _ s0 mi _ be me co _ w _ _ _ 5 [(0, .ref (adr w b)), (1, .int (iI n)), (2, .int (iI i))] [] F) (I := fun (i : Int) (n : Int) => 0 ≤ i ∧ i ≤ 16 ∧ n = 40 - sm (fun x => r x) i) (μ := fun (i : Int) (n : Int) => (16 - i).toNat) ?_ 0 40 (⟨by omega, by omega, rfl⟩)
  intro i n hI' ih5
  (try dsimp only at hI'); (try dsimp only at ih5); (try dsimp only)
  obtain ⟨hi0, hi1, hi2⟩ := hI'
  refine q_iload_n C 2 dX0_bagToldByLines_5 rfl ?_
  refine q_aload_n C 0 dX0_bagToldByLines_6 rfl ?_
  refine q_get (T := TX0) (i := 2) C hb.k0 (by decide) rfl uws0 (by decide) wd_45 rfl dX0_bagToldByLines_7 ?_
  refine q_alen (N := 16) C (by rw [hb.k3]; decide) hb.n3 dX0_bagToldByLines_10 ?_
  refine q_icmp_ge C 29 dX0_bagToldByLines_11 ⟨by omega, by omega⟩ ⟨by decide, by decide⟩ (by decide) (fun h11 => ?_) (fun h11 => ?_)
  · refine q_iload_n C 1 dX0_bagToldByLines_29 rfl ?_
    refine q_iret C dX0_bagToldByLines_30 ?_
    exact ⟨by rw [hi2, show i = 16 by omega]; rfl, rfl⟩
  · refine q_iload_n C 1 dX0_bagToldByLines_14 rfl ?_
    refine q_aload_n C 0 dX0_bagToldByLines_15 rfl ?_
    refine q_get (T := TX0) (i := 2) C hb.k0 (by decide) rfl uws0 (by decide) wd_45 rfl dX0_bagToldByLines_16 ?_
    refine q_iload_n C 2 dX0_bagToldByLines_19 rfl ?_
    refine q_iald C hb.k3 ⟨by omega, by rw [hb.n3]; omega⟩ dX0_bagToldByLines_20 ?_
    rw [hB.h3 (x := i) (by omega) (by omega)]
    have qr := hI.sz (l := i) (by omega) (by omega)
    refine q_isub C dX0_bagToldByLines_21 ?_
    refine q_istore_n (lv' := [(1, .int (iI (n - (r i)))), (0, .ref (adr w b)), (2, .int (iI i))]) C dX0_bagToldByLines_22 (by decide) rfl ?_
    refine q_iinc (lv' := [(2, .int (iI (i + 1))), (1, .int (iI (n - (r i)))), (0, .ref (adr w b))]) C 2 dX0_bagToldByLines_23 rfl (by decide) rfl ?_
    refine q_goto C 5 dX0_bagToldByLines_26 (by decide) ?_
    refine q_lv (lv' := [(0, .ref (adr w b)), (1, .int (iI (n - (r i)))), (2, .int (iI (i + 1)))]) [2, 1, 0] rfl ?_
    exact ih5 (i + 1) (n - (r i)) (⟨by omega, by omega, by rw [sm_s hi0, hi2]; omega⟩) (by omega)

set_option maxRecDepth 100000 in
set_option maxHeartbeats 4000000 in
theorem k_X0_wordsOfDoor (l : Launch) {w : WP} {F : FF} {b : Nat} {r : Rw} {d : Int} (hb : IsB b) (hB : BI F b r) (hd : 0 ≤ d ∧ d < 4) : Con l yX0_wordsOfDoor cX0_wordsOfDoor 4 (some .int) 1 w [.ref (adr w b), .int (iI d)] F (QI w (fun z F' => z = dwo r d ∧ F = F')) := by
  refine Con.mk (lv := [(0, .ref (adr w b)), (1, .int (iI d))]) (by decide) (Nat.le_of_ble_eq_true rfl) rfl ?_
  intro pg ev s0 mi be me co C hz
  have hI := hB.iv
  refine q_iconst C 0 dX0_wordsOfDoor_0 ?_
  refine q_istore_n (lv' := [(2, .int (iI 0)), (0, .ref (adr w b)), (1, .int (iI d))]) C dX0_wordsOfDoor_1 (by decide) rfl ?_
  refine q_iconst C 0 dX0_wordsOfDoor_2 ?_
  refine q_istore_n (lv' := [(3, .int (iI 0)), (2, .int (iI 0)), (0, .ref (adr w b)), (1, .int (iI d))]) C dX0_wordsOfDoor_3 (by decide) rfl ?_
  refine q_lv (lv' := [(0, .ref (adr w b)), (1, .int (iI d)), (2, .int (iI 0)), (3, .int (iI 0))]) [2, 3, 1, 0] rfl ?_
  refine wf2 (P := fun (i : Int) (n : Int) => Wq pg l ev _ s0 mi _ be me co _ w _ _ _ 4 [(0, .ref (adr w b)), (1, .int (iI d)), (2, .int (iI n)), (3, .int (iI i))] [] F) (I := fun (i : Int) (n : Int) => 0 ≤ i ∧ i ≤ 4 ∧ n = sm (fun i => r (4 * d + i)) i) (μ := fun (i : Int) (n : Int) => (4 - i).toNat) ?_ 0 0 (⟨by omega, by omega, rfl⟩)
  intro i n hI' ih4
  (try dsimp only at hI'); (try dsimp only at ih4); (try dsimp only)
  obtain ⟨hi0, hi1, hi2⟩ := hI'
  refine q_iload_n C 3 dX0_wordsOfDoor_4 rfl ?_
  refine q_iconst C 4 dX0_wordsOfDoor_5 ?_
  refine q_icmp_ge C 30 dX0_wordsOfDoor_6 ⟨by omega, by omega⟩ ⟨by decide, by decide⟩ (by decide) (fun h6 => ?_) (fun h6 => ?_)
  · refine q_iload_n C 2 dX0_wordsOfDoor_30 rfl ?_
    refine q_iret C dX0_wordsOfDoor_31 ?_
    exact ⟨by rw [hi2, show i = 4 by omega]; rfl, rfl⟩
  · refine q_iload_n C 2 dX0_wordsOfDoor_9 rfl ?_
    refine q_aload_n C 0 dX0_wordsOfDoor_10 rfl ?_
    refine q_get (T := TX0) (i := 2) C hb.k0 (by decide) rfl uws0 (by decide) wd_45 rfl dX0_wordsOfDoor_11 ?_
    refine q_iload_n C 1 dX0_wordsOfDoor_14 rfl ?_
    refine q_iload_n C 3 dX0_wordsOfDoor_15 rfl ?_
    refine q_cI (q_runSN (As := [.int (iI d), .int (iI i)]) (rest := [.ref (adr w (b + 3)), .int (iI n)]) C (k_X3_lineNumber l) wd_308 wd_307 wd_13 nw_339 nd_X3_lineNumber rfl (by decide) ⟨Nat.zero_le _, Nat.zero_le _⟩ rfl (Nat.le_of_ble_eq_true rfl) dX0_wordsOfDoor_16) ?_
    rintro z F' ⟨rfl, rfl⟩
    refine q_cI (q_runSN (As := [.ref (adr w (b + 3)), .int (iI (4 * d + i))]) (rest := [.int (iI n)]) C (k_c3 l hb hB (x := 4 * d + i) ⟨by omega, by omega⟩) wd_265 wd_264 wd_13 nw_263 nd_X3_cell rfl (by decide) ⟨Nat.zero_le _, Nat.zero_le _⟩ rfl (Nat.le_of_ble_eq_true rfl) dX0_wordsOfDoor_19) ?_
    rintro z F' ⟨rfl, rfl⟩
    have q19 := hI.sz (l := 4 * d + i) (by omega) (by omega)
    refine q_iadd C dX0_wordsOfDoor_22 ?_
    refine q_istore_n (lv' := [(2, .int (iI (n + (r (4 * d + i))))), (0, .ref (adr w b)), (1, .int (iI d)), (3, .int (iI i))]) C dX0_wordsOfDoor_23 (by decide) rfl ?_
    refine q_iinc (lv' := [(3, .int (iI (i + 1))), (2, .int (iI (n + (r (4 * d + i))))), (0, .ref (adr w b)), (1, .int (iI d))]) C 3 dX0_wordsOfDoor_24 rfl (by decide) rfl ?_
    refine q_goto C 4 dX0_wordsOfDoor_27 (by decide) ?_
    refine q_lv (lv' := [(0, .ref (adr w b)), (1, .int (iI d)), (2, .int (iI (n + (r (4 * d + i))))), (3, .int (iI (i + 1)))]) [2, 3, 1, 0] rfl ?_
    exact ih4 (i + 1) (n + (r (4 * d + i))) (⟨by omega, by omega, by rw [sm_s hi0, hi2]⟩) (by omega)

set_option maxRecDepth 100000 in
set_option maxHeartbeats 4000000 in
theorem k_X0_beatsOn (l : Launch) {w : WP} {F : FF} {b : Nat} {r : Rw} {x : Int} (hb : IsB b) (hB : BI F b r) (hl : 0 ≤ x ∧ x < 16) : Con l yX0_beatsOn cX0_beatsOn 4 (some .int) 1 w [.ref (adr w b), .int (iI x)] F (QI w (fun z F' => z = bo (wa r x) (r x) ∧ F = F')) := by
  refine Con.mk (lv := [(0, .ref (adr w b)), (1, .int (iI x))]) (by decide) (Nat.le_of_ble_eq_true rfl) rfl ?_
  intro pg ev s0 mi be me co C hz
  have hI := hB.iv
  refine q_iconst C 0 dX0_beatsOn_0 ?_
  refine q_istore_n (lv' := [(2, .int (iI 0)), (0, .ref (adr w b)), (1, .int (iI x))]) C dX0_beatsOn_1 (by decide) rfl ?_
  refine q_iconst C 0 dX0_beatsOn_2 ?_
  refine q_istore_n (lv' := [(3, .int (iI 0)), (2, .int (iI 0)), (0, .ref (adr w b)), (1, .int (iI x))]) C dX0_beatsOn_3 (by decide) rfl ?_
  refine q_lv (lv' := [(0, .ref (adr w b)), (1, .int (iI x)), (2, .int (iI 0)), (3, .int (iI 0))]) [2, 3, 1, 0] rfl ?_
  refine wf2 (P := fun (i : Int) (n : Int) => Wq pg l ev _ s0 mi _ be me co _ w _ _ _ 4 [(0, .ref (adr w b)), (1, .int (iI x)), (2, .int (iI n)), (3, .int (iI i))] [] F) (I := fun (i : Int) (n : Int) => 0 ≤ i ∧ i ≤ r x ∧ n = bo (wa r x) i) (μ := fun (i : Int) (n : Int) => (r x - i).toNat) ?_ 0 0 (⟨by omega, (hI.sz hl.1 hl.2).1, rfl⟩)
  intro i n hI' ih4
  (try dsimp only at hI'); (try dsimp only at ih4); (try dsimp only)
  obtain ⟨hi0, hi1, hi2⟩ := hI'
  have qs := hI.sz hl.1 hl.2
  refine q_iload_n C 3 dX0_beatsOn_4 rfl ?_
  refine q_aload_n C 0 dX0_beatsOn_5 rfl ?_
  refine q_get (T := TX0) (i := 2) C hb.k0 (by decide) rfl uws0 (by decide) wd_45 rfl dX0_beatsOn_6 ?_
  refine q_iload_n C 1 dX0_beatsOn_9 rfl ?_
  refine q_cI (q_runSN (As := [.ref (adr w (b + 3)), .int (iI x)]) (rest := [.int (iI i)]) C (k_c3 l hb hB (x := x) ⟨by omega, by omega⟩) wd_265 wd_264 wd_13 nw_263 nd_X3_cell rfl (by decide) ⟨Nat.zero_le _, Nat.zero_le _⟩ rfl (Nat.le_of_ble_eq_true rfl) dX0_beatsOn_10) ?_
  rintro z F' ⟨rfl, rfl⟩
  have q10 := hI.sz (l := x) (by omega) (by omega)
  refine q_icmp_ge C 34 dX0_beatsOn_13 ⟨by omega, by omega⟩ ⟨by omega, by omega⟩ (by decide) (fun h13 => ?_) (fun h13 => ?_)
  · refine q_iload_n C 2 dX0_beatsOn_34 rfl ?_
    refine q_iret C dX0_beatsOn_35 ?_
    exact ⟨by rw [hi2, show i = r x by omega], rfl⟩
  · refine q_iload_n C 2 dX0_beatsOn_16 rfl ?_
    refine q_aload_n C 0 dX0_beatsOn_17 rfl ?_
    refine q_iload_n C 1 dX0_beatsOn_18 rfl ?_
    refine q_iload_n C 3 dX0_beatsOn_19 rfl ?_
    refine q_cI (q_runV (As := [.int (iI x), .int (iI i)]) (rest := [.int (iI n)]) C (k_wat_in l hb hB (x := x) (p := i) ⟨by omega, by omega⟩ ⟨by omega, by omega⟩) hb.k0 (by decide) rfl wd_282 wd_280 wd_281 wd_14 wd_279 nd_X0_wordAt rfl (by decide) ⟨Nat.zero_le _, Nat.zero_le _⟩ rfl (Nat.le_of_ble_eq_true rfl) dX0_beatsOn_20) ?_
    rintro z F' ⟨rfl, rfl⟩
    have q20 := hI.wd (l := x) (p := i) (by omega) (by omega) (by omega) (by omega)
    refine q_cI (q_runSN (As := [.int (iI (wa r x i))]) (rest := [.int (iI n)]) C (k_X3_beatsOf l (by omega)) wd_274 wd_273 wd_13 nw_272 nd_X3_beatsOf rfl (by decide) ⟨Nat.zero_le _, Nat.zero_le _⟩ rfl (Nat.le_of_ble_eq_true rfl) dX0_beatsOn_23) ?_
    rintro z F' ⟨rfl, rfl⟩
    have q23 := bt_pos (x := wa r x i) (by omega)
    refine q_iadd C dX0_beatsOn_26 ?_
    refine q_istore_n (lv' := [(2, .int (iI (n + (bt (wa r x i))))), (0, .ref (adr w b)), (1, .int (iI x)), (3, .int (iI i))]) C dX0_beatsOn_27 (by decide) rfl ?_
    refine q_iinc (lv' := [(3, .int (iI (i + 1))), (2, .int (iI (n + (bt (wa r x i))))), (0, .ref (adr w b)), (1, .int (iI x))]) C 3 dX0_beatsOn_28 rfl (by decide) rfl ?_
    refine q_goto C 4 dX0_beatsOn_31 (by decide) ?_
    refine q_lv (lv' := [(0, .ref (adr w b)), (1, .int (iI x)), (2, .int (iI (n + (bt (wa r x i))))), (3, .int (iI (i + 1)))]) [2, 3, 1, 0] rfl ?_
    exact ih4 (i + 1) (n + (bt (wa r x i))) (⟨by omega, by omega, by rw [bo_s hi0, hi2]⟩) (by omega)

set_option maxRecDepth 100000 in
set_option maxHeartbeats 4000000 in
theorem k_X0_clashes (l : Launch) {w : WP} {F : FF} {b : Nat} {r : Rw} {x : Int} (hb : IsB b) (hB : BI F b r) (hl : 0 ≤ x ∧ x < 16) : Con l yX0_clashes cX0_clashes 3 (some .boolean) 2 w [.ref (adr w b), .int (iI x)] F (QI w (fun z F' => (z = 1 ∧ mx r x = true ∨ z = 0 ∧ ¬ mx r x = true) ∧ F = F')) := by
  refine Con.mk (lv := [(0, .ref (adr w b)), (1, .int (iI x))]) (by decide) (Nat.le_of_ble_eq_true rfl) rfl ?_
  intro pg ev s0 mi be me co C hz
  have hI := hB.iv
  refine q_iconst C 1 dX0_clashes_0 ?_
  refine q_istore_n (lv' := [(2, .int (iI 1)), (0, .ref (adr w b)), (1, .int (iI x))]) C dX0_clashes_1 (by decide) rfl ?_
  refine q_lv (lv' := [(0, .ref (adr w b)), (1, .int (iI x)), (2, .int (iI 1))]) [1, 2, 0] rfl ?_
  refine wf1 (P := fun (i : Int) => Wq pg l ev _ s0 mi _ be me co _ w _ _ _ 2 [(0, .ref (adr w b)), (1, .int (iI x)), (2, .int (iI i))] [] F) (I := fun (i : Int) => 1 ≤ i ∧ (i ≤ r x ∨ i = 1) ∧ ∀ k, 0 ≤ k → k + 1 < i → clb (wa r x k) (wa r x (k+1)) = false) (μ := fun (i : Int) => (r x - i).toNat) ?_ 1 (⟨by omega, by have := hI.sz hl.1 hl.2; omega, fun k a b => by omega⟩)
  intro i hI' ih2
  (try dsimp only at hI'); (try dsimp only at ih2); (try dsimp only)
  obtain ⟨hi0, hi1, hi2⟩ := hI'
  have qs := hI.sz hl.1 hl.2
  refine q_iload_n C 2 dX0_clashes_2 rfl ?_
  refine q_aload_n C 0 dX0_clashes_3 rfl ?_
  refine q_get (T := TX0) (i := 2) C hb.k0 (by decide) rfl uws0 (by decide) wd_45 rfl dX0_clashes_4 ?_
  refine q_iload_n C 1 dX0_clashes_7 rfl ?_
  refine q_cI (q_runSN (As := [.ref (adr w (b + 3)), .int (iI x)]) (rest := [.int (iI i)]) C (k_c3 l hb hB (x := x) ⟨by omega, by omega⟩) wd_265 wd_264 wd_13 nw_263 nd_X3_cell rfl (by decide) ⟨Nat.zero_le _, Nat.zero_le _⟩ rfl (Nat.le_of_ble_eq_true rfl) dX0_clashes_8) ?_
  rintro z F' ⟨rfl, rfl⟩
  have q8 := hI.sz (l := x) (by omega) (by omega)
  refine q_icmp_ge C 42 dX0_clashes_11 ⟨by omega, by omega⟩ ⟨by omega, by omega⟩ (by decide) (fun h11 => ?_) (fun h11 => ?_)
  · refine q_iconst C 0 dX0_clashes_42 ?_
    refine q_zret C dX0_clashes_43 (by decide) ?_
    exact ⟨Or.inr ⟨rfl, fun h => by obtain ⟨k, a, b, c⟩ := an_iff.mp h; rw [hi2 k a (by omega)] at c; cases c⟩, rfl⟩
  · refine q_aload_n C 0 dX0_clashes_14 rfl ?_
    refine q_iload_n C 1 dX0_clashes_15 rfl ?_
    refine q_iload_n C 2 dX0_clashes_16 rfl ?_
    refine q_iconst C 1 dX0_clashes_17 ?_
    refine q_isub C dX0_clashes_18 ?_
    refine q_cI (q_runV (As := [.int (iI x), .int (iI (i - 1))]) (rest := []) C (k_wat_in l hb hB (x := x) (p := i - 1) ⟨by omega, by omega⟩ ⟨by omega, by omega⟩) hb.k0 (by decide) rfl wd_282 wd_280 wd_281 wd_14 wd_279 nd_X0_wordAt rfl (by decide) ⟨Nat.zero_le _, Nat.zero_le _⟩ rfl (Nat.le_of_ble_eq_true rfl) dX0_clashes_19) ?_
    rintro z F' ⟨rfl, rfl⟩
    have q19 := hI.wd (l := x) (p := i - 1) (by omega) (by omega) (by omega) (by omega)
    refine q_aload_n C 0 dX0_clashes_22 rfl ?_
    refine q_iload_n C 1 dX0_clashes_23 rfl ?_
    refine q_iload_n C 2 dX0_clashes_24 rfl ?_
    refine q_cI (q_runV (As := [.int (iI x), .int (iI i)]) (rest := [.int (iI (wa r x (i - 1)))]) C (k_wat_in l hb hB (x := x) (p := i) ⟨by omega, by omega⟩ ⟨by omega, by omega⟩) hb.k0 (by decide) rfl wd_282 wd_280 wd_281 wd_14 wd_279 nd_X0_wordAt rfl (by decide) ⟨Nat.zero_le _, Nat.zero_le _⟩ rfl (Nat.le_of_ble_eq_true rfl) dX0_clashes_25) ?_
    rintro z F' ⟨rfl, rfl⟩
    have q25 := hI.wd (l := x) (p := i) (by omega) (by omega) (by omega) (by omega)
    refine q_cI (q_runSN (As := [.int (iI (wa r x (i - 1))), .int (iI (wa r x i))]) (rest := []) C (k_X3_clash l (by omega) (by omega)) wd_346 wd_345 wd_13 nw_344 nd_X3_clash rfl (by decide) ⟨Nat.zero_le _, Nat.zero_le _⟩ rfl (Nat.le_of_ble_eq_true rfl) dX0_clashes_28) ?_
    rintro z F' ⟨⟨rfl, hc28⟩ | ⟨rfl, hc28⟩, rfl⟩
    · refine q_if_eq C 36 dX0_clashes_31 ⟨by decide, by decide⟩  (by decide) (fun h => absurd h (by decide)) (fun _ => ?_)
      refine q_iconst C 1 dX0_clashes_34 ?_
      refine q_zret C dX0_clashes_35 (by decide) ?_
      exact ⟨Or.inl ⟨rfl, an_iff.mpr ⟨i - 1, by omega, by omega, by rw [show i - 1 + 1 = i by omega]; exact decide_eq_true hc28⟩⟩, rfl⟩
    · refine q_if_eq C 36 dX0_clashes_31 ⟨by decide, by decide⟩  (by decide) (fun _ => ?_) (fun h => absurd h (by decide))
      refine q_iinc (lv' := [(2, .int (iI (i + 1))), (0, .ref (adr w b)), (1, .int (iI x))]) C 2 dX0_clashes_36 rfl (by decide) rfl ?_
      refine q_goto C 2 dX0_clashes_39 (by decide) ?_
      refine q_lv (lv' := [(0, .ref (adr w b)), (1, .int (iI x)), (2, .int (iI (i + 1)))]) [1, 2, 0] rfl ?_
      exact ih2 (i + 1) (⟨by omega, by omega, fun k a b => by rcases (show k + 1 < i ∨ k = i - 1 by omega) with g | g; exact hi2 k a g; subst g; rw [show i - 1 + 1 = i by omega]; exact decide_eq_false hc28⟩) (by omega)

set_option maxRecDepth 100000 in
set_option maxHeartbeats 4000000 in
theorem k_X0_wouldClash (l : Launch) {w : WP} {F : FF} {b : Nat} {r : Rw} {x y q : Int} (hb : IsB b) (hB : BI F b r) (hx : 0 ≤ x ∧ x < 40) (hl : 0 ≤ y ∧ y < 16) (hq : 0 ≤ q ∧ q ≤ r y) : Con l yX0_wouldClash cX0_wouldClash 8 (some .boolean) 2 w [.ref (adr w b), .int (iI x), .int (iI y), .int (iI q)] F (QI w (fun z F' => (z = 1 ∧ an (fun k => clb (ww r x y q k) (ww r x y q (k + 1))) (r y) = true ∨ z = 0 ∧ ¬ an (fun k => clb (ww r x y q k) (ww r x y q (k + 1))) (r y) = true) ∧ F = F')) := by
  refine Con.mk (lv := [(0, .ref (adr w b)), (1, .int (iI x)), (2, .int (iI y)), (3, .int (iI q))]) (by decide) (Nat.le_of_ble_eq_true rfl) rfl ?_
  intro pg ev s0 mi be me co C hz
  have hI := hB.iv
  refine q_aload_n C 0 dX0_wouldClash_0 rfl ?_
  refine q_get (T := TX0) (i := 2) C hb.k0 (by decide) rfl uws0 (by decide) wd_45 rfl dX0_wouldClash_1 ?_
  refine q_iload_n C 2 dX0_wouldClash_4 rfl ?_
  refine q_cI (q_runSN (As := [.ref (adr w (b + 3)), .int (iI y)]) (rest := []) C (k_c3 l hb hB (x := y) ⟨by omega, by omega⟩) wd_265 wd_264 wd_13 nw_263 nd_X3_cell rfl (by decide) ⟨Nat.zero_le _, Nat.zero_le _⟩ rfl (Nat.le_of_ble_eq_true rfl) dX0_wouldClash_5) ?_
  rintro z F' ⟨rfl, rfl⟩
  have q5 := hI.sz (l := y) (by omega) (by omega)
  refine q_istore (lv' := [(4, .int (iI (r y))), (0, .ref (adr w b)), (1, .int (iI x)), (2, .int (iI y)), (3, .int (iI q))]) C dX0_wouldClash_8 (by decide) rfl ?_
  refine q_iconst C (-1) dX0_wouldClash_10 ?_
  refine q_istore (lv' := [(5, .int (iI (-1))), (4, .int (iI (r y))), (0, .ref (adr w b)), (1, .int (iI x)), (2, .int (iI y)), (3, .int (iI q))]) C dX0_wouldClash_11 (by decide) rfl ?_
  refine q_iconst C 0 dX0_wouldClash_13 ?_
  refine q_istore (lv' := [(6, .int (iI 0)), (5, .int (iI (-1))), (4, .int (iI (r y))), (0, .ref (adr w b)), (1, .int (iI x)), (2, .int (iI y)), (3, .int (iI q))]) C dX0_wouldClash_14 (by decide) rfl ?_
  refine q_lv (lv' := [(0, .ref (adr w b)), (1, .int (iI x)), (2, .int (iI y)), (3, .int (iI q)), (4, .int (iI (r y))), (5, .int (iI (-1))), (6, .int (iI 0))]) [3, 4, 5, 6, 2, 1, 0] rfl ?_
  refine wf2 (P := fun (i : Int) (t : Int) => Wq pg l ev _ s0 mi _ be me co _ w _ _ _ 16 [(0, .ref (adr w b)), (1, .int (iI x)), (2, .int (iI y)), (3, .int (iI q)), (4, .int (iI (r y))), (5, .int (iI t)), (6, .int (iI i))] [] F) (I := fun (i : Int) (t : Int) => 0 ≤ i ∧ i ≤ r y + 1 ∧ (i = 0 → t = -1) ∧ (0 < i → t = ww r x y q (i-1)) ∧ ∀ k, 0 ≤ k → k + 1 < i → clb (ww r x y q k) (ww r x y q (k+1)) = false) (μ := fun (i : Int) (t : Int) => (r y + 1 - i).toNat) ?_ 0 (-1) (⟨by omega, by omega, fun _ => rfl, fun h => by omega, fun k a b => by omega⟩)
  intro i t hI' ih16
  (try dsimp only at hI'); (try dsimp only at ih16); (try dsimp only)
  obtain ⟨hi0, hi1, hi2, hi3, hi4⟩ := hI'
  have qs := hI.sz hl.1 hl.2
  refine q_iload C 6 dX0_wouldClash_16 rfl ?_
  refine q_iload C 4 dX0_wouldClash_18 rfl ?_
  refine q_icmp_gt C 82 dX0_wouldClash_20 ⟨by omega, by omega⟩ ⟨by omega, by omega⟩ (by decide) (fun h20 => ?_) (fun h20 => ?_)
  · refine q_iconst C 0 dX0_wouldClash_82 ?_
    refine q_zret C dX0_wouldClash_83 (by decide) ?_
    exact ⟨Or.inr ⟨rfl, fun h => by obtain ⟨k, a, b, c⟩ := an_iff.mp h; rw [hi4 k a (by omega)] at c; cases c⟩, rfl⟩
  · refine q_iload C 6 dX0_wouldClash_23 rfl ?_
    refine q_iload_n C 3 dX0_wouldClash_25 rfl ?_
    refine q_icmp_ne C 33 dX0_wouldClash_26 ⟨by omega, by omega⟩ ⟨by omega, by omega⟩ (by decide) (fun h26 => ?_) (fun h26 => ?_)
    · refine q_aload_n C 0 dX0_wouldClash_33 rfl ?_
      refine q_iload_n C 2 dX0_wouldClash_34 rfl ?_
      refine q_iload C 6 dX0_wouldClash_35 rfl ?_
      refine q_iload_n C 3 dX0_wouldClash_37 rfl ?_
      refine q_icmp_ge C 46 dX0_wouldClash_38 ⟨by omega, by omega⟩ ⟨by omega, by omega⟩ (by decide) (fun h38 => ?_) (fun h38 => ?_)
      · refine q_iload C 6 dX0_wouldClash_46 rfl ?_
        refine q_iconst C 1 dX0_wouldClash_48 ?_
        refine q_isub C dX0_wouldClash_49 ?_
        refine q_cI (q_runV (As := [.int (iI y), .int (iI (i - 1))]) (rest := []) C (k_wat_in l hb hB (x := y) (p := i - 1) ⟨by omega, by omega⟩ ⟨by omega, by omega⟩) hb.k0 (by decide) rfl wd_282 wd_280 wd_281 wd_14 wd_279 nd_X0_wordAt rfl (by decide) ⟨Nat.zero_le _, Nat.zero_le _⟩ rfl (Nat.le_of_ble_eq_true rfl) dX0_wouldClash_50) ?_
        rintro z F' ⟨rfl, rfl⟩
        have q50 := hI.wd (l := y) (p := i - 1) (by omega) (by omega) (by omega) (by omega)
        have hwi : ww r x y q i = wa r y (i - 1) := by unfold ww; first | rw [if_pos (by omega)] | rw [if_neg (by omega), if_pos (by omega)] | rw [if_neg (by omega), if_neg (by omega)]
        refine q_istore (lv' := [(7, .int (iI (wa r y (i - 1)))), (0, .ref (adr w b)), (1, .int (iI x)), (2, .int (iI y)), (3, .int (iI q)), (4, .int (iI (r y))), (5, .int (iI t)), (6, .int (iI i))]) C dX0_wouldClash_53 (by decide) rfl ?_
        refine q_iload C 7 dX0_wouldClash_55 rfl ?_
        refine q_if_le C 72 dX0_wouldClash_57 ⟨by omega, by omega⟩  (by decide) (fun h57 => ?_) (fun h57 => ?_)
        · refine q_iload C 0 dX0_wouldClash_72 rfl ?_
          refine q_istore (lv' := [(5, .int (iI (wa r y (i - 1)))), (7, .int (iI (wa r y (i - 1)))), (0, .ref (adr w b)), (1, .int (iI x)), (2, .int (iI y)), (3, .int (iI q)), (4, .int (iI (r y))), (6, .int (iI i))]) C dX0_wouldClash_74 (by decide) rfl ?_
          refine q_iinc (lv' := [(6, .int (iI (i + 1))), (5, .int (iI (wa r y (i - 1)))), (7, .int (iI (wa r y (i - 1)))), (0, .ref (adr w b)), (1, .int (iI x)), (2, .int (iI y)), (3, .int (iI q)), (4, .int (iI (r y)))]) C 7 dX0_wouldClash_76 rfl (by decide) rfl ?_
          refine q_goto C 16 dX0_wouldClash_79 (by decide) ?_
          refine q_lv (lv' := [(0, .ref (adr w b)), (1, .int (iI x)), (2, .int (iI y)), (3, .int (iI q)), (4, .int (iI (r y))), (5, .int (iI (wa r y (i - 1)))), (6, .int (iI (i + 1)))]) [3, 4, 5, 6, 7, 1, 0] rfl ?_
          exact ih16 (i + 1) (wa r y (i - 1)) (⟨by omega, by omega, fun h => by omega, fun _ => by rw [show i + 1 - 1 = i by omega]; exact hwi.symm, fun k a b => by rcases (show k + 1 < i ∨ k = i - 1 by omega) with g | g; exact hi4 k a g; subst g; rw [show i - 1 + 1 = i by omega, ← hi3 (by omega), hwi]; exact decide_eq_false (by first | assumption | (exfalso; omega))⟩) (by omega)
        · have qt : 0 ≤ t ∧ t < 40 := by rw [hi3 (by omega)]; exact ww_range hI hx hl hq (by omega) (by omega)
          refine q_iload C 6 dX0_wouldClash_60 rfl ?_
          refine q_iload C 0 dX0_wouldClash_62 rfl ?_
          refine q_cI (q_runSN (As := [.int (iI t), .int (iI (wa r y (i - 1)))]) (rest := []) C (k_X3_clash l (by omega) (by omega)) wd_346 wd_345 wd_13 nw_344 nd_X3_clash rfl (by decide) ⟨Nat.zero_le _, Nat.zero_le _⟩ rfl (Nat.le_of_ble_eq_true rfl) dX0_wouldClash_64) ?_
          rintro z F' ⟨⟨rfl, hc64⟩ | ⟨rfl, hc64⟩, rfl⟩
          · refine q_if_eq C 72 dX0_wouldClash_67 ⟨by decide, by decide⟩  (by decide) (fun h => absurd h (by decide)) (fun _ => ?_)
            refine q_iconst C 1 dX0_wouldClash_70 ?_
            refine q_zret C dX0_wouldClash_71 (by decide) ?_
            exact ⟨Or.inl ⟨rfl, an_iff.mpr ⟨i - 1, by omega, by omega, by rw [show i - 1 + 1 = i by omega, ← hi3 (by omega), hwi]; exact decide_eq_true (by assumption)⟩⟩, rfl⟩
          · refine q_if_eq C 72 dX0_wouldClash_67 ⟨by decide, by decide⟩  (by decide) (fun _ => ?_) (fun h => absurd h (by decide))
            refine q_iload C 0 dX0_wouldClash_72 rfl ?_
            refine q_istore (lv' := [(5, .int (iI (wa r y (i - 1)))), (7, .int (iI (wa r y (i - 1)))), (0, .ref (adr w b)), (1, .int (iI x)), (2, .int (iI y)), (3, .int (iI q)), (4, .int (iI (r y))), (6, .int (iI i))]) C dX0_wouldClash_74 (by decide) rfl ?_
            refine q_iinc (lv' := [(6, .int (iI (i + 1))), (5, .int (iI (wa r y (i - 1)))), (7, .int (iI (wa r y (i - 1)))), (0, .ref (adr w b)), (1, .int (iI x)), (2, .int (iI y)), (3, .int (iI q)), (4, .int (iI (r y)))]) C 7 dX0_wouldClash_76 rfl (by decide) rfl ?_
            refine q_goto C 16 dX0_wouldClash_79 (by decide) ?_
            refine q_lv (lv' := [(0, .ref (adr w b)), (1, .int (iI x)), (2, .int (iI y)), (3, .int (iI q)), (4, .int (iI (r y))), (5, .int (iI (wa r y (i - 1)))), (6, .int (iI (i + 1)))]) [3, 4, 5, 6, 7, 1, 0] rfl ?_
            exact ih16 (i + 1) (wa r y (i - 1)) (⟨by omega, by omega, fun h => by omega, fun _ => by rw [show i + 1 - 1 = i by omega]; exact hwi.symm, fun k a b => by rcases (show k + 1 < i ∨ k = i - 1 by omega) with g | g; exact hi4 k a g; subst g; rw [show i - 1 + 1 = i by omega, ← hi3 (by omega), hwi]; exact decide_eq_false (by first | assumption | (exfalso; omega))⟩) (by omega)
      · refine q_iload C 6 dX0_wouldClash_41 rfl ?_
        refine q_goto C 50 dX0_wouldClash_43 (by decide) ?_
        refine q_cI (q_runV (As := [.int (iI y), .int (iI i)]) (rest := []) C (k_wat_in l hb hB (x := y) (p := i) ⟨by omega, by omega⟩ ⟨by omega, by omega⟩) hb.k0 (by decide) rfl wd_282 wd_280 wd_281 wd_14 wd_279 nd_X0_wordAt rfl (by decide) ⟨Nat.zero_le _, Nat.zero_le _⟩ rfl (Nat.le_of_ble_eq_true rfl) dX0_wouldClash_50) ?_
        rintro z F' ⟨rfl, rfl⟩
        have q50 := hI.wd (l := y) (p := i) (by omega) (by omega) (by omega) (by omega)
        have hwi : ww r x y q i = wa r y i := by unfold ww; first | rw [if_pos (by omega)] | rw [if_neg (by omega), if_pos (by omega)] | rw [if_neg (by omega), if_neg (by omega)]
        refine q_istore (lv' := [(7, .int (iI (wa r y i))), (0, .ref (adr w b)), (1, .int (iI x)), (2, .int (iI y)), (3, .int (iI q)), (4, .int (iI (r y))), (5, .int (iI t)), (6, .int (iI i))]) C dX0_wouldClash_53 (by decide) rfl ?_
        refine q_iload C 7 dX0_wouldClash_55 rfl ?_
        refine q_if_le C 72 dX0_wouldClash_57 ⟨by omega, by omega⟩  (by decide) (fun h57 => ?_) (fun h57 => ?_)
        · refine q_iload C 0 dX0_wouldClash_72 rfl ?_
          refine q_istore (lv' := [(5, .int (iI (wa r y i))), (7, .int (iI (wa r y i))), (0, .ref (adr w b)), (1, .int (iI x)), (2, .int (iI y)), (3, .int (iI q)), (4, .int (iI (r y))), (6, .int (iI i))]) C dX0_wouldClash_74 (by decide) rfl ?_
          refine q_iinc (lv' := [(6, .int (iI (i + 1))), (5, .int (iI (wa r y i))), (7, .int (iI (wa r y i))), (0, .ref (adr w b)), (1, .int (iI x)), (2, .int (iI y)), (3, .int (iI q)), (4, .int (iI (r y)))]) C 7 dX0_wouldClash_76 rfl (by decide) rfl ?_
          refine q_goto C 16 dX0_wouldClash_79 (by decide) ?_
          refine q_lv (lv' := [(0, .ref (adr w b)), (1, .int (iI x)), (2, .int (iI y)), (3, .int (iI q)), (4, .int (iI (r y))), (5, .int (iI (wa r y i))), (6, .int (iI (i + 1)))]) [3, 4, 5, 6, 7, 1, 0] rfl ?_
          exact ih16 (i + 1) (wa r y i) (⟨by omega, by omega, fun h => by omega, fun _ => by rw [show i + 1 - 1 = i by omega]; exact hwi.symm, fun k a b => by rcases (show k + 1 < i ∨ k = i - 1 by omega) with g | g; exact hi4 k a g; subst g; rw [show i - 1 + 1 = i by omega, ← hi3 (by omega), hwi]; exact decide_eq_false (by first | assumption | (exfalso; omega))⟩) (by omega)
        · have qt : 0 ≤ t ∧ t < 40 := by rw [hi3 (by omega)]; exact ww_range hI hx hl hq (by omega) (by omega)
          refine q_iload C 6 dX0_wouldClash_60 rfl ?_
          refine q_iload C 0 dX0_wouldClash_62 rfl ?_
          refine q_cI (q_runSN (As := [.int (iI t), .int (iI (wa r y i))]) (rest := []) C (k_X3_clash l (by omega) (by omega)) wd_346 wd_345 wd_13 nw_344 nd_X3_clash rfl (by decide) ⟨Nat.zero_le _, Nat.zero_le _⟩ rfl (Nat.le_of_ble_eq_true rfl) dX0_wouldClash_64) ?_
          rintro z F' ⟨⟨rfl, hc64⟩ | ⟨rfl, hc64⟩, rfl⟩
          · refine q_if_eq C 72 dX0_wouldClash_67 ⟨by decide, by decide⟩  (by decide) (fun h => absurd h (by decide)) (fun _ => ?_)
            refine q_iconst C 1 dX0_wouldClash_70 ?_
            refine q_zret C dX0_wouldClash_71 (by decide) ?_
            exact ⟨Or.inl ⟨rfl, an_iff.mpr ⟨i - 1, by omega, by omega, by rw [show i - 1 + 1 = i by omega, ← hi3 (by omega), hwi]; exact decide_eq_true (by assumption)⟩⟩, rfl⟩
          · refine q_if_eq C 72 dX0_wouldClash_67 ⟨by decide, by decide⟩  (by decide) (fun _ => ?_) (fun h => absurd h (by decide))
            refine q_iload C 0 dX0_wouldClash_72 rfl ?_
            refine q_istore (lv' := [(5, .int (iI (wa r y i))), (7, .int (iI (wa r y i))), (0, .ref (adr w b)), (1, .int (iI x)), (2, .int (iI y)), (3, .int (iI q)), (4, .int (iI (r y))), (6, .int (iI i))]) C dX0_wouldClash_74 (by decide) rfl ?_
            refine q_iinc (lv' := [(6, .int (iI (i + 1))), (5, .int (iI (wa r y i))), (7, .int (iI (wa r y i))), (0, .ref (adr w b)), (1, .int (iI x)), (2, .int (iI y)), (3, .int (iI q)), (4, .int (iI (r y)))]) C 7 dX0_wouldClash_76 rfl (by decide) rfl ?_
            refine q_goto C 16 dX0_wouldClash_79 (by decide) ?_
            refine q_lv (lv' := [(0, .ref (adr w b)), (1, .int (iI x)), (2, .int (iI y)), (3, .int (iI q)), (4, .int (iI (r y))), (5, .int (iI (wa r y i))), (6, .int (iI (i + 1)))]) [3, 4, 5, 6, 7, 1, 0] rfl ?_
            exact ih16 (i + 1) (wa r y i) (⟨by omega, by omega, fun h => by omega, fun _ => by rw [show i + 1 - 1 = i by omega]; exact hwi.symm, fun k a b => by rcases (show k + 1 < i ∨ k = i - 1 by omega) with g | g; exact hi4 k a g; subst g; rw [show i - 1 + 1 = i by omega, ← hi3 (by omega), hwi]; exact decide_eq_false (by first | assumption | (exfalso; omega))⟩) (by omega)
    · refine q_iload_n C 1 dX0_wouldClash_29 rfl ?_
      refine q_goto C 53 dX0_wouldClash_30 (by decide) ?_
      have hwi : ww r x y q i = x := by unfold ww; first | rw [if_pos (by omega)] | rw [if_neg (by omega), if_pos (by omega)] | rw [if_neg (by omega), if_neg (by omega)]
      refine q_istore (lv' := [(7, .int (iI x)), (0, .ref (adr w b)), (1, .int (iI x)), (2, .int (iI y)), (3, .int (iI q)), (4, .int (iI (r y))), (5, .int (iI t)), (6, .int (iI i))]) C dX0_wouldClash_53 (by decide) rfl ?_
      refine q_iload C 7 dX0_wouldClash_55 rfl ?_
      refine q_if_le C 72 dX0_wouldClash_57 ⟨by omega, by omega⟩  (by decide) (fun h57 => ?_) (fun h57 => ?_)
      · refine q_iload C 0 dX0_wouldClash_72 rfl ?_
        refine q_istore (lv' := [(5, .int (iI x)), (7, .int (iI x)), (0, .ref (adr w b)), (1, .int (iI x)), (2, .int (iI y)), (3, .int (iI q)), (4, .int (iI (r y))), (6, .int (iI i))]) C dX0_wouldClash_74 (by decide) rfl ?_
        refine q_iinc (lv' := [(6, .int (iI (i + 1))), (5, .int (iI x)), (7, .int (iI x)), (0, .ref (adr w b)), (1, .int (iI x)), (2, .int (iI y)), (3, .int (iI q)), (4, .int (iI (r y)))]) C 7 dX0_wouldClash_76 rfl (by decide) rfl ?_
        refine q_goto C 16 dX0_wouldClash_79 (by decide) ?_
        refine q_lv (lv' := [(0, .ref (adr w b)), (1, .int (iI x)), (2, .int (iI y)), (3, .int (iI q)), (4, .int (iI (r y))), (5, .int (iI x)), (6, .int (iI (i + 1)))]) [3, 4, 5, 6, 7, 1, 0] rfl ?_
        exact ih16 (i + 1) x (⟨by omega, by omega, fun h => by omega, fun _ => by rw [show i + 1 - 1 = i by omega]; exact hwi.symm, fun k a b => by rcases (show k + 1 < i ∨ k = i - 1 by omega) with g | g; exact hi4 k a g; subst g; rw [show i - 1 + 1 = i by omega, ← hi3 (by omega), hwi]; exact decide_eq_false (by first | assumption | (exfalso; omega))⟩) (by omega)
      · have qt : 0 ≤ t ∧ t < 40 := by rw [hi3 (by omega)]; exact ww_range hI hx hl hq (by omega) (by omega)
        refine q_iload C 6 dX0_wouldClash_60 rfl ?_
        refine q_iload C 0 dX0_wouldClash_62 rfl ?_
        refine q_cI (q_runSN (As := [.int (iI t), .int (iI x)]) (rest := []) C (k_X3_clash l (by omega) (by omega)) wd_346 wd_345 wd_13 nw_344 nd_X3_clash rfl (by decide) ⟨Nat.zero_le _, Nat.zero_le _⟩ rfl (Nat.le_of_ble_eq_true rfl) dX0_wouldClash_64) ?_
        rintro z F' ⟨⟨rfl, hc64⟩ | ⟨rfl, hc64⟩, rfl⟩
        · refine q_if_eq C 72 dX0_wouldClash_67 ⟨by decide, by decide⟩  (by decide) (fun h => absurd h (by decide)) (fun _ => ?_)
          refine q_iconst C 1 dX0_wouldClash_70 ?_
          refine q_zret C dX0_wouldClash_71 (by decide) ?_
          exact ⟨Or.inl ⟨rfl, an_iff.mpr ⟨i - 1, by omega, by omega, by rw [show i - 1 + 1 = i by omega, ← hi3 (by omega), hwi]; exact decide_eq_true (by assumption)⟩⟩, rfl⟩
        · refine q_if_eq C 72 dX0_wouldClash_67 ⟨by decide, by decide⟩  (by decide) (fun _ => ?_) (fun h => absurd h (by decide))
          refine q_iload C 0 dX0_wouldClash_72 rfl ?_
          refine q_istore (lv' := [(5, .int (iI x)), (7, .int (iI x)), (0, .ref (adr w b)), (1, .int (iI x)), (2, .int (iI y)), (3, .int (iI q)), (4, .int (iI (r y))), (6, .int (iI i))]) C dX0_wouldClash_74 (by decide) rfl ?_
          refine q_iinc (lv' := [(6, .int (iI (i + 1))), (5, .int (iI x)), (7, .int (iI x)), (0, .ref (adr w b)), (1, .int (iI x)), (2, .int (iI y)), (3, .int (iI q)), (4, .int (iI (r y)))]) C 7 dX0_wouldClash_76 rfl (by decide) rfl ?_
          refine q_goto C 16 dX0_wouldClash_79 (by decide) ?_
          refine q_lv (lv' := [(0, .ref (adr w b)), (1, .int (iI x)), (2, .int (iI y)), (3, .int (iI q)), (4, .int (iI (r y))), (5, .int (iI x)), (6, .int (iI (i + 1)))]) [3, 4, 5, 6, 7, 1, 0] rfl ?_
          exact ih16 (i + 1) x (⟨by omega, by omega, fun h => by omega, fun _ => by rw [show i + 1 - 1 = i by omega]; exact hwi.symm, fun k a b => by rcases (show k + 1 < i ∨ k = i - 1 by omega) with g | g; exact hi4 k a g; subst g; rw [show i - 1 + 1 = i by omega, ← hi3 (by omega), hwi]; exact decide_eq_false (by first | assumption | (exfalso; omega))⟩) (by omega)

set_option maxRecDepth 100000 in
set_option maxHeartbeats 4000000 in
theorem k_X0_refusal (l : Launch) {w : WP} {F : FF} {b : Nat} {r : Rw} {x y q : Int} (hb : IsB b) (hB : BI F b r) (hx : 0 ≤ x ∧ x < 40) (hl : 0 ≤ y ∧ y < 16) (hq : 0 ≤ q ∧ q ≤ r y) : Con l yX0_refusal cX0_refusal 6 (some .int) 3 w [.ref (adr w b), .int (iI x), .int (iI y), .int (iI q)] F (QI w (fun z F' => z = rea r x y q ∧ F = F')) := by
  refine Con.mk (lv := [(0, .ref (adr w b)), (1, .int (iI x)), (2, .int (iI y)), (3, .int (iI q))]) (by decide) (Nat.le_of_ble_eq_true rfl) rfl ?_
  intro pg ev s0 mi be me co C hz
  have hI := hB.iv
  have qs := hI.sz hl.1 hl.2
  refine q_aload_n C 0 dX0_refusal_0 rfl ?_
  refine q_get (T := TX0) (i := 2) C hb.k0 (by decide) rfl uws0 (by decide) wd_45 rfl dX0_refusal_1 ?_
  refine q_iload_n C 2 dX0_refusal_4 rfl ?_
  refine q_cI (q_runSN (As := [.ref (adr w (b + 3)), .int (iI y)]) (rest := []) C (k_c3 l hb hB (x := y) ⟨by omega, by omega⟩) wd_265 wd_264 wd_13 nw_263 nd_X3_cell rfl (by decide) ⟨Nat.zero_le _, Nat.zero_le _⟩ rfl (Nat.le_of_ble_eq_true rfl) dX0_refusal_5) ?_
  rintro z F' ⟨rfl, rfl⟩
  have q5 := hI.sz (l := y) (by omega) (by omega)
  refine q_istore (lv' := [(4, .int (iI (r y))), (0, .ref (adr w b)), (1, .int (iI x)), (2, .int (iI y)), (3, .int (iI q))]) C dX0_refusal_8 (by decide) rfl ?_
  refine q_iload C 0 dX0_refusal_10 rfl ?_
  refine q_bipush C 6 dX0_refusal_12 (by decide) ?_
  refine q_icmp_lt C 19 dX0_refusal_14 ⟨by omega, by omega⟩ ⟨by decide, by decide⟩ (by decide) (fun h14 => ?_) (fun h14 => ?_)
  · refine q_aload_n C 1 dX0_refusal_19 rfl ?_
    refine q_iload_n C 3 dX0_refusal_20 rfl ?_
    refine q_cI (q_runV (As := [.int (iI y)]) (rest := []) C (k_X0_beatsOn l hb hB ⟨by omega, by omega⟩) hb.k0 (by decide) rfl wd_323 wd_321 wd_322 wd_14 wd_320 nd_X0_beatsOn rfl (by decide) ⟨Nat.zero_le _, Nat.zero_le _⟩ rfl (Nat.le_of_ble_eq_true rfl) dX0_refusal_21) ?_
    rintro z F' ⟨rfl, rfl⟩
    have qz21 := hI.sz (l := y) (by omega) (by omega)
    have q21 := bo_bounds (f := wa r y) (n := r y) (by omega) (fun p u v => (hI.wd (l := y) (by omega) (by omega) u v).1)
    refine q_iload_n C 2 dX0_refusal_24 rfl ?_
    refine q_cI (q_runSN (As := [.int (iI x)]) (rest := [.int (iI (bo (wa r y) (r y)))]) C (k_X3_beatsOf l (by omega)) wd_274 wd_273 wd_13 nw_272 nd_X3_beatsOf rfl (by decide) ⟨Nat.zero_le _, Nat.zero_le _⟩ rfl (Nat.le_of_ble_eq_true rfl) dX0_refusal_25) ?_
    rintro z F' ⟨rfl, rfl⟩
    have q25 := bt_pos (x := x) (by omega)
    refine q_iadd C dX0_refusal_28 ?_
    refine q_bipush C 12 dX0_refusal_29 (by decide) ?_
    refine q_icmp_le C 36 dX0_refusal_31 ⟨by omega, by omega⟩ ⟨by decide, by decide⟩ (by decide) (fun h31 => ?_) (fun h31 => ?_)
    · refine q_aload_n C 1 dX0_refusal_36 rfl ?_
      refine q_iload_n C 2 dX0_refusal_37 rfl ?_
      refine q_iload_n C 3 dX0_refusal_38 rfl ?_
      refine q_iload_n C 4 dX0_refusal_39 rfl ?_
      refine q_cI (q_runV (As := [.int (iI x), .int (iI y), .int (iI q)]) (rest := []) C (k_X0_wouldClash l hb hB (x := x) (y := y) (q := q) ⟨by omega, by omega⟩ ⟨by omega, by omega⟩ ⟨by omega, by omega⟩) hb.k0 (by decide) rfl wd_474 wd_473 wd_5 wd_14 wd_471 nd_X0_wouldClash rfl (by decide) ⟨Nat.zero_le _, Nat.zero_le _⟩ rfl (Nat.le_of_ble_eq_true rfl) dX0_refusal_40) ?_
      rintro z F' ⟨⟨rfl, hc40⟩ | ⟨rfl, hc40⟩, rfl⟩
      · refine q_if_eq C 48 dX0_refusal_43 ⟨by decide, by decide⟩  (by decide) (fun h => absurd h (by decide)) (fun _ => ?_)
        refine q_iconst C 3 dX0_refusal_46 ?_
        refine q_iret C dX0_refusal_47 ?_
        exact ⟨by rw [rea, if_neg (by omega), if_neg (by omega), if_pos hc40], rfl⟩
      · refine q_if_eq C 48 dX0_refusal_43 ⟨by decide, by decide⟩  (by decide) (fun _ => ?_) (fun h => absurd h (by decide))
        refine q_iload_n C 4 dX0_refusal_48 rfl ?_
        refine q_if_eq C 58 dX0_refusal_49 ⟨by omega, by omega⟩  (by decide) (fun h49 => ?_) (fun h49 => ?_)
        · refine q_iconst C 1 dX0_refusal_58 ?_
          refine q_goto C 63 dX0_refusal_59 (by decide) ?_
          refine q_istore (lv' := [(5, .int (iI 1)), (4, .int (iI (r y))), (0, .ref (adr w b)), (1, .int (iI x)), (2, .int (iI y)), (3, .int (iI q))]) C dX0_refusal_63 (by decide) rfl ?_
          refine q_iload_n C 3 dX0_refusal_65 rfl ?_
          refine q_cI (q_runSN (As := [.int (iI x)]) (rest := []) C (k_X3_kindOf l (by omega)) wd_268 wd_267 wd_13 nw_266 nd_X3_kindOf rfl (by decide) ⟨Nat.zero_le _, Nat.zero_le _⟩ rfl (Nat.le_of_ble_eq_true rfl) dX0_refusal_66) ?_
          rintro z F' ⟨rfl, rfl⟩
          have q66 := kn_pos (x := x) (by omega)
          refine q_iconst C 3 dX0_refusal_69 ?_
          refine q_icmp_ne C 92 dX0_refusal_70 ⟨by omega, by omega⟩ ⟨by decide, by decide⟩ (by decide) (fun h70 => ?_) (fun h70 => ?_)
          · refine q_iconst C 0 dX0_refusal_92 ?_
            refine q_iret C dX0_refusal_93 ?_
            exact ⟨by rw [rea, if_neg (by omega), if_neg (by omega), if_neg hc40, if_neg (by omega)], rfl⟩
          · refine q_iload C 0 dX0_refusal_73 rfl ?_
            refine q_if_eq C 92 dX0_refusal_75 ⟨by decide, by decide⟩  (by decide) (fun h => absurd h (by decide)) (fun _ => ?_)
            refine q_aload_n C 2 dX0_refusal_78 rfl ?_
            refine q_get (T := TX0) (i := 8) C hb.k0 (by decide) rfl uws0 (by decide) wd_51 rfl dX0_refusal_79 ?_
            refine q_iconst C 0 dX0_refusal_82 ?_
            refine q_cI (q_runSN (As := [.ref (adr w (b + 9)), .int (iI 0)]) (rest := []) C (k_c9 l hb hB (x := 0) (j := 176) ⟨by omega, by omega⟩ (by omega)) wd_265 wd_264 wd_13 nw_263 nd_X3_cell rfl (by decide) ⟨Nat.zero_le _, Nat.zero_le _⟩ rfl (Nat.le_of_ble_eq_true rfl) dX0_refusal_83) ?_
            rintro z F' ⟨rfl, rfl⟩
            have q83 := hI.se
            refine q_iconst C 1 dX0_refusal_86 ?_
            refine q_icmp_ne C 92 dX0_refusal_87 ⟨by omega, by omega⟩ ⟨by decide, by decide⟩ (by decide) (fun h87 => ?_) (fun h87 => ?_)
            · refine q_iconst C 0 dX0_refusal_92 ?_
              refine q_iret C dX0_refusal_93 ?_
              exact ⟨by rw [rea, if_neg (by omega), if_neg (by omega), if_neg hc40, if_neg (by omega)], rfl⟩
            · refine q_iconst C 4 dX0_refusal_90 ?_
              refine q_iret C dX0_refusal_91 ?_
              exact ⟨by rw [rea, if_neg (by omega), if_neg (by omega), if_neg hc40, if_pos (by omega)], rfl⟩
        · refine q_iload_n C 4 dX0_refusal_52 rfl ?_
          refine q_iload C 0 dX0_refusal_53 rfl ?_
          refine q_icmp_ne C 62 dX0_refusal_55 ⟨by omega, by omega⟩ ⟨by omega, by omega⟩ (by decide) (fun h55 => ?_) (fun h55 => ?_)
          · refine q_iconst C 0 dX0_refusal_62 ?_
            refine q_istore (lv' := [(5, .int (iI 0)), (4, .int (iI (r y))), (0, .ref (adr w b)), (1, .int (iI x)), (2, .int (iI y)), (3, .int (iI q))]) C dX0_refusal_63 (by decide) rfl ?_
            refine q_iload_n C 3 dX0_refusal_65 rfl ?_
            refine q_cI (q_runSN (As := [.int (iI x)]) (rest := []) C (k_X3_kindOf l (by omega)) wd_268 wd_267 wd_13 nw_266 nd_X3_kindOf rfl (by decide) ⟨Nat.zero_le _, Nat.zero_le _⟩ rfl (Nat.le_of_ble_eq_true rfl) dX0_refusal_66) ?_
            rintro z F' ⟨rfl, rfl⟩
            have q66 := kn_pos (x := x) (by omega)
            refine q_iconst C 3 dX0_refusal_69 ?_
            refine q_icmp_ne C 92 dX0_refusal_70 ⟨by omega, by omega⟩ ⟨by decide, by decide⟩ (by decide) (fun h70 => ?_) (fun h70 => ?_)
            · refine q_iconst C 0 dX0_refusal_92 ?_
              refine q_iret C dX0_refusal_93 ?_
              exact ⟨by rw [rea, if_neg (by omega), if_neg (by omega), if_neg hc40, if_neg (by omega)], rfl⟩
            · refine q_iload C 0 dX0_refusal_73 rfl ?_
              refine q_if_eq C 92 dX0_refusal_75 ⟨by decide, by decide⟩  (by decide) (fun _ => ?_) (fun h => absurd h (by decide))
              refine q_iconst C 0 dX0_refusal_92 ?_
              refine q_iret C dX0_refusal_93 ?_
              exact ⟨by rw [rea, if_neg (by omega), if_neg (by omega), if_neg hc40, if_neg (by omega)], rfl⟩
          · refine q_iconst C 1 dX0_refusal_58 ?_
            refine q_goto C 63 dX0_refusal_59 (by decide) ?_
            refine q_istore (lv' := [(5, .int (iI 1)), (4, .int (iI (r y))), (0, .ref (adr w b)), (1, .int (iI x)), (2, .int (iI y)), (3, .int (iI q))]) C dX0_refusal_63 (by decide) rfl ?_
            refine q_iload_n C 3 dX0_refusal_65 rfl ?_
            refine q_cI (q_runSN (As := [.int (iI x)]) (rest := []) C (k_X3_kindOf l (by omega)) wd_268 wd_267 wd_13 nw_266 nd_X3_kindOf rfl (by decide) ⟨Nat.zero_le _, Nat.zero_le _⟩ rfl (Nat.le_of_ble_eq_true rfl) dX0_refusal_66) ?_
            rintro z F' ⟨rfl, rfl⟩
            have q66 := kn_pos (x := x) (by omega)
            refine q_iconst C 3 dX0_refusal_69 ?_
            refine q_icmp_ne C 92 dX0_refusal_70 ⟨by omega, by omega⟩ ⟨by decide, by decide⟩ (by decide) (fun h70 => ?_) (fun h70 => ?_)
            · refine q_iconst C 0 dX0_refusal_92 ?_
              refine q_iret C dX0_refusal_93 ?_
              exact ⟨by rw [rea, if_neg (by omega), if_neg (by omega), if_neg hc40, if_neg (by omega)], rfl⟩
            · refine q_iload C 0 dX0_refusal_73 rfl ?_
              refine q_if_eq C 92 dX0_refusal_75 ⟨by decide, by decide⟩  (by decide) (fun h => absurd h (by decide)) (fun _ => ?_)
              refine q_aload_n C 2 dX0_refusal_78 rfl ?_
              refine q_get (T := TX0) (i := 8) C hb.k0 (by decide) rfl uws0 (by decide) wd_51 rfl dX0_refusal_79 ?_
              refine q_iconst C 0 dX0_refusal_82 ?_
              refine q_cI (q_runSN (As := [.ref (adr w (b + 9)), .int (iI 0)]) (rest := []) C (k_c9 l hb hB (x := 0) (j := 176) ⟨by omega, by omega⟩ (by omega)) wd_265 wd_264 wd_13 nw_263 nd_X3_cell rfl (by decide) ⟨Nat.zero_le _, Nat.zero_le _⟩ rfl (Nat.le_of_ble_eq_true rfl) dX0_refusal_83) ?_
              rintro z F' ⟨rfl, rfl⟩
              have q83 := hI.se
              refine q_iconst C 1 dX0_refusal_86 ?_
              refine q_icmp_ne C 92 dX0_refusal_87 ⟨by omega, by omega⟩ ⟨by decide, by decide⟩ (by decide) (fun h87 => ?_) (fun h87 => ?_)
              · refine q_iconst C 0 dX0_refusal_92 ?_
                refine q_iret C dX0_refusal_93 ?_
                exact ⟨by rw [rea, if_neg (by omega), if_neg (by omega), if_neg hc40, if_neg (by omega)], rfl⟩
              · refine q_iconst C 4 dX0_refusal_90 ?_
                refine q_iret C dX0_refusal_91 ?_
                exact ⟨by rw [rea, if_neg (by omega), if_neg (by omega), if_neg hc40, if_pos (by omega)], rfl⟩
    · refine q_iconst C 2 dX0_refusal_34 ?_
      refine q_iret C dX0_refusal_35 ?_
      exact ⟨by rw [rea, if_neg (by omega), if_pos (by omega)], rfl⟩
  · refine q_iconst C 1 dX0_refusal_17 ?_
    refine q_iret C dX0_refusal_18 ?_
    exact ⟨by rw [rea, if_pos (by omega)], rfl⟩

set_option maxRecDepth 100000 in
set_option maxHeartbeats 4000000 in
theorem k_X0_worthOfLine (l : Launch) {w : WP} {F : FF} {b : Nat} {r : Rw} {x y : Int} (hb : IsB b) (hB : BI F b r) (hl : 0 ≤ x ∧ x < 16) (hy : -1 ≤ y ∧ y < 40) : Con l yX0_worthOfLine cX0_worthOfLine 9 (some .int) 1 w [.ref (adr w b), .int (iI x), .int (iI y)] F (QI w (fun z F' => z = LW (fw r x y) (if y = -1 then r x else r x + 1) ∧ F = F')) := by
  refine Con.mk (lv := [(0, .ref (adr w b)), (1, .int (iI x)), (2, .int (iI y))]) (by decide) (Nat.le_of_ble_eq_true rfl) rfl ?_
  intro pg ev s0 mi be me co C hz
  have hI := hB.iv
  refine q_aload_n C 0 dX0_worthOfLine_0 rfl ?_
  refine q_get (T := TX0) (i := 2) C hb.k0 (by decide) rfl uws0 (by decide) wd_45 rfl dX0_worthOfLine_1 ?_
  refine q_iload_n C 1 dX0_worthOfLine_4 rfl ?_
  refine q_cI (q_runSN (As := [.ref (adr w (b + 3)), .int (iI x)]) (rest := []) C (k_c3 l hb hB (x := x) ⟨by omega, by omega⟩) wd_265 wd_264 wd_13 nw_263 nd_X3_cell rfl (by decide) ⟨Nat.zero_le _, Nat.zero_le _⟩ rfl (Nat.le_of_ble_eq_true rfl) dX0_worthOfLine_5) ?_
  rintro z F' ⟨rfl, rfl⟩
  have q5 := hI.sz (l := x) (by omega) (by omega)
  refine q_istore_n (lv' := [(3, .int (iI (r x))), (0, .ref (adr w b)), (1, .int (iI x)), (2, .int (iI y))]) C dX0_worthOfLine_8 (by decide) rfl ?_
  refine q_iconst C 0 dX0_worthOfLine_9 ?_
  refine q_istore (lv' := [(4, .int (iI 0)), (3, .int (iI (r x))), (0, .ref (adr w b)), (1, .int (iI x)), (2, .int (iI y))]) C dX0_worthOfLine_10 (by decide) rfl ?_
  refine q_iconst C 0 dX0_worthOfLine_12 ?_
  refine q_istore (lv' := [(5, .int (iI 0)), (4, .int (iI 0)), (3, .int (iI (r x))), (0, .ref (adr w b)), (1, .int (iI x)), (2, .int (iI y))]) C dX0_worthOfLine_13 (by decide) rfl ?_
  refine q_iconst C 0 dX0_worthOfLine_15 ?_
  refine q_istore (lv' := [(6, .int (iI 0)), (5, .int (iI 0)), (4, .int (iI 0)), (3, .int (iI (r x))), (0, .ref (adr w b)), (1, .int (iI x)), (2, .int (iI y))]) C dX0_worthOfLine_16 (by decide) rfl ?_
  refine q_iconst C 0 dX0_worthOfLine_18 ?_
  refine q_istore (lv' := [(7, .int (iI 0)), (6, .int (iI 0)), (5, .int (iI 0)), (4, .int (iI 0)), (3, .int (iI (r x))), (0, .ref (adr w b)), (1, .int (iI x)), (2, .int (iI y))]) C dX0_worthOfLine_19 (by decide) rfl ?_
  refine q_lv (lv' := [(0, .ref (adr w b)), (1, .int (iI x)), (2, .int (iI y)), (3, .int (iI (r x))), (4, .int (iI 0)), (5, .int (iI 0)), (6, .int (iI 0)), (7, .int (iI 0))]) [5, 6, 7, 4, 3, 2, 1, 0] rfl ?_
  refine wf5 (P := fun (i : Int) (k : Int) (B : Int) (T : Int) (D : Int) => Wq pg l ev _ s0 mi _ be me co _ w _ _ _ 21 [(0, .ref (adr w b)), (1, .int (iI x)), (2, .int (iI y)), (3, .int (iI (r x))), (4, .int (iI B)), (5, .int (iI T)), (6, .int (iI D)), (7, .int (iI i))] [] F) (I := fun (i : Int) (k : Int) (B : Int) (T : Int) (D : Int) => 0 ≤ i ∧ i ≤ r x + 1 ∧ (y = -1 → r x < i → k = r x) ∧ ((y ≠ -1 ∨ i ≤ r x) → k = i) ∧ B = bo (fw r x y) k ∧ (T = 1 ∧ hk (fw r x y) 0 k = true ∨ T = 0 ∧ hk (fw r x y) 0 k = false) ∧ (D = 1 ∧ hk (fw r x y) 1 k = true ∨ D = 0 ∧ hk (fw r x y) 1 k = false)) (μ := fun (i : Int) (k : Int) (B : Int) (T : Int) (D : Int) => (r x + 1 - i).toNat) ?_ 0 0 0 0 0 (⟨by omega, by omega, by omega, by omega, rfl, Or.inr ⟨rfl, rfl⟩, Or.inr ⟨rfl, rfl⟩⟩)
  intro i k B T D hI' ih21
  (try dsimp only at hI'); (try dsimp only at ih21); (try dsimp only)
  obtain ⟨hi0, hi1, hi2, hi3, hi4, hi5, hi6⟩ := hI'
  have qs := hI.sz hl.1 hl.2
  refine q_iload C 7 dX0_worthOfLine_21 rfl ?_
  refine q_iload_n C 3 dX0_worthOfLine_23 rfl ?_
  refine q_icmp_gt C 109 dX0_worthOfLine_24 ⟨by omega, by omega⟩ ⟨by omega, by omega⟩ (by decide) (fun h24 => ?_) (fun h24 => ?_)
  · have qb := bo_bounds (f := fw r x y) (n := k) (by omega) (fun p a b => fw_nn hI hl (by omega) a)
    refine q_iload C 4 dX0_worthOfLine_109 rfl ?_
    refine q_iload C 5 dX0_worthOfLine_111 rfl ?_
    refine q_if_eq C 125 dX0_worthOfLine_113 ⟨by omega, by omega⟩  (by decide) (fun h113 => ?_) (fun h113 => ?_)
    · refine q_iconst C 0 dX0_worthOfLine_125 ?_
      refine q_iadd C dX0_worthOfLine_126 ?_
      refine q_iload C 4 dX0_worthOfLine_127 rfl ?_
      refine q_bipush C 8 dX0_worthOfLine_129 (by decide) ?_
      refine q_icmp_ne C 138 dX0_worthOfLine_131 ⟨by omega, by omega⟩ ⟨by decide, by decide⟩ (by decide) (fun h131 => ?_) (fun h131 => ?_)
      · refine q_iconst C 0 dX0_worthOfLine_138 ?_
        refine q_iadd C dX0_worthOfLine_139 ?_
        refine q_iret C dX0_worthOfLine_140 ?_
        exact ⟨by rw [show (if y = -1 then r x else r x + 1) = k by split <;> omega]; exact LW_of hi4 hi5 hi6 (by omega) (by omega), rfl⟩
      · refine q_iconst C 3 dX0_worthOfLine_134 ?_
        refine q_goto C 139 dX0_worthOfLine_135 (by decide) ?_
        refine q_iadd C dX0_worthOfLine_139 ?_
        refine q_iret C dX0_worthOfLine_140 ?_
        exact ⟨by rw [show (if y = -1 then r x else r x + 1) = k by split <;> omega]; exact LW_of hi4 hi5 hi6 (by omega) (by omega), rfl⟩
    · refine q_iload C 6 dX0_worthOfLine_116 rfl ?_
      refine q_if_eq C 125 dX0_worthOfLine_118 ⟨by omega, by omega⟩  (by decide) (fun h118 => ?_) (fun h118 => ?_)
      · refine q_iconst C 0 dX0_worthOfLine_125 ?_
        refine q_iadd C dX0_worthOfLine_126 ?_
        refine q_iload C 4 dX0_worthOfLine_127 rfl ?_
        refine q_bipush C 8 dX0_worthOfLine_129 (by decide) ?_
        refine q_icmp_ne C 138 dX0_worthOfLine_131 ⟨by omega, by omega⟩ ⟨by decide, by decide⟩ (by decide) (fun h131 => ?_) (fun h131 => ?_)
        · refine q_iconst C 0 dX0_worthOfLine_138 ?_
          refine q_iadd C dX0_worthOfLine_139 ?_
          refine q_iret C dX0_worthOfLine_140 ?_
          exact ⟨by rw [show (if y = -1 then r x else r x + 1) = k by split <;> omega]; exact LW_of hi4 hi5 hi6 (by omega) (by omega), rfl⟩
        · refine q_iconst C 3 dX0_worthOfLine_134 ?_
          refine q_goto C 139 dX0_worthOfLine_135 (by decide) ?_
          refine q_iadd C dX0_worthOfLine_139 ?_
          refine q_iret C dX0_worthOfLine_140 ?_
          exact ⟨by rw [show (if y = -1 then r x else r x + 1) = k by split <;> omega]; exact LW_of hi4 hi5 hi6 (by omega) (by omega), rfl⟩
      · refine q_iconst C 5 dX0_worthOfLine_121 ?_
        refine q_goto C 126 dX0_worthOfLine_122 (by decide) ?_
        refine q_iadd C dX0_worthOfLine_126 ?_
        refine q_iload C 4 dX0_worthOfLine_127 rfl ?_
        refine q_bipush C 8 dX0_worthOfLine_129 (by decide) ?_
        refine q_icmp_ne C 138 dX0_worthOfLine_131 ⟨by omega, by omega⟩ ⟨by decide, by decide⟩ (by decide) (fun h131 => ?_) (fun h131 => ?_)
        · refine q_iconst C 0 dX0_worthOfLine_138 ?_
          refine q_iadd C dX0_worthOfLine_139 ?_
          refine q_iret C dX0_worthOfLine_140 ?_
          exact ⟨by rw [show (if y = -1 then r x else r x + 1) = k by split <;> omega]; exact LW_of hi4 hi5 hi6 (by omega) (by omega), rfl⟩
        · refine q_iconst C 3 dX0_worthOfLine_134 ?_
          refine q_goto C 139 dX0_worthOfLine_135 (by decide) ?_
          refine q_iadd C dX0_worthOfLine_139 ?_
          refine q_iret C dX0_worthOfLine_140 ?_
          exact ⟨by rw [show (if y = -1 then r x else r x + 1) = k by split <;> omega]; exact LW_of hi4 hi5 hi6 (by omega) (by omega), rfl⟩
  · refine q_iload C 7 dX0_worthOfLine_27 rfl ?_
    refine q_iload_n C 3 dX0_worthOfLine_29 rfl ?_
    refine q_icmp_ge C 43 dX0_worthOfLine_30 ⟨by omega, by omega⟩ ⟨by omega, by omega⟩ (by decide) (fun h30 => ?_) (fun h30 => ?_)
    · refine q_iload_n C 2 dX0_worthOfLine_43 rfl ?_
      refine q_istore (lv' := [(8, .int (iI y)), (0, .ref (adr w b)), (1, .int (iI x)), (2, .int (iI y)), (3, .int (iI (r x))), (4, .int (iI B)), (5, .int (iI T)), (6, .int (iI D)), (7, .int (iI i))]) C dX0_worthOfLine_44 (by decide) rfl ?_
      have qk : ¬ y = -1 → k = i := fun h => hi3 (by omega)
      have qf : ¬ y = -1 → fw r x y k = y := fun h => by rw [qk h]; first | exact fw_lt (by omega) | exact fw_ge (by omega)
      refine q_iload C 0 dX0_worthOfLine_46 rfl ?_
      refine q_iconst C (-1) dX0_worthOfLine_48 ?_
      refine q_icmp_eq C 103 dX0_worthOfLine_49 ⟨by omega, by omega⟩ ⟨by decide, by decide⟩ (by decide) (fun h49 => ?_) (fun h49 => ?_)
      · refine q_iinc (lv' := [(7, .int (iI (i + 1))), (8, .int (iI y)), (0, .ref (adr w b)), (1, .int (iI x)), (2, .int (iI y)), (3, .int (iI (r x))), (4, .int (iI B)), (5, .int (iI T)), (6, .int (iI D))]) C 8 dX0_worthOfLine_103 rfl (by decide) rfl ?_
        refine q_goto C 21 dX0_worthOfLine_106 (by decide) ?_
        refine q_lv (lv' := [(0, .ref (adr w b)), (1, .int (iI x)), (2, .int (iI y)), (3, .int (iI (r x))), (4, .int (iI B)), (5, .int (iI T)), (6, .int (iI D)), (7, .int (iI (i + 1)))]) [2, 3, 4, 5, 6, 7, 8, 0] rfl ?_
        exact ih21 (i + 1) k B T D (⟨by omega, by omega, by omega, by omega, hi4, hi5, hi6⟩) (by omega)
      · have qk2 := qk (by omega)
        have qf2 := qf (by omega)
        refine q_iload C 5 dX0_worthOfLine_52 rfl ?_
        refine q_iload C 0 dX0_worthOfLine_54 rfl ?_
        refine q_cI (q_runSN (As := [.int (iI y)]) (rest := [.int (iI B)]) C (k_X3_beatsOf l (by omega)) wd_274 wd_273 wd_13 nw_272 nd_X3_beatsOf rfl (by decide) ⟨Nat.zero_le _, Nat.zero_le _⟩ rfl (Nat.le_of_ble_eq_true rfl) dX0_worthOfLine_56) ?_
        rintro z F' ⟨rfl, rfl⟩
        have q56 := bt_pos (x := y) (by omega)
        refine q_iadd C dX0_worthOfLine_59 ?_
        refine q_istore (lv' := [(4, .int (iI (B + (bt y)))), (8, .int (iI y)), (0, .ref (adr w b)), (1, .int (iI x)), (2, .int (iI y)), (3, .int (iI (r x))), (5, .int (iI T)), (6, .int (iI D)), (7, .int (iI i))]) C dX0_worthOfLine_60 (by decide) rfl ?_
        refine q_iload C 6 dX0_worthOfLine_62 rfl ?_
        refine q_if_ne C 75 dX0_worthOfLine_64 ⟨by omega, by omega⟩  (by decide) (fun h64 => ?_) (fun h64 => ?_)
        · refine q_iconst C 1 dX0_worthOfLine_75 ?_
          refine q_goto C 80 dX0_worthOfLine_76 (by decide) ?_
          refine q_istore (lv' := [(5, .int (iI 1)), (4, .int (iI (B + (bt y)))), (8, .int (iI y)), (0, .ref (adr w b)), (1, .int (iI x)), (2, .int (iI y)), (3, .int (iI (r x))), (6, .int (iI D)), (7, .int (iI i))]) C dX0_worthOfLine_80 (by decide) rfl ?_
          refine q_iload C 7 dX0_worthOfLine_82 rfl ?_
          refine q_if_ne C 96 dX0_worthOfLine_84 ⟨by omega, by omega⟩  (by decide) (fun h84 => ?_) (fun h84 => ?_)
          · refine q_iconst C 1 dX0_worthOfLine_96 ?_
            refine q_goto C 101 dX0_worthOfLine_97 (by decide) ?_
            refine q_istore (lv' := [(6, .int (iI 1)), (5, .int (iI 1)), (4, .int (iI (B + (bt y)))), (8, .int (iI y)), (0, .ref (adr w b)), (1, .int (iI x)), (2, .int (iI y)), (3, .int (iI (r x))), (7, .int (iI i))]) C dX0_worthOfLine_101 (by decide) rfl ?_
            refine q_iinc (lv' := [(7, .int (iI (i + 1))), (6, .int (iI 1)), (5, .int (iI 1)), (4, .int (iI (B + (bt y)))), (8, .int (iI y)), (0, .ref (adr w b)), (1, .int (iI x)), (2, .int (iI y)), (3, .int (iI (r x)))]) C 8 dX0_worthOfLine_103 rfl (by decide) rfl ?_
            refine q_goto C 21 dX0_worthOfLine_106 (by decide) ?_
            refine q_lv (lv' := [(0, .ref (adr w b)), (1, .int (iI x)), (2, .int (iI y)), (3, .int (iI (r x))), (4, .int (iI (B + (bt y)))), (5, .int (iI 1)), (6, .int (iI 1)), (7, .int (iI (i + 1)))]) [5, 6, 7, 8, 3, 2, 1, 0] rfl ?_
            exact ih21 (i + 1) (k + 1) (B + (bt y)) 1 1 (⟨by omega, by omega, by omega, by omega, by rw [bo_s (by omega), qf2, hi4], hk_step (by omega) hi5 (by rw [qf2]; omega), hk_step (by omega) hi6 (by rw [qf2]; omega)⟩) (by omega)
          · refine q_iload C 2 dX0_worthOfLine_87 rfl ?_
            refine q_cI (q_runSN (As := [.int (iI y)]) (rest := []) C (k_X3_kindOf l (by omega)) wd_268 wd_267 wd_13 nw_266 nd_X3_kindOf rfl (by decide) ⟨Nat.zero_le _, Nat.zero_le _⟩ rfl (Nat.le_of_ble_eq_true rfl) dX0_worthOfLine_89) ?_
            rintro z F' ⟨rfl, rfl⟩
            have q89 := kn_pos (x := y) (by omega)
            refine q_iconst C 1 dX0_worthOfLine_92 ?_
            refine q_icmp_ne C 100 dX0_worthOfLine_93 ⟨by omega, by omega⟩ ⟨by decide, by decide⟩ (by decide) (fun h93 => ?_) (fun h93 => ?_)
            · refine q_iconst C 0 dX0_worthOfLine_100 ?_
              refine q_istore (lv' := [(6, .int (iI 0)), (5, .int (iI 1)), (4, .int (iI (B + (bt y)))), (8, .int (iI y)), (0, .ref (adr w b)), (1, .int (iI x)), (2, .int (iI y)), (3, .int (iI (r x))), (7, .int (iI i))]) C dX0_worthOfLine_101 (by decide) rfl ?_
              refine q_iinc (lv' := [(7, .int (iI (i + 1))), (6, .int (iI 0)), (5, .int (iI 1)), (4, .int (iI (B + (bt y)))), (8, .int (iI y)), (0, .ref (adr w b)), (1, .int (iI x)), (2, .int (iI y)), (3, .int (iI (r x)))]) C 8 dX0_worthOfLine_103 rfl (by decide) rfl ?_
              refine q_goto C 21 dX0_worthOfLine_106 (by decide) ?_
              refine q_lv (lv' := [(0, .ref (adr w b)), (1, .int (iI x)), (2, .int (iI y)), (3, .int (iI (r x))), (4, .int (iI (B + (bt y)))), (5, .int (iI 1)), (6, .int (iI 0)), (7, .int (iI (i + 1)))]) [5, 6, 7, 8, 3, 2, 1, 0] rfl ?_
              exact ih21 (i + 1) (k + 1) (B + (bt y)) 1 0 (⟨by omega, by omega, by omega, by omega, by rw [bo_s (by omega), qf2, hi4], hk_step (by omega) hi5 (by rw [qf2]; omega), hk_step (by omega) hi6 (by rw [qf2]; omega)⟩) (by omega)
            · refine q_iconst C 1 dX0_worthOfLine_96 ?_
              refine q_goto C 101 dX0_worthOfLine_97 (by decide) ?_
              refine q_istore (lv' := [(6, .int (iI 1)), (5, .int (iI 1)), (4, .int (iI (B + (bt y)))), (8, .int (iI y)), (0, .ref (adr w b)), (1, .int (iI x)), (2, .int (iI y)), (3, .int (iI (r x))), (7, .int (iI i))]) C dX0_worthOfLine_101 (by decide) rfl ?_
              refine q_iinc (lv' := [(7, .int (iI (i + 1))), (6, .int (iI 1)), (5, .int (iI 1)), (4, .int (iI (B + (bt y)))), (8, .int (iI y)), (0, .ref (adr w b)), (1, .int (iI x)), (2, .int (iI y)), (3, .int (iI (r x)))]) C 8 dX0_worthOfLine_103 rfl (by decide) rfl ?_
              refine q_goto C 21 dX0_worthOfLine_106 (by decide) ?_
              refine q_lv (lv' := [(0, .ref (adr w b)), (1, .int (iI x)), (2, .int (iI y)), (3, .int (iI (r x))), (4, .int (iI (B + (bt y)))), (5, .int (iI 1)), (6, .int (iI 1)), (7, .int (iI (i + 1)))]) [5, 6, 7, 8, 3, 2, 1, 0] rfl ?_
              exact ih21 (i + 1) (k + 1) (B + (bt y)) 1 1 (⟨by omega, by omega, by omega, by omega, by rw [bo_s (by omega), qf2, hi4], hk_step (by omega) hi5 (by rw [qf2]; omega), hk_step (by omega) hi6 (by rw [qf2]; omega)⟩) (by omega)
        · refine q_iload C 1 dX0_worthOfLine_67 rfl ?_
          refine q_cI (q_runSN (As := [.int (iI y)]) (rest := []) C (k_X3_kindOf l (by omega)) wd_268 wd_267 wd_13 nw_266 nd_X3_kindOf rfl (by decide) ⟨Nat.zero_le _, Nat.zero_le _⟩ rfl (Nat.le_of_ble_eq_true rfl) dX0_worthOfLine_69) ?_
          rintro z F' ⟨rfl, rfl⟩
          have q69 := kn_pos (x := y) (by omega)
          refine q_if_ne C 79 dX0_worthOfLine_72 ⟨by omega, by omega⟩  (by decide) (fun h72 => ?_) (fun h72 => ?_)
          · refine q_iconst C 0 dX0_worthOfLine_79 ?_
            refine q_istore (lv' := [(5, .int (iI 0)), (4, .int (iI (B + (bt y)))), (8, .int (iI y)), (0, .ref (adr w b)), (1, .int (iI x)), (2, .int (iI y)), (3, .int (iI (r x))), (6, .int (iI D)), (7, .int (iI i))]) C dX0_worthOfLine_80 (by decide) rfl ?_
            refine q_iload C 7 dX0_worthOfLine_82 rfl ?_
            refine q_if_ne C 96 dX0_worthOfLine_84 ⟨by omega, by omega⟩  (by decide) (fun h84 => ?_) (fun h84 => ?_)
            · refine q_iconst C 1 dX0_worthOfLine_96 ?_
              refine q_goto C 101 dX0_worthOfLine_97 (by decide) ?_
              refine q_istore (lv' := [(6, .int (iI 1)), (5, .int (iI 0)), (4, .int (iI (B + (bt y)))), (8, .int (iI y)), (0, .ref (adr w b)), (1, .int (iI x)), (2, .int (iI y)), (3, .int (iI (r x))), (7, .int (iI i))]) C dX0_worthOfLine_101 (by decide) rfl ?_
              refine q_iinc (lv' := [(7, .int (iI (i + 1))), (6, .int (iI 1)), (5, .int (iI 0)), (4, .int (iI (B + (bt y)))), (8, .int (iI y)), (0, .ref (adr w b)), (1, .int (iI x)), (2, .int (iI y)), (3, .int (iI (r x)))]) C 8 dX0_worthOfLine_103 rfl (by decide) rfl ?_
              refine q_goto C 21 dX0_worthOfLine_106 (by decide) ?_
              refine q_lv (lv' := [(0, .ref (adr w b)), (1, .int (iI x)), (2, .int (iI y)), (3, .int (iI (r x))), (4, .int (iI (B + (bt y)))), (5, .int (iI 0)), (6, .int (iI 1)), (7, .int (iI (i + 1)))]) [5, 6, 7, 8, 3, 2, 1, 0] rfl ?_
              exact ih21 (i + 1) (k + 1) (B + (bt y)) 0 1 (⟨by omega, by omega, by omega, by omega, by rw [bo_s (by omega), qf2, hi4], hk_step (by omega) hi5 (by rw [qf2]; omega), hk_step (by omega) hi6 (by rw [qf2]; omega)⟩) (by omega)
            · refine q_iload C 2 dX0_worthOfLine_87 rfl ?_
              refine q_cI (q_runSN (As := [.int (iI y)]) (rest := []) C (k_X3_kindOf l (by omega)) wd_268 wd_267 wd_13 nw_266 nd_X3_kindOf rfl (by decide) ⟨Nat.zero_le _, Nat.zero_le _⟩ rfl (Nat.le_of_ble_eq_true rfl) dX0_worthOfLine_89) ?_
              rintro z F' ⟨rfl, rfl⟩
              have q89 := kn_pos (x := y) (by omega)
              refine q_iconst C 1 dX0_worthOfLine_92 ?_
              refine q_icmp_ne C 100 dX0_worthOfLine_93 ⟨by omega, by omega⟩ ⟨by decide, by decide⟩ (by decide) (fun h93 => ?_) (fun h93 => ?_)
              · refine q_iconst C 0 dX0_worthOfLine_100 ?_
                refine q_istore (lv' := [(6, .int (iI 0)), (5, .int (iI 0)), (4, .int (iI (B + (bt y)))), (8, .int (iI y)), (0, .ref (adr w b)), (1, .int (iI x)), (2, .int (iI y)), (3, .int (iI (r x))), (7, .int (iI i))]) C dX0_worthOfLine_101 (by decide) rfl ?_
                refine q_iinc (lv' := [(7, .int (iI (i + 1))), (6, .int (iI 0)), (5, .int (iI 0)), (4, .int (iI (B + (bt y)))), (8, .int (iI y)), (0, .ref (adr w b)), (1, .int (iI x)), (2, .int (iI y)), (3, .int (iI (r x)))]) C 8 dX0_worthOfLine_103 rfl (by decide) rfl ?_
                refine q_goto C 21 dX0_worthOfLine_106 (by decide) ?_
                refine q_lv (lv' := [(0, .ref (adr w b)), (1, .int (iI x)), (2, .int (iI y)), (3, .int (iI (r x))), (4, .int (iI (B + (bt y)))), (5, .int (iI 0)), (6, .int (iI 0)), (7, .int (iI (i + 1)))]) [5, 6, 7, 8, 3, 2, 1, 0] rfl ?_
                exact ih21 (i + 1) (k + 1) (B + (bt y)) 0 0 (⟨by omega, by omega, by omega, by omega, by rw [bo_s (by omega), qf2, hi4], hk_step (by omega) hi5 (by rw [qf2]; omega), hk_step (by omega) hi6 (by rw [qf2]; omega)⟩) (by omega)
              · refine q_iconst C 1 dX0_worthOfLine_96 ?_
                refine q_goto C 101 dX0_worthOfLine_97 (by decide) ?_
                refine q_istore (lv' := [(6, .int (iI 1)), (5, .int (iI 0)), (4, .int (iI (B + (bt y)))), (8, .int (iI y)), (0, .ref (adr w b)), (1, .int (iI x)), (2, .int (iI y)), (3, .int (iI (r x))), (7, .int (iI i))]) C dX0_worthOfLine_101 (by decide) rfl ?_
                refine q_iinc (lv' := [(7, .int (iI (i + 1))), (6, .int (iI 1)), (5, .int (iI 0)), (4, .int (iI (B + (bt y)))), (8, .int (iI y)), (0, .ref (adr w b)), (1, .int (iI x)), (2, .int (iI y)), (3, .int (iI (r x)))]) C 8 dX0_worthOfLine_103 rfl (by decide) rfl ?_
                refine q_goto C 21 dX0_worthOfLine_106 (by decide) ?_
                refine q_lv (lv' := [(0, .ref (adr w b)), (1, .int (iI x)), (2, .int (iI y)), (3, .int (iI (r x))), (4, .int (iI (B + (bt y)))), (5, .int (iI 0)), (6, .int (iI 1)), (7, .int (iI (i + 1)))]) [5, 6, 7, 8, 3, 2, 1, 0] rfl ?_
                exact ih21 (i + 1) (k + 1) (B + (bt y)) 0 1 (⟨by omega, by omega, by omega, by omega, by rw [bo_s (by omega), qf2, hi4], hk_step (by omega) hi5 (by rw [qf2]; omega), hk_step (by omega) hi6 (by rw [qf2]; omega)⟩) (by omega)
          · refine q_iconst C 1 dX0_worthOfLine_75 ?_
            refine q_goto C 80 dX0_worthOfLine_76 (by decide) ?_
            refine q_istore (lv' := [(5, .int (iI 1)), (4, .int (iI (B + (bt y)))), (8, .int (iI y)), (0, .ref (adr w b)), (1, .int (iI x)), (2, .int (iI y)), (3, .int (iI (r x))), (6, .int (iI D)), (7, .int (iI i))]) C dX0_worthOfLine_80 (by decide) rfl ?_
            refine q_iload C 7 dX0_worthOfLine_82 rfl ?_
            refine q_if_ne C 96 dX0_worthOfLine_84 ⟨by omega, by omega⟩  (by decide) (fun h84 => ?_) (fun h84 => ?_)
            · refine q_iconst C 1 dX0_worthOfLine_96 ?_
              refine q_goto C 101 dX0_worthOfLine_97 (by decide) ?_
              refine q_istore (lv' := [(6, .int (iI 1)), (5, .int (iI 1)), (4, .int (iI (B + (bt y)))), (8, .int (iI y)), (0, .ref (adr w b)), (1, .int (iI x)), (2, .int (iI y)), (3, .int (iI (r x))), (7, .int (iI i))]) C dX0_worthOfLine_101 (by decide) rfl ?_
              refine q_iinc (lv' := [(7, .int (iI (i + 1))), (6, .int (iI 1)), (5, .int (iI 1)), (4, .int (iI (B + (bt y)))), (8, .int (iI y)), (0, .ref (adr w b)), (1, .int (iI x)), (2, .int (iI y)), (3, .int (iI (r x)))]) C 8 dX0_worthOfLine_103 rfl (by decide) rfl ?_
              refine q_goto C 21 dX0_worthOfLine_106 (by decide) ?_
              refine q_lv (lv' := [(0, .ref (adr w b)), (1, .int (iI x)), (2, .int (iI y)), (3, .int (iI (r x))), (4, .int (iI (B + (bt y)))), (5, .int (iI 1)), (6, .int (iI 1)), (7, .int (iI (i + 1)))]) [5, 6, 7, 8, 3, 2, 1, 0] rfl ?_
              exact ih21 (i + 1) (k + 1) (B + (bt y)) 1 1 (⟨by omega, by omega, by omega, by omega, by rw [bo_s (by omega), qf2, hi4], hk_step (by omega) hi5 (by rw [qf2]; omega), hk_step (by omega) hi6 (by rw [qf2]; omega)⟩) (by omega)
            · refine q_iload C 2 dX0_worthOfLine_87 rfl ?_
              refine q_cI (q_runSN (As := [.int (iI y)]) (rest := []) C (k_X3_kindOf l (by omega)) wd_268 wd_267 wd_13 nw_266 nd_X3_kindOf rfl (by decide) ⟨Nat.zero_le _, Nat.zero_le _⟩ rfl (Nat.le_of_ble_eq_true rfl) dX0_worthOfLine_89) ?_
              rintro z F' ⟨rfl, rfl⟩
              have q89 := kn_pos (x := y) (by omega)
              refine q_iconst C 1 dX0_worthOfLine_92 ?_
              refine q_icmp_ne C 100 dX0_worthOfLine_93 ⟨by omega, by omega⟩ ⟨by decide, by decide⟩ (by decide) (fun h93 => ?_) (fun h93 => ?_)
              · refine q_iconst C 0 dX0_worthOfLine_100 ?_
                refine q_istore (lv' := [(6, .int (iI 0)), (5, .int (iI 1)), (4, .int (iI (B + (bt y)))), (8, .int (iI y)), (0, .ref (adr w b)), (1, .int (iI x)), (2, .int (iI y)), (3, .int (iI (r x))), (7, .int (iI i))]) C dX0_worthOfLine_101 (by decide) rfl ?_
                refine q_iinc (lv' := [(7, .int (iI (i + 1))), (6, .int (iI 0)), (5, .int (iI 1)), (4, .int (iI (B + (bt y)))), (8, .int (iI y)), (0, .ref (adr w b)), (1, .int (iI x)), (2, .int (iI y)), (3, .int (iI (r x)))]) C 8 dX0_worthOfLine_103 rfl (by decide) rfl ?_
                refine q_goto C 21 dX0_worthOfLine_106 (by decide) ?_
                refine q_lv (lv' := [(0, .ref (adr w b)), (1, .int (iI x)), (2, .int (iI y)), (3, .int (iI (r x))), (4, .int (iI (B + (bt y)))), (5, .int (iI 1)), (6, .int (iI 0)), (7, .int (iI (i + 1)))]) [5, 6, 7, 8, 3, 2, 1, 0] rfl ?_
                exact ih21 (i + 1) (k + 1) (B + (bt y)) 1 0 (⟨by omega, by omega, by omega, by omega, by rw [bo_s (by omega), qf2, hi4], hk_step (by omega) hi5 (by rw [qf2]; omega), hk_step (by omega) hi6 (by rw [qf2]; omega)⟩) (by omega)
              · refine q_iconst C 1 dX0_worthOfLine_96 ?_
                refine q_goto C 101 dX0_worthOfLine_97 (by decide) ?_
                refine q_istore (lv' := [(6, .int (iI 1)), (5, .int (iI 1)), (4, .int (iI (B + (bt y)))), (8, .int (iI y)), (0, .ref (adr w b)), (1, .int (iI x)), (2, .int (iI y)), (3, .int (iI (r x))), (7, .int (iI i))]) C dX0_worthOfLine_101 (by decide) rfl ?_
                refine q_iinc (lv' := [(7, .int (iI (i + 1))), (6, .int (iI 1)), (5, .int (iI 1)), (4, .int (iI (B + (bt y)))), (8, .int (iI y)), (0, .ref (adr w b)), (1, .int (iI x)), (2, .int (iI y)), (3, .int (iI (r x)))]) C 8 dX0_worthOfLine_103 rfl (by decide) rfl ?_
                refine q_goto C 21 dX0_worthOfLine_106 (by decide) ?_
                refine q_lv (lv' := [(0, .ref (adr w b)), (1, .int (iI x)), (2, .int (iI y)), (3, .int (iI (r x))), (4, .int (iI (B + (bt y)))), (5, .int (iI 1)), (6, .int (iI 1)), (7, .int (iI (i + 1)))]) [5, 6, 7, 8, 3, 2, 1, 0] rfl ?_
                exact ih21 (i + 1) (k + 1) (B + (bt y)) 1 1 (⟨by omega, by omega, by omega, by omega, by rw [bo_s (by omega), qf2, hi4], hk_step (by omega) hi5 (by rw [qf2]; omega), hk_step (by omega) hi6 (by rw [qf2]; omega)⟩) (by omega)
    · refine q_aload_n C 0 dX0_worthOfLine_33 rfl ?_
      refine q_iload_n C 1 dX0_worthOfLine_34 rfl ?_
      refine q_iload C 7 dX0_worthOfLine_35 rfl ?_
      refine q_cI (q_runV (As := [.int (iI x), .int (iI i)]) (rest := []) C (k_wat_in l hb hB (x := x) (p := i) ⟨by omega, by omega⟩ ⟨by omega, by omega⟩) hb.k0 (by decide) rfl wd_282 wd_280 wd_281 wd_14 wd_279 nd_X0_wordAt rfl (by decide) ⟨Nat.zero_le _, Nat.zero_le _⟩ rfl (Nat.le_of_ble_eq_true rfl) dX0_worthOfLine_37) ?_
      rintro z F' ⟨rfl, rfl⟩
      have q37 := hI.wd (l := x) (p := i) (by omega) (by omega) (by omega) (by omega)
      refine q_goto C 44 dX0_worthOfLine_40 (by decide) ?_
      refine q_istore (lv' := [(8, .int (iI (wa r x i))), (0, .ref (adr w b)), (1, .int (iI x)), (2, .int (iI y)), (3, .int (iI (r x))), (4, .int (iI B)), (5, .int (iI T)), (6, .int (iI D)), (7, .int (iI i))]) C dX0_worthOfLine_44 (by decide) rfl ?_
      have qk : ¬ wa r x i = -1 → k = i := fun h => hi3 (by omega)
      have qf : ¬ wa r x i = -1 → fw r x y k = wa r x i := fun h => by rw [qk h]; first | exact fw_lt (by omega) | exact fw_ge (by omega)
      refine q_iload C 0 dX0_worthOfLine_46 rfl ?_
      refine q_iconst C (-1) dX0_worthOfLine_48 ?_
      refine q_icmp_eq C 103 dX0_worthOfLine_49 ⟨by omega, by omega⟩ ⟨by decide, by decide⟩ (by decide) (fun h49 => ?_) (fun h49 => ?_)
      · refine q_iinc (lv' := [(7, .int (iI (i + 1))), (8, .int (iI (wa r x i))), (0, .ref (adr w b)), (1, .int (iI x)), (2, .int (iI y)), (3, .int (iI (r x))), (4, .int (iI B)), (5, .int (iI T)), (6, .int (iI D))]) C 8 dX0_worthOfLine_103 rfl (by decide) rfl ?_
        refine q_goto C 21 dX0_worthOfLine_106 (by decide) ?_
        refine q_lv (lv' := [(0, .ref (adr w b)), (1, .int (iI x)), (2, .int (iI y)), (3, .int (iI (r x))), (4, .int (iI B)), (5, .int (iI T)), (6, .int (iI D)), (7, .int (iI (i + 1)))]) [2, 3, 4, 5, 6, 7, 8, 0] rfl ?_
        exact ih21 (i + 1) k B T D (⟨by omega, by omega, by omega, by omega, hi4, hi5, hi6⟩) (by omega)
      · have qk2 := qk (by omega)
        have qf2 := qf (by omega)
        refine q_iload C 5 dX0_worthOfLine_52 rfl ?_
        refine q_iload C 0 dX0_worthOfLine_54 rfl ?_
        refine q_cI (q_runSN (As := [.int (iI (wa r x i))]) (rest := [.int (iI B)]) C (k_X3_beatsOf l (by omega)) wd_274 wd_273 wd_13 nw_272 nd_X3_beatsOf rfl (by decide) ⟨Nat.zero_le _, Nat.zero_le _⟩ rfl (Nat.le_of_ble_eq_true rfl) dX0_worthOfLine_56) ?_
        rintro z F' ⟨rfl, rfl⟩
        have q56 := bt_pos (x := wa r x i) (by omega)
        refine q_iadd C dX0_worthOfLine_59 ?_
        refine q_istore (lv' := [(4, .int (iI (B + (bt (wa r x i))))), (8, .int (iI (wa r x i))), (0, .ref (adr w b)), (1, .int (iI x)), (2, .int (iI y)), (3, .int (iI (r x))), (5, .int (iI T)), (6, .int (iI D)), (7, .int (iI i))]) C dX0_worthOfLine_60 (by decide) rfl ?_
        refine q_iload C 6 dX0_worthOfLine_62 rfl ?_
        refine q_if_ne C 75 dX0_worthOfLine_64 ⟨by omega, by omega⟩  (by decide) (fun h64 => ?_) (fun h64 => ?_)
        · refine q_iconst C 1 dX0_worthOfLine_75 ?_
          refine q_goto C 80 dX0_worthOfLine_76 (by decide) ?_
          refine q_istore (lv' := [(5, .int (iI 1)), (4, .int (iI (B + (bt (wa r x i))))), (8, .int (iI (wa r x i))), (0, .ref (adr w b)), (1, .int (iI x)), (2, .int (iI y)), (3, .int (iI (r x))), (6, .int (iI D)), (7, .int (iI i))]) C dX0_worthOfLine_80 (by decide) rfl ?_
          refine q_iload C 7 dX0_worthOfLine_82 rfl ?_
          refine q_if_ne C 96 dX0_worthOfLine_84 ⟨by omega, by omega⟩  (by decide) (fun h84 => ?_) (fun h84 => ?_)
          · refine q_iconst C 1 dX0_worthOfLine_96 ?_
            refine q_goto C 101 dX0_worthOfLine_97 (by decide) ?_
            refine q_istore (lv' := [(6, .int (iI 1)), (5, .int (iI 1)), (4, .int (iI (B + (bt (wa r x i))))), (8, .int (iI (wa r x i))), (0, .ref (adr w b)), (1, .int (iI x)), (2, .int (iI y)), (3, .int (iI (r x))), (7, .int (iI i))]) C dX0_worthOfLine_101 (by decide) rfl ?_
            refine q_iinc (lv' := [(7, .int (iI (i + 1))), (6, .int (iI 1)), (5, .int (iI 1)), (4, .int (iI (B + (bt (wa r x i))))), (8, .int (iI (wa r x i))), (0, .ref (adr w b)), (1, .int (iI x)), (2, .int (iI y)), (3, .int (iI (r x)))]) C 8 dX0_worthOfLine_103 rfl (by decide) rfl ?_
            refine q_goto C 21 dX0_worthOfLine_106 (by decide) ?_
            refine q_lv (lv' := [(0, .ref (adr w b)), (1, .int (iI x)), (2, .int (iI y)), (3, .int (iI (r x))), (4, .int (iI (B + (bt (wa r x i))))), (5, .int (iI 1)), (6, .int (iI 1)), (7, .int (iI (i + 1)))]) [5, 6, 7, 8, 3, 2, 1, 0] rfl ?_
            exact ih21 (i + 1) (k + 1) (B + (bt (wa r x i))) 1 1 (⟨by omega, by omega, by omega, by omega, by rw [bo_s (by omega), qf2, hi4], hk_step (by omega) hi5 (by rw [qf2]; omega), hk_step (by omega) hi6 (by rw [qf2]; omega)⟩) (by omega)
          · refine q_iload C 2 dX0_worthOfLine_87 rfl ?_
            refine q_cI (q_runSN (As := [.int (iI (wa r x i))]) (rest := []) C (k_X3_kindOf l (by omega)) wd_268 wd_267 wd_13 nw_266 nd_X3_kindOf rfl (by decide) ⟨Nat.zero_le _, Nat.zero_le _⟩ rfl (Nat.le_of_ble_eq_true rfl) dX0_worthOfLine_89) ?_
            rintro z F' ⟨rfl, rfl⟩
            have q89 := kn_pos (x := wa r x i) (by omega)
            refine q_iconst C 1 dX0_worthOfLine_92 ?_
            refine q_icmp_ne C 100 dX0_worthOfLine_93 ⟨by omega, by omega⟩ ⟨by decide, by decide⟩ (by decide) (fun h93 => ?_) (fun h93 => ?_)
            · refine q_iconst C 0 dX0_worthOfLine_100 ?_
              refine q_istore (lv' := [(6, .int (iI 0)), (5, .int (iI 1)), (4, .int (iI (B + (bt (wa r x i))))), (8, .int (iI (wa r x i))), (0, .ref (adr w b)), (1, .int (iI x)), (2, .int (iI y)), (3, .int (iI (r x))), (7, .int (iI i))]) C dX0_worthOfLine_101 (by decide) rfl ?_
              refine q_iinc (lv' := [(7, .int (iI (i + 1))), (6, .int (iI 0)), (5, .int (iI 1)), (4, .int (iI (B + (bt (wa r x i))))), (8, .int (iI (wa r x i))), (0, .ref (adr w b)), (1, .int (iI x)), (2, .int (iI y)), (3, .int (iI (r x)))]) C 8 dX0_worthOfLine_103 rfl (by decide) rfl ?_
              refine q_goto C 21 dX0_worthOfLine_106 (by decide) ?_
              refine q_lv (lv' := [(0, .ref (adr w b)), (1, .int (iI x)), (2, .int (iI y)), (3, .int (iI (r x))), (4, .int (iI (B + (bt (wa r x i))))), (5, .int (iI 1)), (6, .int (iI 0)), (7, .int (iI (i + 1)))]) [5, 6, 7, 8, 3, 2, 1, 0] rfl ?_
              exact ih21 (i + 1) (k + 1) (B + (bt (wa r x i))) 1 0 (⟨by omega, by omega, by omega, by omega, by rw [bo_s (by omega), qf2, hi4], hk_step (by omega) hi5 (by rw [qf2]; omega), hk_step (by omega) hi6 (by rw [qf2]; omega)⟩) (by omega)
            · refine q_iconst C 1 dX0_worthOfLine_96 ?_
              refine q_goto C 101 dX0_worthOfLine_97 (by decide) ?_
              refine q_istore (lv' := [(6, .int (iI 1)), (5, .int (iI 1)), (4, .int (iI (B + (bt (wa r x i))))), (8, .int (iI (wa r x i))), (0, .ref (adr w b)), (1, .int (iI x)), (2, .int (iI y)), (3, .int (iI (r x))), (7, .int (iI i))]) C dX0_worthOfLine_101 (by decide) rfl ?_
              refine q_iinc (lv' := [(7, .int (iI (i + 1))), (6, .int (iI 1)), (5, .int (iI 1)), (4, .int (iI (B + (bt (wa r x i))))), (8, .int (iI (wa r x i))), (0, .ref (adr w b)), (1, .int (iI x)), (2, .int (iI y)), (3, .int (iI (r x)))]) C 8 dX0_worthOfLine_103 rfl (by decide) rfl ?_
              refine q_goto C 21 dX0_worthOfLine_106 (by decide) ?_
              refine q_lv (lv' := [(0, .ref (adr w b)), (1, .int (iI x)), (2, .int (iI y)), (3, .int (iI (r x))), (4, .int (iI (B + (bt (wa r x i))))), (5, .int (iI 1)), (6, .int (iI 1)), (7, .int (iI (i + 1)))]) [5, 6, 7, 8, 3, 2, 1, 0] rfl ?_
              exact ih21 (i + 1) (k + 1) (B + (bt (wa r x i))) 1 1 (⟨by omega, by omega, by omega, by omega, by rw [bo_s (by omega), qf2, hi4], hk_step (by omega) hi5 (by rw [qf2]; omega), hk_step (by omega) hi6 (by rw [qf2]; omega)⟩) (by omega)
        · refine q_iload C 1 dX0_worthOfLine_67 rfl ?_
          refine q_cI (q_runSN (As := [.int (iI (wa r x i))]) (rest := []) C (k_X3_kindOf l (by omega)) wd_268 wd_267 wd_13 nw_266 nd_X3_kindOf rfl (by decide) ⟨Nat.zero_le _, Nat.zero_le _⟩ rfl (Nat.le_of_ble_eq_true rfl) dX0_worthOfLine_69) ?_
          rintro z F' ⟨rfl, rfl⟩
          have q69 := kn_pos (x := wa r x i) (by omega)
          refine q_if_ne C 79 dX0_worthOfLine_72 ⟨by omega, by omega⟩  (by decide) (fun h72 => ?_) (fun h72 => ?_)
          · refine q_iconst C 0 dX0_worthOfLine_79 ?_
            refine q_istore (lv' := [(5, .int (iI 0)), (4, .int (iI (B + (bt (wa r x i))))), (8, .int (iI (wa r x i))), (0, .ref (adr w b)), (1, .int (iI x)), (2, .int (iI y)), (3, .int (iI (r x))), (6, .int (iI D)), (7, .int (iI i))]) C dX0_worthOfLine_80 (by decide) rfl ?_
            refine q_iload C 7 dX0_worthOfLine_82 rfl ?_
            refine q_if_ne C 96 dX0_worthOfLine_84 ⟨by omega, by omega⟩  (by decide) (fun h84 => ?_) (fun h84 => ?_)
            · refine q_iconst C 1 dX0_worthOfLine_96 ?_
              refine q_goto C 101 dX0_worthOfLine_97 (by decide) ?_
              refine q_istore (lv' := [(6, .int (iI 1)), (5, .int (iI 0)), (4, .int (iI (B + (bt (wa r x i))))), (8, .int (iI (wa r x i))), (0, .ref (adr w b)), (1, .int (iI x)), (2, .int (iI y)), (3, .int (iI (r x))), (7, .int (iI i))]) C dX0_worthOfLine_101 (by decide) rfl ?_
              refine q_iinc (lv' := [(7, .int (iI (i + 1))), (6, .int (iI 1)), (5, .int (iI 0)), (4, .int (iI (B + (bt (wa r x i))))), (8, .int (iI (wa r x i))), (0, .ref (adr w b)), (1, .int (iI x)), (2, .int (iI y)), (3, .int (iI (r x)))]) C 8 dX0_worthOfLine_103 rfl (by decide) rfl ?_
              refine q_goto C 21 dX0_worthOfLine_106 (by decide) ?_
              refine q_lv (lv' := [(0, .ref (adr w b)), (1, .int (iI x)), (2, .int (iI y)), (3, .int (iI (r x))), (4, .int (iI (B + (bt (wa r x i))))), (5, .int (iI 0)), (6, .int (iI 1)), (7, .int (iI (i + 1)))]) [5, 6, 7, 8, 3, 2, 1, 0] rfl ?_
              exact ih21 (i + 1) (k + 1) (B + (bt (wa r x i))) 0 1 (⟨by omega, by omega, by omega, by omega, by rw [bo_s (by omega), qf2, hi4], hk_step (by omega) hi5 (by rw [qf2]; omega), hk_step (by omega) hi6 (by rw [qf2]; omega)⟩) (by omega)
            · refine q_iload C 2 dX0_worthOfLine_87 rfl ?_
              refine q_cI (q_runSN (As := [.int (iI (wa r x i))]) (rest := []) C (k_X3_kindOf l (by omega)) wd_268 wd_267 wd_13 nw_266 nd_X3_kindOf rfl (by decide) ⟨Nat.zero_le _, Nat.zero_le _⟩ rfl (Nat.le_of_ble_eq_true rfl) dX0_worthOfLine_89) ?_
              rintro z F' ⟨rfl, rfl⟩
              have q89 := kn_pos (x := wa r x i) (by omega)
              refine q_iconst C 1 dX0_worthOfLine_92 ?_
              refine q_icmp_ne C 100 dX0_worthOfLine_93 ⟨by omega, by omega⟩ ⟨by decide, by decide⟩ (by decide) (fun h93 => ?_) (fun h93 => ?_)
              · refine q_iconst C 0 dX0_worthOfLine_100 ?_
                refine q_istore (lv' := [(6, .int (iI 0)), (5, .int (iI 0)), (4, .int (iI (B + (bt (wa r x i))))), (8, .int (iI (wa r x i))), (0, .ref (adr w b)), (1, .int (iI x)), (2, .int (iI y)), (3, .int (iI (r x))), (7, .int (iI i))]) C dX0_worthOfLine_101 (by decide) rfl ?_
                refine q_iinc (lv' := [(7, .int (iI (i + 1))), (6, .int (iI 0)), (5, .int (iI 0)), (4, .int (iI (B + (bt (wa r x i))))), (8, .int (iI (wa r x i))), (0, .ref (adr w b)), (1, .int (iI x)), (2, .int (iI y)), (3, .int (iI (r x)))]) C 8 dX0_worthOfLine_103 rfl (by decide) rfl ?_
                refine q_goto C 21 dX0_worthOfLine_106 (by decide) ?_
                refine q_lv (lv' := [(0, .ref (adr w b)), (1, .int (iI x)), (2, .int (iI y)), (3, .int (iI (r x))), (4, .int (iI (B + (bt (wa r x i))))), (5, .int (iI 0)), (6, .int (iI 0)), (7, .int (iI (i + 1)))]) [5, 6, 7, 8, 3, 2, 1, 0] rfl ?_
                exact ih21 (i + 1) (k + 1) (B + (bt (wa r x i))) 0 0 (⟨by omega, by omega, by omega, by omega, by rw [bo_s (by omega), qf2, hi4], hk_step (by omega) hi5 (by rw [qf2]; omega), hk_step (by omega) hi6 (by rw [qf2]; omega)⟩) (by omega)
              · refine q_iconst C 1 dX0_worthOfLine_96 ?_
                refine q_goto C 101 dX0_worthOfLine_97 (by decide) ?_
                refine q_istore (lv' := [(6, .int (iI 1)), (5, .int (iI 0)), (4, .int (iI (B + (bt (wa r x i))))), (8, .int (iI (wa r x i))), (0, .ref (adr w b)), (1, .int (iI x)), (2, .int (iI y)), (3, .int (iI (r x))), (7, .int (iI i))]) C dX0_worthOfLine_101 (by decide) rfl ?_
                refine q_iinc (lv' := [(7, .int (iI (i + 1))), (6, .int (iI 1)), (5, .int (iI 0)), (4, .int (iI (B + (bt (wa r x i))))), (8, .int (iI (wa r x i))), (0, .ref (adr w b)), (1, .int (iI x)), (2, .int (iI y)), (3, .int (iI (r x)))]) C 8 dX0_worthOfLine_103 rfl (by decide) rfl ?_
                refine q_goto C 21 dX0_worthOfLine_106 (by decide) ?_
                refine q_lv (lv' := [(0, .ref (adr w b)), (1, .int (iI x)), (2, .int (iI y)), (3, .int (iI (r x))), (4, .int (iI (B + (bt (wa r x i))))), (5, .int (iI 0)), (6, .int (iI 1)), (7, .int (iI (i + 1)))]) [5, 6, 7, 8, 3, 2, 1, 0] rfl ?_
                exact ih21 (i + 1) (k + 1) (B + (bt (wa r x i))) 0 1 (⟨by omega, by omega, by omega, by omega, by rw [bo_s (by omega), qf2, hi4], hk_step (by omega) hi5 (by rw [qf2]; omega), hk_step (by omega) hi6 (by rw [qf2]; omega)⟩) (by omega)
          · refine q_iconst C 1 dX0_worthOfLine_75 ?_
            refine q_goto C 80 dX0_worthOfLine_76 (by decide) ?_
            refine q_istore (lv' := [(5, .int (iI 1)), (4, .int (iI (B + (bt (wa r x i))))), (8, .int (iI (wa r x i))), (0, .ref (adr w b)), (1, .int (iI x)), (2, .int (iI y)), (3, .int (iI (r x))), (6, .int (iI D)), (7, .int (iI i))]) C dX0_worthOfLine_80 (by decide) rfl ?_
            refine q_iload C 7 dX0_worthOfLine_82 rfl ?_
            refine q_if_ne C 96 dX0_worthOfLine_84 ⟨by omega, by omega⟩  (by decide) (fun h84 => ?_) (fun h84 => ?_)
            · refine q_iconst C 1 dX0_worthOfLine_96 ?_
              refine q_goto C 101 dX0_worthOfLine_97 (by decide) ?_
              refine q_istore (lv' := [(6, .int (iI 1)), (5, .int (iI 1)), (4, .int (iI (B + (bt (wa r x i))))), (8, .int (iI (wa r x i))), (0, .ref (adr w b)), (1, .int (iI x)), (2, .int (iI y)), (3, .int (iI (r x))), (7, .int (iI i))]) C dX0_worthOfLine_101 (by decide) rfl ?_
              refine q_iinc (lv' := [(7, .int (iI (i + 1))), (6, .int (iI 1)), (5, .int (iI 1)), (4, .int (iI (B + (bt (wa r x i))))), (8, .int (iI (wa r x i))), (0, .ref (adr w b)), (1, .int (iI x)), (2, .int (iI y)), (3, .int (iI (r x)))]) C 8 dX0_worthOfLine_103 rfl (by decide) rfl ?_
              refine q_goto C 21 dX0_worthOfLine_106 (by decide) ?_
              refine q_lv (lv' := [(0, .ref (adr w b)), (1, .int (iI x)), (2, .int (iI y)), (3, .int (iI (r x))), (4, .int (iI (B + (bt (wa r x i))))), (5, .int (iI 1)), (6, .int (iI 1)), (7, .int (iI (i + 1)))]) [5, 6, 7, 8, 3, 2, 1, 0] rfl ?_
              exact ih21 (i + 1) (k + 1) (B + (bt (wa r x i))) 1 1 (⟨by omega, by omega, by omega, by omega, by rw [bo_s (by omega), qf2, hi4], hk_step (by omega) hi5 (by rw [qf2]; omega), hk_step (by omega) hi6 (by rw [qf2]; omega)⟩) (by omega)
            · refine q_iload C 2 dX0_worthOfLine_87 rfl ?_
              refine q_cI (q_runSN (As := [.int (iI (wa r x i))]) (rest := []) C (k_X3_kindOf l (by omega)) wd_268 wd_267 wd_13 nw_266 nd_X3_kindOf rfl (by decide) ⟨Nat.zero_le _, Nat.zero_le _⟩ rfl (Nat.le_of_ble_eq_true rfl) dX0_worthOfLine_89) ?_
              rintro z F' ⟨rfl, rfl⟩
              have q89 := kn_pos (x := wa r x i) (by omega)
              refine q_iconst C 1 dX0_worthOfLine_92 ?_
              refine q_icmp_ne C 100 dX0_worthOfLine_93 ⟨by omega, by omega⟩ ⟨by decide, by decide⟩ (by decide) (fun h93 => ?_) (fun h93 => ?_)
              · refine q_iconst C 0 dX0_worthOfLine_100 ?_
                refine q_istore (lv' := [(6, .int (iI 0)), (5, .int (iI 1)), (4, .int (iI (B + (bt (wa r x i))))), (8, .int (iI (wa r x i))), (0, .ref (adr w b)), (1, .int (iI x)), (2, .int (iI y)), (3, .int (iI (r x))), (7, .int (iI i))]) C dX0_worthOfLine_101 (by decide) rfl ?_
                refine q_iinc (lv' := [(7, .int (iI (i + 1))), (6, .int (iI 0)), (5, .int (iI 1)), (4, .int (iI (B + (bt (wa r x i))))), (8, .int (iI (wa r x i))), (0, .ref (adr w b)), (1, .int (iI x)), (2, .int (iI y)), (3, .int (iI (r x)))]) C 8 dX0_worthOfLine_103 rfl (by decide) rfl ?_
                refine q_goto C 21 dX0_worthOfLine_106 (by decide) ?_
                refine q_lv (lv' := [(0, .ref (adr w b)), (1, .int (iI x)), (2, .int (iI y)), (3, .int (iI (r x))), (4, .int (iI (B + (bt (wa r x i))))), (5, .int (iI 1)), (6, .int (iI 0)), (7, .int (iI (i + 1)))]) [5, 6, 7, 8, 3, 2, 1, 0] rfl ?_
                exact ih21 (i + 1) (k + 1) (B + (bt (wa r x i))) 1 0 (⟨by omega, by omega, by omega, by omega, by rw [bo_s (by omega), qf2, hi4], hk_step (by omega) hi5 (by rw [qf2]; omega), hk_step (by omega) hi6 (by rw [qf2]; omega)⟩) (by omega)
              · refine q_iconst C 1 dX0_worthOfLine_96 ?_
                refine q_goto C 101 dX0_worthOfLine_97 (by decide) ?_
                refine q_istore (lv' := [(6, .int (iI 1)), (5, .int (iI 1)), (4, .int (iI (B + (bt (wa r x i))))), (8, .int (iI (wa r x i))), (0, .ref (adr w b)), (1, .int (iI x)), (2, .int (iI y)), (3, .int (iI (r x))), (7, .int (iI i))]) C dX0_worthOfLine_101 (by decide) rfl ?_
                refine q_iinc (lv' := [(7, .int (iI (i + 1))), (6, .int (iI 1)), (5, .int (iI 1)), (4, .int (iI (B + (bt (wa r x i))))), (8, .int (iI (wa r x i))), (0, .ref (adr w b)), (1, .int (iI x)), (2, .int (iI y)), (3, .int (iI (r x)))]) C 8 dX0_worthOfLine_103 rfl (by decide) rfl ?_
                refine q_goto C 21 dX0_worthOfLine_106 (by decide) ?_
                refine q_lv (lv' := [(0, .ref (adr w b)), (1, .int (iI x)), (2, .int (iI y)), (3, .int (iI (r x))), (4, .int (iI (B + (bt (wa r x i))))), (5, .int (iI 1)), (6, .int (iI 1)), (7, .int (iI (i + 1)))]) [5, 6, 7, 8, 3, 2, 1, 0] rfl ?_
                exact ih21 (i + 1) (k + 1) (B + (bt (wa r x i))) 1 1 (⟨by omega, by omega, by omega, by omega, by rw [bo_s (by omega), qf2, hi4], hk_step (by omega) hi5 (by rw [qf2]; omega), hk_step (by omega) hi6 (by rw [qf2]; omega)⟩) (by omega)

set_option maxRecDepth 100000 in
set_option maxHeartbeats 4000000 in
theorem k_X0_endingOn (l : Launch) {w : WP} {F : FF} {b : Nat} {r : Rw} {x : Int} (hb : IsB b) (hB : BI F b r) (hl : 0 ≤ x ∧ x < 16) : Con l yX0_endingOn cX0_endingOn 5 (some .int) 1 w [.ref (adr w b), .int (iI x)] F (QI w (fun z F' => z = le r x ∧ F = F')) := by
  refine Con.mk (lv := [(0, .ref (adr w b)), (1, .int (iI x))]) (by decide) (Nat.le_of_ble_eq_true rfl) rfl ?_
  intro pg ev s0 mi be me co C hz
  have hI := hB.iv
  refine q_aload_n C 0 dX0_endingOn_0 rfl ?_
  refine q_get (T := TX0) (i := 3) C hb.k0 (by decide) rfl uws0 (by decide) wd_46 rfl dX0_endingOn_1 ?_
  refine q_iload_n C 1 dX0_endingOn_4 rfl ?_
  refine q_cI (q_runSN (As := [.ref (adr w (b + 4)), .int (iI x)]) (rest := []) C (k_c4 l hb hB (x := x) ⟨by omega, by omega⟩) wd_265 wd_264 wd_13 nw_263 nd_X3_cell rfl (by decide) ⟨Nat.zero_le _, Nat.zero_le _⟩ rfl (Nat.le_of_ble_eq_true rfl) dX0_endingOn_5) ?_
  rintro z F' ⟨rfl, rfl⟩
  have q5 := hI.ld (l := x) (by omega) (by omega)
  refine q_istore_n (lv' := [(2, .int (iI (r (112 + x) - 1))), (0, .ref (adr w b)), (1, .int (iI x))]) C dX0_endingOn_8 (by decide) rfl ?_
  refine q_iload_n C 0 dX0_endingOn_9 rfl ?_
  refine q_iconst C (-1) dX0_endingOn_10 ?_
  refine q_icmp_ne C 18 dX0_endingOn_11 ⟨by omega, by omega⟩ ⟨by decide, by decide⟩ (by decide) (fun h11 => ?_) (fun h11 => ?_)
  · refine q_iload_n C 0 dX0_endingOn_18 rfl ?_
    have hsr : src r x = r (112 + x) - 1 := by unfold src; first | rw [if_pos (by omega)] | rw [if_neg (by omega)]
    have hsq := src_range hI hl.1 hl.2
    refine q_top (z' := src r x) (hsr.symm) ?_
    refine q_istore_n (lv' := [(3, .int (iI (src r x))), (2, .int (iI (r (112 + x) - 1))), (0, .ref (adr w b)), (1, .int (iI x))]) C dX0_endingOn_19 (by decide) rfl ?_
    refine q_aload_n C 2 dX0_endingOn_20 rfl ?_
    refine q_iload_n C 0 dX0_endingOn_21 rfl ?_
    refine q_aload_n C 2 dX0_endingOn_22 rfl ?_
    refine q_get (T := TX0) (i := 2) C hb.k0 (by decide) rfl uws0 (by decide) wd_45 rfl dX0_endingOn_23 ?_
    refine q_iload_n C 0 dX0_endingOn_26 rfl ?_
    refine q_cI (q_runSN (As := [.ref (adr w (b + 3)), .int (iI (src r x))]) (rest := [.int (iI (src r x)), .ref (adr w b)]) C (k_c3 l hb hB (x := src r x) ⟨by omega, by omega⟩) wd_265 wd_264 wd_13 nw_263 nd_X3_cell rfl (by decide) ⟨Nat.zero_le _, Nat.zero_le _⟩ rfl (Nat.le_of_ble_eq_true rfl) dX0_endingOn_27) ?_
    rintro z F' ⟨rfl, rfl⟩
    have q27 := hI.sz (l := src r x) (by omega) (by omega)
    refine q_iconst C 1 dX0_endingOn_30 ?_
    refine q_isub C dX0_endingOn_31 ?_
    refine q_cI (q_runV (As := [.int (iI (src r x)), .int (iI ((r (src r x)) - 1))]) (rest := []) C (k_wat l hb hB (x := src r x) (p := (r (src r x)) - 1) ⟨by omega, by omega⟩ ⟨by omega, by omega⟩) hb.k0 (by decide) rfl wd_282 wd_280 wd_281 wd_14 wd_279 nd_X0_wordAt rfl (by decide) ⟨Nat.zero_le _, Nat.zero_le _⟩ rfl (Nat.le_of_ble_eq_true rfl) dX0_endingOn_32) ?_
    rintro z F' ⟨⟨hw32, rfl⟩ | ⟨hw32, rfl⟩, rfl⟩
    · have q32 := hI.wd (l := src r x) (p := (r (src r x)) - 1) (by omega) (by omega) hw32.1 hw32.2
      refine q_istore (lv' := [(4, .int (iI (wa r (src r x) ((r (src r x)) - 1)))), (3, .int (iI (src r x))), (2, .int (iI (r (112 + x) - 1))), (0, .ref (adr w b)), (1, .int (iI x))]) C dX0_endingOn_35 (by decide) rfl ?_
      refine q_iload C 0 dX0_endingOn_37 rfl ?_
      refine q_iconst C (-1) dX0_endingOn_39 ?_
      refine q_icmp_ne C 47 dX0_endingOn_40 ⟨by omega, by omega⟩ ⟨by decide, by decide⟩ (by decide) (fun h40 => ?_) (fun h40 => ?_)
      · refine q_iload C 0 dX0_endingOn_47 rfl ?_
        refine q_cI (q_runSN (As := [.int (iI (wa r (src r x) ((r (src r x)) - 1)))]) (rest := []) C (k_X3_endingOf l (by omega)) wd_271 wd_270 wd_13 nw_269 nd_X3_endingOf rfl (by decide) ⟨Nat.zero_le _, Nat.zero_le _⟩ rfl (Nat.le_of_ble_eq_true rfl) dX0_endingOn_49) ?_
        rintro z F' ⟨rfl, rfl⟩
        have q49 := en_pos (x := wa r (src r x) ((r (src r x)) - 1)) (by omega)
        refine q_iret C dX0_endingOn_52 ?_
        exact ⟨by rw [le_eq hI hl.1 hl.2]; first | rw [if_pos (by omega)] | rw [if_neg (by omega)], rfl⟩
      · refine q_iconst C (-1) dX0_endingOn_43 ?_
        refine q_goto C 52 dX0_endingOn_44 (by decide) ?_
        refine q_iret C dX0_endingOn_52 ?_
        exact ⟨by rw [le_eq hI hl.1 hl.2]; first | rw [if_pos (by omega)] | rw [if_neg (by omega)], rfl⟩
    · refine q_istore (lv' := [(4, .int (iI (-1))), (3, .int (iI (src r x))), (2, .int (iI (r (112 + x) - 1))), (0, .ref (adr w b)), (1, .int (iI x))]) C dX0_endingOn_35 (by decide) rfl ?_
      refine q_iload C 0 dX0_endingOn_37 rfl ?_
      refine q_iconst C (-1) dX0_endingOn_39 ?_
      refine q_icmp_ne C 47 dX0_endingOn_40 ⟨by decide, by decide⟩ ⟨by decide, by decide⟩ (by decide) (fun h => absurd h (by decide)) (fun _ => ?_)
      refine q_iconst C (-1) dX0_endingOn_43 ?_
      refine q_goto C 52 dX0_endingOn_44 (by decide) ?_
      refine q_iret C dX0_endingOn_52 ?_
      exact ⟨by rw [le_eq hI hl.1 hl.2]; first | rw [if_pos (by omega)] | rw [if_neg (by omega)], rfl⟩
  · refine q_iload_n C 2 dX0_endingOn_14 rfl ?_
    refine q_goto C 19 dX0_endingOn_15 (by decide) ?_
    have hsr : src r x = x := by unfold src; first | rw [if_pos (by omega)] | rw [if_neg (by omega)]
    have hsq := src_range hI hl.1 hl.2
    refine q_top (z' := src r x) (hsr.symm) ?_
    refine q_istore_n (lv' := [(3, .int (iI (src r x))), (2, .int (iI (r (112 + x) - 1))), (0, .ref (adr w b)), (1, .int (iI x))]) C dX0_endingOn_19 (by decide) rfl ?_
    refine q_aload_n C 2 dX0_endingOn_20 rfl ?_
    refine q_iload_n C 0 dX0_endingOn_21 rfl ?_
    refine q_aload_n C 2 dX0_endingOn_22 rfl ?_
    refine q_get (T := TX0) (i := 2) C hb.k0 (by decide) rfl uws0 (by decide) wd_45 rfl dX0_endingOn_23 ?_
    refine q_iload_n C 0 dX0_endingOn_26 rfl ?_
    refine q_cI (q_runSN (As := [.ref (adr w (b + 3)), .int (iI (src r x))]) (rest := [.int (iI (src r x)), .ref (adr w b)]) C (k_c3 l hb hB (x := src r x) ⟨by omega, by omega⟩) wd_265 wd_264 wd_13 nw_263 nd_X3_cell rfl (by decide) ⟨Nat.zero_le _, Nat.zero_le _⟩ rfl (Nat.le_of_ble_eq_true rfl) dX0_endingOn_27) ?_
    rintro z F' ⟨rfl, rfl⟩
    have q27 := hI.sz (l := src r x) (by omega) (by omega)
    refine q_iconst C 1 dX0_endingOn_30 ?_
    refine q_isub C dX0_endingOn_31 ?_
    refine q_cI (q_runV (As := [.int (iI (src r x)), .int (iI ((r (src r x)) - 1))]) (rest := []) C (k_wat l hb hB (x := src r x) (p := (r (src r x)) - 1) ⟨by omega, by omega⟩ ⟨by omega, by omega⟩) hb.k0 (by decide) rfl wd_282 wd_280 wd_281 wd_14 wd_279 nd_X0_wordAt rfl (by decide) ⟨Nat.zero_le _, Nat.zero_le _⟩ rfl (Nat.le_of_ble_eq_true rfl) dX0_endingOn_32) ?_
    rintro z F' ⟨⟨hw32, rfl⟩ | ⟨hw32, rfl⟩, rfl⟩
    · have q32 := hI.wd (l := src r x) (p := (r (src r x)) - 1) (by omega) (by omega) hw32.1 hw32.2
      refine q_istore (lv' := [(4, .int (iI (wa r (src r x) ((r (src r x)) - 1)))), (3, .int (iI (src r x))), (2, .int (iI (r (112 + x) - 1))), (0, .ref (adr w b)), (1, .int (iI x))]) C dX0_endingOn_35 (by decide) rfl ?_
      refine q_iload C 0 dX0_endingOn_37 rfl ?_
      refine q_iconst C (-1) dX0_endingOn_39 ?_
      refine q_icmp_ne C 47 dX0_endingOn_40 ⟨by omega, by omega⟩ ⟨by decide, by decide⟩ (by decide) (fun h40 => ?_) (fun h40 => ?_)
      · refine q_iload C 0 dX0_endingOn_47 rfl ?_
        refine q_cI (q_runSN (As := [.int (iI (wa r (src r x) ((r (src r x)) - 1)))]) (rest := []) C (k_X3_endingOf l (by omega)) wd_271 wd_270 wd_13 nw_269 nd_X3_endingOf rfl (by decide) ⟨Nat.zero_le _, Nat.zero_le _⟩ rfl (Nat.le_of_ble_eq_true rfl) dX0_endingOn_49) ?_
        rintro z F' ⟨rfl, rfl⟩
        have q49 := en_pos (x := wa r (src r x) ((r (src r x)) - 1)) (by omega)
        refine q_iret C dX0_endingOn_52 ?_
        exact ⟨by rw [le_eq hI hl.1 hl.2]; first | rw [if_pos (by omega)] | rw [if_neg (by omega)], rfl⟩
      · refine q_iconst C (-1) dX0_endingOn_43 ?_
        refine q_goto C 52 dX0_endingOn_44 (by decide) ?_
        refine q_iret C dX0_endingOn_52 ?_
        exact ⟨by rw [le_eq hI hl.1 hl.2]; first | rw [if_pos (by omega)] | rw [if_neg (by omega)], rfl⟩
    · refine q_istore (lv' := [(4, .int (iI (-1))), (3, .int (iI (src r x))), (2, .int (iI (r (112 + x) - 1))), (0, .ref (adr w b)), (1, .int (iI x))]) C dX0_endingOn_35 (by decide) rfl ?_
      refine q_iload C 0 dX0_endingOn_37 rfl ?_
      refine q_iconst C (-1) dX0_endingOn_39 ?_
      refine q_icmp_ne C 47 dX0_endingOn_40 ⟨by decide, by decide⟩ ⟨by decide, by decide⟩ (by decide) (fun h => absurd h (by decide)) (fun _ => ?_)
      refine q_iconst C (-1) dX0_endingOn_43 ?_
      refine q_goto C 52 dX0_endingOn_44 (by decide) ?_
      refine q_iret C dX0_endingOn_52 ?_
      exact ⟨by rw [le_eq hI hl.1 hl.2]; first | rw [if_pos (by omega)] | rw [if_neg (by omega)], rfl⟩
