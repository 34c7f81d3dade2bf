/-! the saved states -/
theorem kd21 : kd 21 = 1 := rfl
theorem kd22 : kd 22 = 7 := rfl
theorem ln22 : ln 22 = 6 := rfl
def hp (o k : Int) : Nat := 23 + 10 * ((o + k) % 6).toNat
theorem hp_ge {o k : Int} : 23 ≤ hp o k ∧ hp o k ≤ 73 := by unfold hp; omega
theorem hp_B {o k : Int} : IsB (hp o k) := by
  have h : (o + k) % 6 = 0 ∨ (o + k) % 6 = 1 ∨ (o + k) % 6 = 2 ∨ (o + k) % 6 = 3 ∨ (o + k) % 6 = 4 ∨ (o + k) % 6 = 5 := by omega
  unfold hp
  unfold IsB
  rcases h with e | e | e | e | e | e <;> rw [e] <;> decide
theorem hb1 : IsB 1 := by unfold IsB; decide
theorem hp_apart {o j k : Int} (hj : 0 ≤ j ∧ j < 6) (hk : 0 ≤ k ∧ k < 6) (h : j ≠ k) : hp o j + 9 < hp o k ∨ hp o k + 9 < hp o j := by unfold hp; omega
theorem hp_next {o k : Int} : hp ((o + 1) % 6) k = hp o (k + 1) := by unfold hp; congr 3; omega
theorem gA_hp {o k : Int} (h : 0 ≤ o + k) : gA 22 ((o + k) % 6).toNat = some (hp o k) := by
  unfold gA hp
  rw [if_pos rfl, if_pos (by omega)]
/-- the History tells n states, the newest the last -/
def HI (F : FF) (n : Int) (sv : Int → Rw) : Prop :=
  F 21 2 = n ∧ (0 ≤ n ∧ n ≤ 6) ∧ (0 ≤ F 21 1 ∧ F 21 1 < 6) ∧ ∀ k, 0 ≤ k → k < n → BI F (hp (F 21 1) k) (sv k)
def psh (n : Int) (sv : Int → Rw) (r : Rw) : Int → Rw := fun k => if n = 6 then (if k = 5 then r else sv (k + 1)) else (if k = n then r else sv k)
def FrH (F F' : FF) : Prop := ∀ k, (k < 21 ∨ 82 < k) → F' k = F k
theorem HI_push {F F4 : FF} {n m o' : Int} {sv : Int → Rw} {r : Rw} (hH : HI F n sv) (h1 : F4 21 1 = o') (ho' : 0 ≤ o' ∧ o' < 6) (h2 : F4 21 2 = m + 1) (hB : BI F4 (hp o' m) r) (hf : ∀ k, 21 < k → (k < hp o' m ∨ hp o' m + 9 < k) → F4 k = F k)
    (hm : n = 6 ∧ m = 5 ∧ o' = (F 21 1 + 1) % 6 ∨ n < 6 ∧ m = n ∧ o' = F 21 1) : HI F4 (if n = 6 then 6 else n + 1) (psh n sv r) := by
  obtain ⟨hn, hn0, ho0, hK⟩ := hH
  have e : (if n = 6 then (6 : Int) else n + 1) = m + 1 := by split <;> omega
  rw [e]
  refine ⟨h2, by omega, by rw [h1]; exact ho', fun k a c => ?_⟩
  rw [h1]
  by_cases q : k = m
  · subst q
    have e2 : psh n sv r k = r := by
      unfold psh
      by_cases g : n = 6
      · rw [if_pos g, if_pos (by omega)]
      · rw [if_neg g, if_pos (by omega)]
    rw [e2]; exact hB
  · have hap := hp_apart (o := o') (j := k) (k := m) (by omega) (by omega) q
    have hge := hp_ge (o := o') (k := k)
    rcases hm with ⟨g1, g2, g3⟩ | ⟨g1, g2, g3⟩
    · have e2 : psh n sv r k = sv (k + 1) := by unfold psh; rw [if_pos g1, if_neg (by omega)]
      have hB2 := hK (k + 1) (by omega) (by omega)
      rw [e2]
      rw [← hp_next, ← g3] at hB2
      exact hB2.keep (fun q a c => hf q (by omega) (by omega))
    · have e2 : psh n sv r k = sv k := by unfold psh; rw [if_neg (by omega), if_neg (by omega)]
      have hB2 := hK k (by omega) (by omega)
      rw [e2]
      rw [← g3] at hB2
      exact hB2.keep (fun q a c => hf q (by omega) (by omega))

set_option maxRecDepth 100000 in
set_option maxHeartbeats 4000000 in
theorem k_X1_stateAt (l : Launch) {w : WP} {F : FF} {o x : Int} (ho : F 21 1 = o) (ho2 : 0 ≤ o ∧ o < 6) (hx : 0 ≤ x ∧ x < 6) : Con l yX1_stateAt cX1_stateAt 3 (some (.object "MagnetPoems$Board")) 0 w [.ref (adr w 21), .int (iI x)] F (QQ w (fun z F' => z = some (hp o x) ∧ F = F')) := by
  refine Con.mk (lv := [(0, .ref (adr w 21)), (1, .int (iI x))]) (by decide) (Nat.le_of_ble_eq_true rfl) rfl ?_
  intro pg ev s0 mi be me co C hz
  subst ho
  refine q_aload_n C 0 dX1_stateAt_0 rfl ?_
  refine q_get (T := TX1) (i := 1) C kd21 (by decide) rfl uws1 (by decide) wd_98 rfl dX1_stateAt_1 ?_
  refine q_iload_n C 1 dX1_stateAt_4 rfl ?_
  refine q_iadd C dX1_stateAt_5 ?_
  refine q_bipush C 6 dX1_stateAt_6 (by decide) ?_
  refine q_irem C dX1_stateAt_8 ⟨by omega, by omega⟩ ⟨by decide, by decide⟩ ?_
  refine q_istore_n (lv' := [(2, .int (iI (((F 21 1) + x) % 6))), (0, .ref (adr w 21)), (1, .int (iI x))]) C dX1_stateAt_9 (by decide) rfl ?_
  refine q_iload_n C 2 dX1_stateAt_10 rfl ?_
  refine q_if_lt C 36 dX1_stateAt_11 ⟨by omega, by omega⟩  (by decide) (fun h11 => ?_) (fun h11 => ?_)
  · refine q_null C dX1_stateAt_36 ?_
    refine q_aret (z := none) C (Or.inl ⟨_, rfl⟩) dX1_stateAt_37 ?_
    exfalso; omega
  · refine q_iload_n C 0 dX1_stateAt_14 rfl ?_
    refine q_if_lt C 36 dX1_stateAt_15 ⟨by omega, by omega⟩  (by decide) (fun h15 => ?_) (fun h15 => ?_)
    · refine q_null C dX1_stateAt_36 ?_
      refine q_aret (z := none) C (Or.inl ⟨_, rfl⟩) dX1_stateAt_37 ?_
      exfalso; omega
    · refine q_iload_n C 0 dX1_stateAt_18 rfl ?_
      refine q_aload_n C 1 dX1_stateAt_19 rfl ?_
      refine q_get (T := TX1) (i := 0) C kd21 (by decide) rfl uws1 (by decide) wd_97 rfl dX1_stateAt_20 ?_
      refine q_alen (N := 6) C (by rw [kd22]; decide) ln22 dX1_stateAt_23 ?_
      refine q_icmp_ge C 36 dX1_stateAt_24 ⟨by omega, by omega⟩ ⟨by decide, by decide⟩ (by decide) (fun h24 => ?_) (fun h24 => ?_)
      · refine q_null C dX1_stateAt_36 ?_
        refine q_aret (z := none) C (Or.inl ⟨_, rfl⟩) dX1_stateAt_37 ?_
        exfalso; omega
      · refine q_aload_n C 1 dX1_stateAt_27 rfl ?_
        refine q_get (T := TX1) (i := 0) C kd21 (by decide) rfl uws1 (by decide) wd_97 rfl dX1_stateAt_28 ?_
        refine q_iload_n C 0 dX1_stateAt_31 rfl ?_
        refine q_aldq (t := (hp (F 21 1) x)) C kd22 ⟨by omega, by rw [ln22]; omega⟩ (gA_hp (by omega)) dX1_stateAt_32 ?_
        refine q_goto C 37 dX1_stateAt_33 (by decide) ?_
        refine q_aret (z := some (hp (F 21 1) x)) C (Or.inl ⟨_, rfl⟩) dX1_stateAt_37 ?_
        exact ⟨rfl, rfl⟩

set_option maxRecDepth 100000 in
set_option maxHeartbeats 4000000 in
theorem k_X1_save (l : Launch) {w : WP} {F : FF} {n : Int} {sv : Int → Rw} {r : Rw} (hH : HI F n sv) (hB : BI F 1 r) : Con l yX1_save cX1_save 3 none 2 w [.ref (adr w 21), .ref (adr w 1)] F (QV w (fun F' => HI F' (if n = 6 then 6 else n + 1) (psh n sv r) ∧ FrH F F')) := by
  refine Con.mk (lv := [(0, .ref (adr w 21)), (1, .ref (adr w 1))]) (by decide) (Nat.le_of_ble_eq_true rfl) rfl ?_
  intro pg ev s0 mi be me co C hz
  obtain ⟨hn, hn0, ho0, hK⟩ := id hH
  refine q_aload_n C 0 dX1_save_0 rfl ?_
  refine q_get (T := TX1) (i := 2) C kd21 (by decide) rfl uws1 (by decide) wd_99 rfl dX1_save_1 ?_
  rw [hn]
  refine q_bipush C 6 dX1_save_4 (by decide) ?_
  refine q_icmp_lt C 32 dX1_save_6 ⟨by omega, by omega⟩ ⟨by decide, by decide⟩ (by decide) (fun h6 => ?_) (fun h6 => ?_)
  · refine q_aload_n C 0 dX1_save_32 rfl ?_
    refine q_aload_n C 0 dX1_save_33 rfl ?_
    refine q_get (T := TX1) (i := 2) C kd21 (by decide) rfl uws1 (by decide) wd_99 rfl dX1_save_34 ?_
    rw [hn]
    refine q_cQ (q_runV (As := [.int (iI n)]) (rest := []) C (k_X1_stateAt (F := F) (o := F 21 1) (x := n) l (by first | rfl | simp (disch := omega) only [up_k, up_j, up_eq]) ⟨by omega, by omega⟩ ⟨by omega, by omega⟩) kd21 (by decide) rfl wd_605 wd_604 wd_11 wd_15 wd_602 nd_X1_stateAt rfl (by decide) ⟨Nat.zero_le _, Nat.zero_le _⟩ rfl (Nat.le_of_ble_eq_true rfl) dX1_save_37) ?_
    rintro z F' ⟨rfl, rfl⟩
    have hbp := hp_B (o := F 21 1) (k := n)
    have hge := hp_ge (o := F 21 1) (k := n)
    refine q_astore_n (lv' := [(2, .ref (adr w (hp (F 21 1) (n)))), (0, .ref (adr w 21)), (1, .ref (adr w 1))]) C dX1_save_40 (by decide) rfl ?_
    refine q_aload_n C 0 dX1_save_41 rfl ?_
    refine q_ifnull C dX1_save_42 ?_
    refine q_aload_n C 0 dX1_save_45 rfl ?_
    refine q_aload_n C 2 dX1_save_46 rfl ?_
    refine q_cV (q_runV (As := [.ref (adr w 1)]) (rest := []) C (k_X0_copyFrom (F := F) (b := hp (F 21 1) (n)) (o := 1) (r := r) l hbp hb1 (by omega) (hB.keep (fun k a c => by first | rfl | simp (disch := omega) only [up_k]))) hbp.k0 (by decide) rfl wd_532 wd_530 wd_531 wd_14 wd_606 nd_X0_copyFrom rfl (by decide) ⟨Nat.zero_le _, Nat.zero_le _⟩ rfl (Nat.le_of_ble_eq_true rfl) dX1_save_47) ?_
    rintro F' ⟨hE, hEf⟩
    refine q_aload_n C 1 dX1_save_50 rfl ?_
    refine q_dup C dX1_save_51 rfl ?_
    refine q_get (T := TX1) (i := 2) C kd21 (by decide) rfl uws1 (by decide) wd_99 rfl dX1_save_52 ?_
    refine q_iconst C 1 dX1_save_55 ?_
    refine q_iadd C dX1_save_56 ?_
    refine q_put (T := TX1) (tyX := tyX1) (i := 2) (j := 2) (z := ((F' 21 2) + 1)) (ty := .int) C rfl kd21 (by decide) rfl uws1 tyX1_ok nmX1 (by decide) (kd_ln.2.1 kd21) wd_99 rfl rfl rfl rfl (fsS_1_2 w _ _ _) (Nat.le_of_ble_eq_true rfl) dX1_save_57 ?_
    refine q_vret C dX1_save_60 ?_
    refine ⟨HI_push (m := n) (o' := F 21 1) hH ?_ (by omega) ?_ (hE.keep (fun k a c => up_k (by omega))) (fun k a c => ?_) (by omega) , fun k a => ?_⟩
    · rw [up_j (by omega), hEf 21 (by omega)]; try (first | rfl | simp (disch := omega) only [up_k, up_j, up_eq])
    · rw [up_eq, hEf 21 (by omega)]; try (first | rw [hn] | simp (disch := omega) only [up_k, up_j, up_eq])
    · rw [up_k (by omega), hEf k c]; try (first | rfl | simp (disch := omega) only [up_k])
    · rw [up_k (by omega), hEf k (by omega)]; try (first | rfl | simp (disch := omega) only [up_k])
  · refine q_aload_n C 0 dX1_save_9 rfl ?_
    refine q_aload_n C 0 dX1_save_10 rfl ?_
    refine q_get (T := TX1) (i := 1) C kd21 (by decide) rfl uws1 (by decide) wd_98 rfl dX1_save_11 ?_
    refine q_iconst C 1 dX1_save_14 ?_
    refine q_iadd C dX1_save_15 ?_
    refine q_bipush C 6 dX1_save_16 (by decide) ?_
    refine q_irem C dX1_save_18 ⟨by omega, by omega⟩ ⟨by decide, by decide⟩ ?_
    refine q_put (T := TX1) (tyX := tyX1) (i := 1) (j := 1) (z := (((F 21 1) + 1) % 6)) (ty := .int) C rfl kd21 (by decide) rfl uws1 tyX1_ok nmX1 (by decide) (kd_ln.2.1 kd21) wd_98 rfl rfl rfl rfl (fsS_1_1 w _ _ _) (Nat.le_of_ble_eq_true rfl) dX1_save_19 ?_
    refine q_aload_n C 0 dX1_save_22 rfl ?_
    refine q_dup C dX1_save_23 rfl ?_
    refine q_get (T := TX1) (i := 2) C kd21 (by decide) rfl uws1 (by decide) wd_99 rfl dX1_save_24 ?_
    refine q_top (z' := F 21 2) (by simp (disch := omega) only [up_k, up_j, up_eq]) ?_
    rw [hn]
    refine q_iconst C 1 dX1_save_27 ?_
    refine q_isub C dX1_save_28 ?_
    refine q_put (T := TX1) (tyX := tyX1) (i := 2) (j := 2) (z := (n - 1)) (ty := .int) C rfl kd21 (by decide) rfl uws1 tyX1_ok nmX1 (by decide) (kd_ln.2.1 kd21) wd_99 rfl rfl rfl rfl (fsS_1_2 w _ _ _) (Nat.le_of_ble_eq_true rfl) dX1_save_29 ?_
    refine q_aload_n C 0 dX1_save_32 rfl ?_
    refine q_aload_n C 0 dX1_save_33 rfl ?_
    refine q_get (T := TX1) (i := 2) C kd21 (by decide) rfl uws1 (by decide) wd_99 rfl dX1_save_34 ?_
    refine q_top (z' := n - 1) (by simp (disch := omega) only [up_k, up_j, up_eq]) ?_
    refine q_cQ (q_runV (As := [.int (iI (n - 1))]) (rest := []) C (k_X1_stateAt (F := (up (up F 21 1 (((F 21 1) + 1) % 6)) 21 2 (n - 1))) (o := ((F 21 1) + 1) % 6) (x := n - 1) l (by first | rfl | simp (disch := omega) only [up_k, up_j, up_eq]) ⟨by omega, by omega⟩ ⟨by omega, by omega⟩) kd21 (by decide) rfl wd_605 wd_604 wd_11 wd_15 wd_602 nd_X1_stateAt rfl (by decide) ⟨Nat.zero_le _, Nat.zero_le _⟩ rfl (Nat.le_of_ble_eq_true rfl) dX1_save_37) ?_
    rintro z F' ⟨rfl, rfl⟩
    have hbp := hp_B (o := ((F 21 1) + 1) % 6) (k := n - 1)
    have hge := hp_ge (o := ((F 21 1) + 1) % 6) (k := n - 1)
    refine q_astore_n (lv' := [(2, .ref (adr w (hp (((F 21 1) + 1) % 6) (n - 1)))), (0, .ref (adr w 21)), (1, .ref (adr w 1))]) C dX1_save_40 (by decide) rfl ?_
    refine q_aload_n C 0 dX1_save_41 rfl ?_
    refine q_ifnull C dX1_save_42 ?_
    refine q_aload_n C 0 dX1_save_45 rfl ?_
    refine q_aload_n C 2 dX1_save_46 rfl ?_
    refine q_cV (q_runV (As := [.ref (adr w 1)]) (rest := []) C (k_X0_copyFrom (F := (up (up F 21 1 (((F 21 1) + 1) % 6)) 21 2 (n - 1))) (b := hp (((F 21 1) + 1) % 6) (n - 1)) (o := 1) (r := r) l hbp hb1 (by omega) (hB.keep (fun k a c => by first | rfl | simp (disch := omega) only [up_k]))) hbp.k0 (by decide) rfl wd_532 wd_530 wd_531 wd_14 wd_606 nd_X0_copyFrom rfl (by decide) ⟨Nat.zero_le _, Nat.zero_le _⟩ rfl (Nat.le_of_ble_eq_true rfl) dX1_save_47) ?_
    rintro F' ⟨hE, hEf⟩
    refine q_aload_n C 1 dX1_save_50 rfl ?_
    refine q_dup C dX1_save_51 rfl ?_
    refine q_get (T := TX1) (i := 2) C kd21 (by decide) rfl uws1 (by decide) wd_99 rfl dX1_save_52 ?_
    refine q_iconst C 1 dX1_save_55 ?_
    refine q_iadd C dX1_save_56 ?_
    refine q_put (T := TX1) (tyX := tyX1) (i := 2) (j := 2) (z := ((F' 21 2) + 1)) (ty := .int) C rfl kd21 (by decide) rfl uws1 tyX1_ok nmX1 (by decide) (kd_ln.2.1 kd21) wd_99 rfl rfl rfl rfl (fsS_1_2 w _ _ _) (Nat.le_of_ble_eq_true rfl) dX1_save_57 ?_
    refine q_vret C dX1_save_60 ?_
    refine ⟨HI_push (m := n - 1) (o' := ((F 21 1) + 1) % 6) hH ?_ (by omega) ?_ (hE.keep (fun k a c => up_k (by omega))) (fun k a c => ?_) (by omega) , fun k a => ?_⟩
    · rw [up_j (by omega), hEf 21 (by omega)]; try (first | rfl | simp (disch := omega) only [up_k, up_j, up_eq])
    · rw [up_eq, hEf 21 (by omega)]; try (first | rw [hn] | simp (disch := omega) only [up_k, up_j, up_eq])
    · rw [up_k (by omega), hEf k c]; try (first | rfl | simp (disch := omega) only [up_k])
    · rw [up_k (by omega), hEf k (by omega)]; try (first | rfl | simp (disch := omega) only [up_k])
