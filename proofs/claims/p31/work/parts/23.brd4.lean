theorem k_cli {w : WP} {F : FF} {a N : Nat} {x : Int} (l : Launch) (hk : kd a = 5) (hN : ln a = N) (hx : 0 ≤ x ∧ x < N ∧ x < 1000) : Con l yX3_cell cX3_cell 2 (some .int) 0 w [.ref (adr w a), .int (iI x)] F (QI w (fun z F' => z = F a x ∧ F = F')) := (k_X3_cell l hk ⟨by omega, by omega⟩).post (fun z F' h => ⟨h.1 ⟨by omega, by omega⟩, h.2.2⟩)

set_option maxRecDepth 100000 in
set_option maxHeartbeats 4000000 in
theorem k_X0_startLoan (l : Launch) {w : WP} {F : FF} {b : Nat} {r : Rw} {x y : Int} (hb : IsB b) (hB : BI F b r) (hx : 0 ≤ x ∧ x < 16) (hy : 0 ≤ y ∧ y < 16) (hd : x / 4 ≠ y / 4) (h1 : 0 < r x) (h2 : 0 < r y) (h3 : r (112 + x) = 0) (h4 : bor r x = -1) (h5 : r (112 + y) = 0) (h6 : bor r y = -1) : Con l yX0_startLoan cX0_startLoan 3 none 1 w [.ref (adr w b), .int (iI x), .int (iI y)] F (QV w (fun F' => BI F' b (lnd r x y) ∧ Fr F F' b)) := by
  refine Con.mk (lv := [(0, .ref (adr w b)), (1, .int (iI x)), (2, .int (iI y))]) (by decide) (Nat.le_of_ble_eq_true rfl) rfl ?_
  intro pg ev s0 mi be me co C hz
  have hI := hB.iv
  refine q_aload_n C 0 dX0_startLoan_0 rfl ?_
  refine q_get (T := TX0) (i := 3) C hb.k0 (by decide) rfl uws0 (by decide) wd_46 rfl dX0_startLoan_1 ?_
  refine q_iload_n C 1 dX0_startLoan_4 rfl ?_
  refine q_iload_n C 2 dX0_startLoan_5 rfl ?_
  refine q_cV (q_runSN (As := [.ref (adr w (b + 4)), .int (iI x), .int (iI y)]) (rest := []) C (k_seti (F := F) (x := x) (v := y) l hb.k4 hb.n4 ⟨by omega, by omega, by omega⟩) wd_42 wd_41 wd_13 nw_40 nd_X3_setCell rfl (by decide) ⟨Nat.zero_le _, Nat.zero_le _⟩ rfl (Nat.le_of_ble_eq_true rfl) dX0_startLoan_6) ?_
  rintro F' rfl
  refine q_aload_n C 0 dX0_startLoan_9 rfl ?_
  refine q_get (T := TX0) (i := 4) C hb.k0 (by decide) rfl uws0 (by decide) wd_47 rfl dX0_startLoan_10 ?_
  refine q_iload_n C 2 dX0_startLoan_13 rfl ?_
  refine q_iload_n C 1 dX0_startLoan_14 rfl ?_
  refine q_cV (q_runSN (As := [.ref (adr w (b + 5)), .int (iI y), .int (iI x)]) (rest := []) C (k_seti (F := (up F (b + 4) x y)) (x := y) (v := x) l hb.k5 hb.n5 ⟨by omega, by omega, by omega⟩) wd_42 wd_41 wd_13 nw_40 nd_X3_setCell rfl (by decide) ⟨Nat.zero_le _, Nat.zero_le _⟩ rfl (Nat.le_of_ble_eq_true rfl) dX0_startLoan_15) ?_
  rintro F' rfl
  refine q_vret C dX0_startLoan_18 ?_
  exact ⟨BI_lnd hB hx hy hd h1 h2 h3 h4 h5 h6, ((Fr.refl F b).up (by omega) (by omega)).up (by omega) (by omega)⟩

set_option maxRecDepth 100000 in
set_option maxHeartbeats 4000000 in
theorem k_X0_changeSetting (l : Launch) {w : WP} {F : FF} {b : Nat} {r : Rw} {k v : Int} (hb : IsB b) (hB : BI F b r) (hk : 0 ≤ k ∧ k < 3) (hv : 0 ≤ v ∧ v ≤ mostS k) : Con l yX0_changeSetting cX0_changeSetting 3 none 1 w [.ref (adr w b), .int (iI k), .int (iI v)] F (QV w (fun F' => BI F' b (setr r k v) ∧ Fr F F' b)) := by
  refine Con.mk (lv := [(0, .ref (adr w b)), (1, .int (iI k)), (2, .int (iI v))]) (by decide) (Nat.le_of_ble_eq_true rfl) rfl ?_
  intro pg ev s0 mi be me co C hz
  have hI := hB.iv
  refine q_aload_n C 0 dX0_changeSetting_0 rfl ?_
  refine q_get (T := TX0) (i := 8) C hb.k0 (by decide) rfl uws0 (by decide) wd_51 rfl dX0_changeSetting_1 ?_
  refine q_iload_n C 1 dX0_changeSetting_4 rfl ?_
  refine q_iload_n C 2 dX0_changeSetting_5 rfl ?_
  refine q_cV (q_runSN (As := [.ref (adr w (b + 9)), .int (iI k), .int (iI v)]) (rest := []) C (k_seti (F := F) (x := k) (v := v) l hb.k9 hb.n9 ⟨by omega, by omega, by omega⟩) wd_42 wd_41 wd_13 nw_40 nd_X3_setCell rfl (by decide) ⟨Nat.zero_le _, Nat.zero_le _⟩ rfl (Nat.le_of_ble_eq_true rfl) dX0_changeSetting_6) ?_
  rintro F' rfl
  refine q_vret C dX0_changeSetting_9 ?_
  exact ⟨BI_set hB hk hv, (Fr.refl F b).up (by omega) (by omega)⟩

set_option maxRecDepth 100000 in
set_option maxHeartbeats 4000000 in
theorem k_X0_watchOneNightFewer (l : Launch) {w : WP} {F : FF} {b : Nat} (hb : IsB b) (hw : ∀ d, 0 ≤ d → d < 4 → 0 ≤ F (b+7) d ∧ F (b+7) d ≤ 9) : Con l yX0_watchOneNightFewer cX0_watchOneNightFewer 2 none 0 w [.ref (adr w b)] F (QV w (fun F' => F' = wnG F b 4)) := by
  refine Con.mk (lv := [(0, .ref (adr w b))]) (by decide) (Nat.le_of_ble_eq_true rfl) rfl ?_
  intro pg ev s0 mi be me co C hz
  refine q_iconst C 0 dX0_watchOneNightFewer_0 ?_
  refine q_istore_n (lv' := [(1, .int (iI 0)), (0, .ref (adr w b))]) C dX0_watchOneNightFewer_1 (by decide) rfl ?_
  refine q_lv (lv' := [(0, .ref (adr w b)), (1, .int (iI 0))]) [1, 0] rfl ?_
  refine wf2 (P := fun (i : Int) (G : FF) => Wq pg l ev _ s0 mi _ be me co _ w _ _ _ 2 [(0, .ref (adr w b)), (1, .int (iI i))] [] G) (I := fun (i : Int) (G : FF) => 0 ≤ i ∧ i ≤ 4 ∧ G = wnG F b i) (μ := fun (i : Int) (G : FF) => (4 - i).toNat) ?_ 0 F (⟨by omega, by omega, wnG_0⟩)
  intro i G hI' ih2
  (try dsimp only at hI'); (try dsimp only at ih2); (try dsimp only)
  obtain ⟨hi0, hi1, hG⟩ := hI'
  refine q_iload_n C 1 dX0_watchOneNightFewer_2 rfl ?_
  refine q_aload_n C 0 dX0_watchOneNightFewer_3 rfl ?_
  refine q_get (T := TX0) (i := 6) C hb.k0 (by decide) rfl uws0 (by decide) wd_49 rfl dX0_watchOneNightFewer_4 ?_
  refine q_alen (N := 4) C (by rw [hb.k7]; decide) hb.n7 dX0_watchOneNightFewer_7 ?_
  refine q_icmp_ge C 36 dX0_watchOneNightFewer_8 ⟨by omega, by omega⟩ ⟨by decide, by decide⟩ (by decide) (fun h8 => ?_) (fun h8 => ?_)
  · refine q_vret C dX0_watchOneNightFewer_36 ?_
    rw [hG, show i = 4 by omega]
  · refine q_aload_n C 0 dX0_watchOneNightFewer_11 rfl ?_
    refine q_get (T := TX0) (i := 6) C hb.k0 (by decide) rfl uws0 (by decide) wd_49 rfl dX0_watchOneNightFewer_12 ?_
    refine q_iload_n C 1 dX0_watchOneNightFewer_15 rfl ?_
    refine q_iald C hb.k7 ⟨by omega, by rw [hb.n7]; omega⟩ dX0_watchOneNightFewer_16 ?_
    have qg : G (b + 7) i = F (b + 7) i := by rw [hG]; exact wnG_i
    have qw := hw i (by omega) (by omega)
    refine q_if_le C 30 dX0_watchOneNightFewer_17 ⟨by omega, by omega⟩  (by decide) (fun h17 => ?_) (fun h17 => ?_)
    · refine q_iinc (lv' := [(1, .int (iI (i + 1))), (0, .ref (adr w b))]) C 1 dX0_watchOneNightFewer_30 rfl (by decide) rfl ?_
      refine q_goto C 2 dX0_watchOneNightFewer_33 (by decide) ?_
      refine q_lv (lv' := [(0, .ref (adr w b)), (1, .int (iI (i + 1)))]) [1, 0] rfl ?_
      exact ih2 (i + 1) G (⟨by omega, by omega, by first | (rw [hG]; exact wnG_t hi0 (by omega)) | (rw [hG]; exact wnG_f (by omega))⟩) (by omega)
    · refine q_aload_n C 0 dX0_watchOneNightFewer_20 rfl ?_
      refine q_get (T := TX0) (i := 6) C hb.k0 (by decide) rfl uws0 (by decide) wd_49 rfl dX0_watchOneNightFewer_21 ?_
      refine q_iload_n C 1 dX0_watchOneNightFewer_24 rfl ?_
      refine q_dup2 C dX0_watchOneNightFewer_25 rfl rfl ?_
      refine q_iald C hb.k7 ⟨by omega, by rw [hb.n7]; omega⟩ dX0_watchOneNightFewer_26 ?_
      have qg : G (b + 7) i = F (b + 7) i := by rw [hG]; exact wnG_i
      have qw := hw i (by omega) (by omega)
      refine q_iconst C 1 dX0_watchOneNightFewer_27 ?_
      refine q_isub C dX0_watchOneNightFewer_28 ?_
      refine q_iast C hb.k7 ⟨by omega, by rw [hb.n7]; omega⟩ dX0_watchOneNightFewer_29 ?_
      refine q_iinc (lv' := [(1, .int (iI (i + 1))), (0, .ref (adr w b))]) C 1 dX0_watchOneNightFewer_30 rfl (by decide) rfl ?_
      refine q_goto C 2 dX0_watchOneNightFewer_33 (by decide) ?_
      refine q_lv (lv' := [(0, .ref (adr w b)), (1, .int (iI (i + 1)))]) [1, 0] rfl ?_
      exact ih2 (i + 1) (up G (b + 7) i ((G (b + 7) i) - 1)) (⟨by omega, by omega, by first | (rw [hG]; exact wnG_t hi0 (by omega)) | (rw [hG]; exact wnG_f (by omega))⟩) (by omega)

set_option maxRecDepth 100000 in
set_option maxHeartbeats 4000000 in
theorem k_X0_steal (l : Launch) {w : WP} {F : FF} {b : Nat} {r : Rw} {x d : Int} (hb : IsB b) (hB : BI F b r) (hx0 : 0 ≤ x ∧ x < 40) (hx : home r x ≠ -1) (hd : d = home r x / 4) : Con l yX0_steal cX0_steal 3 none 4 w [.ref (adr w b), .int (iI x), .int (iI d)] F (QV w (fun F' => BI F' b (stl r x) ∧ Fr F F' b)) := by
  refine Con.mk (lv := [(0, .ref (adr w b)), (1, .int (iI x)), (2, .int (iI d))]) (by decide) (Nat.le_of_ble_eq_true rfl) rfl ?_
  intro pg ev s0 mi be me co C hz
  subst hd
  have hI := hB.iv
  have hh := home_range r x
  have hh2 : home r x ≠ -1 := hx
  refine q_aload_n C 0 dX0_steal_0 rfl ?_
  refine q_iload_n C 1 dX0_steal_1 rfl ?_
  refine q_cV (q_runV (As := [.int (iI x)]) (rest := []) C (k_X0_removeWord (F := F) (x := x) l hb hB hx0 hx) hb.k0 (by decide) rfl wd_551 wd_549 wd_550 wd_14 wd_548 nd_X0_removeWord rfl (by decide) ⟨Nat.zero_le _, Nat.zero_le _⟩ rfl (Nat.le_of_ble_eq_true rfl) dX0_steal_2) ?_
  rintro F' ⟨hG, hF⟩
  refine q_aload_n C 0 dX0_steal_5 rfl ?_
  refine q_dup C dX0_steal_6 rfl ?_
  refine q_get (T := TX0) (i := 10) C hb.k0 (by decide) rfl uws0 (by decide) wd_54 rfl dX0_steal_7 ?_
  refine q_iconst C 1 dX0_steal_10 ?_
  refine q_iadd C dX0_steal_11 ?_
  refine q_put (T := TX0) (tyX := tyX0) (i := 10) (j := 10) (z := ((F' b 10) + 1)) (ty := .int) C rfl hb.k0 (by decide) rfl uws0 tyX0_ok nmX0 (by decide) (kd_ln.1 hb.k0) wd_54 rfl rfl rfl rfl (fsS_0_10 w _ _ _) (Nat.le_of_ble_eq_true rfl) dX0_steal_12 ?_
  refine q_aload_n C 0 dX0_steal_15 rfl ?_
  refine q_get (T := TX0) (i := 5) C hb.k0 (by decide) rfl uws0 (by decide) wd_48 rfl dX0_steal_16 ?_
  refine q_iload_n C 1 dX0_steal_19 rfl ?_
  refine q_aload_n C 0 dX0_steal_20 rfl ?_
  refine q_get (T := TX0) (i := 5) C hb.k0 (by decide) rfl uws0 (by decide) wd_48 rfl dX0_steal_21 ?_
  refine q_iload_n C 1 dX0_steal_24 rfl ?_
  refine q_cI (q_runSN (As := [.ref (adr w (b + 6)), .int (iI x)]) (rest := [.int (iI x), .ref (adr w (b + 6))]) C (k_cli (F := (up F' b 10 ((F' b 10) + 1))) (x := x) l hb.k6 hb.n6 ⟨by omega, by omega, by omega⟩) wd_265 wd_264 wd_13 nw_263 nd_X3_cell rfl (by decide) ⟨Nat.zero_le _, Nat.zero_le _⟩ rfl (Nat.le_of_ble_eq_true rfl) dX0_steal_25) ?_
  rintro z F' ⟨rfl, rfl⟩
  refine q_iconst C 1 dX0_steal_28 ?_
  refine q_iadd C dX0_steal_29 ?_
  refine q_cV (q_runSN (As := [.ref (adr w (b + 6)), .int (iI x), .int (iI (((up F' b 10 ((F' b 10) + 1)) (b + 6) x) + 1))]) (rest := []) C (k_seti (F := (up F' b 10 ((F' b 10) + 1))) (x := x) (v := ((up F' b 10 ((F' b 10) + 1)) (b + 6) x) + 1) l hb.k6 hb.n6 ⟨by omega, by omega, by omega⟩) wd_42 wd_41 wd_13 nw_40 nd_X3_setCell rfl (by decide) ⟨Nat.zero_le _, Nat.zero_le _⟩ rfl (Nat.le_of_ble_eq_true rfl) dX0_steal_30) ?_
  rintro F' rfl
  refine q_aload_n C 0 dX0_steal_33 rfl ?_
  refine q_get (T := TX0) (i := 7) C hb.k0 (by decide) rfl uws0 (by decide) wd_50 rfl dX0_steal_34 ?_
  refine q_iload_n C 2 dX0_steal_37 rfl ?_
  refine q_aload_n C 0 dX0_steal_38 rfl ?_
  refine q_get (T := TX0) (i := 7) C hb.k0 (by decide) rfl uws0 (by decide) wd_50 rfl dX0_steal_39 ?_
  refine q_iload_n C 2 dX0_steal_42 rfl ?_
  refine q_cI (q_runSN (As := [.ref (adr w (b + 8)), .int (iI (home r x / 4))]) (rest := [.int (iI (home r x / 4)), .ref (adr w (b + 8))]) C (k_cli (F := (up (up F' b 10 ((F' b 10) + 1)) (b + 6) x (((up F' b 10 ((F' b 10) + 1)) (b + 6) x) + 1))) (x := (home r x / 4)) l hb.k8 hb.n8 ⟨by omega, by omega, by omega⟩) wd_265 wd_264 wd_13 nw_263 nd_X3_cell rfl (by decide) ⟨Nat.zero_le _, Nat.zero_le _⟩ rfl (Nat.le_of_ble_eq_true rfl) dX0_steal_43) ?_
  rintro z F' ⟨rfl, rfl⟩
  refine q_iconst C 1 dX0_steal_46 ?_
  refine q_iadd C dX0_steal_47 ?_
  refine q_cV (q_runSN (As := [.ref (adr w (b + 8)), .int (iI (home r x / 4)), .int (iI (((up (up F' b 10 ((F' b 10) + 1)) (b + 6) x (((up F' b 10 ((F' b 10) + 1)) (b + 6) x) + 1)) (b + 8) (home r x / 4)) + 1))]) (rest := []) C (k_seti (F := (up (up F' b 10 ((F' b 10) + 1)) (b + 6) x (((up F' b 10 ((F' b 10) + 1)) (b + 6) x) + 1))) (x := (home r x / 4)) (v := ((up (up F' b 10 ((F' b 10) + 1)) (b + 6) x (((up F' b 10 ((F' b 10) + 1)) (b + 6) x) + 1)) (b + 8) (home r x / 4)) + 1) l hb.k8 hb.n8 ⟨by omega, by omega, by omega⟩) wd_42 wd_41 wd_13 nw_40 nd_X3_setCell rfl (by decide) ⟨Nat.zero_le _, Nat.zero_le _⟩ rfl (Nat.le_of_ble_eq_true rfl) dX0_steal_48) ?_
  rintro F' rfl
  refine q_aload_n C 0 dX0_steal_51 rfl ?_
  refine q_get (T := TX0) (i := 6) C hb.k0 (by decide) rfl uws0 (by decide) wd_49 rfl dX0_steal_52 ?_
  refine q_iload_n C 2 dX0_steal_55 rfl ?_
  refine q_aload_n C 0 dX0_steal_56 rfl ?_
  refine q_get (T := TX0) (i := 8) C hb.k0 (by decide) rfl uws0 (by decide) wd_51 rfl dX0_steal_57 ?_
  refine q_iconst C 2 dX0_steal_60 ?_
  refine q_cI (q_runSN (As := [.ref (adr w (b + 9)), .int (iI 2)]) (rest := [.int (iI (home r x / 4)), .ref (adr w (b + 7))]) C (k_cli (F := (up (up (up F' b 10 ((F' b 10) + 1)) (b + 6) x (((up F' b 10 ((F' b 10) + 1)) (b + 6) x) + 1)) (b + 8) (home r x / 4) (((up (up F' b 10 ((F' b 10) + 1)) (b + 6) x (((up F' b 10 ((F' b 10) + 1)) (b + 6) x) + 1)) (b + 8) (home r x / 4)) + 1))) (x := 2) l hb.k9 hb.n9 ⟨by omega, by omega, by omega⟩) wd_265 wd_264 wd_13 nw_263 nd_X3_cell rfl (by decide) ⟨Nat.zero_le _, Nat.zero_le _⟩ rfl (Nat.le_of_ble_eq_true rfl) dX0_steal_61) ?_
  rintro z F' ⟨rfl, rfl⟩
  refine q_cV (q_runSN (As := [.ref (adr w (b + 7)), .int (iI (home r x / 4)), .int (iI ((up (up (up F' b 10 ((F' b 10) + 1)) (b + 6) x (((up F' b 10 ((F' b 10) + 1)) (b + 6) x) + 1)) (b + 8) (home r x / 4) (((up (up F' b 10 ((F' b 10) + 1)) (b + 6) x (((up F' b 10 ((F' b 10) + 1)) (b + 6) x) + 1)) (b + 8) (home r x / 4)) + 1)) (b + 9) 2))]) (rest := []) C (k_seti (F := (up (up (up F' b 10 ((F' b 10) + 1)) (b + 6) x (((up F' b 10 ((F' b 10) + 1)) (b + 6) x) + 1)) (b + 8) (home r x / 4) (((up (up F' b 10 ((F' b 10) + 1)) (b + 6) x (((up F' b 10 ((F' b 10) + 1)) (b + 6) x) + 1)) (b + 8) (home r x / 4)) + 1))) (x := (home r x / 4)) (v := (up (up (up F' b 10 ((F' b 10) + 1)) (b + 6) x (((up F' b 10 ((F' b 10) + 1)) (b + 6) x) + 1)) (b + 8) (home r x / 4) (((up (up F' b 10 ((F' b 10) + 1)) (b + 6) x (((up F' b 10 ((F' b 10) + 1)) (b + 6) x) + 1)) (b + 8) (home r x / 4)) + 1)) (b + 9) 2) l hb.k7 hb.n7 ⟨by omega, by omega, by omega⟩) wd_42 wd_41 wd_13 nw_40 nd_X3_setCell rfl (by decide) ⟨Nat.zero_le _, Nat.zero_le _⟩ rfl (Nat.le_of_ble_eq_true rfl) dX0_steal_64) ?_
  rintro F' rfl
  refine q_vret C dX0_steal_67 ?_
  refine ⟨BI_stl hx0 hx hI hG (fun k a1 a2 a3 a4 a5 => ?_) (fun i => ?_) (fun i => ?_) (fun i => ?_) ?_ ?_ ?_ ?_, (((hF.up (by omega) (by omega)).up (by omega) (by omega)).up (by omega) (by omega)).up (by omega) (by omega)⟩
  · simp (disch := omega) only [up_k]
  · by_cases e : i = x
    · subst e; simp (disch := omega) only [up_k, up_eq, ↓reduceIte]
    · simp (disch := omega) only [up_k, up_j, if_neg, ↓reduceIte]
  · by_cases e : i = home r x / 4
    · subst e; simp (disch := omega) only [up_k, up_eq, ↓reduceIte]
    · simp (disch := omega) only [up_k, up_j, if_neg, ↓reduceIte]
  · by_cases e : i = home r x / 4
    · subst e; simp (disch := omega) only [up_k, up_eq, ↓reduceIte]
    · simp (disch := omega) only [up_k, up_j, if_neg, ↓reduceIte]
  · simp (disch := omega) only [up_k, up_j]
  · simp (disch := omega) only [up_k, up_eq]
  · simp (disch := omega) only [up_k, up_j]
  · simp (disch := omega) only [up_k, up_j]

set_option maxRecDepth 100000 in
set_option maxHeartbeats 4000000 in
theorem k_X0_passNights (l : Launch) {w : WP} {F : FF} {b : Nat} {r : Rw} {n : Int} (hb : IsB b) (hB : BI F b r) (hn : 0 ≤ n ∧ n ≤ 20) : Con l yX0_passNights cX0_passNights 5 (some .int) 5 w [.ref (adr w b), .int (iI n)] F (QI w (fun z F' => z = rbs (ngs r n.toNat) - rbs r ∧ BI F' b (ngs r n.toNat) ∧ Fr F F' b)) := by
  refine Con.mk (lv := [(0, .ref (adr w b)), (1, .int (iI n))]) (by decide) (Nat.le_of_ble_eq_true rfl) rfl ?_
  intro pg ev s0 mi be me co C hz
  have hI := hB.iv
  refine q_aload_n C 0 dX0_passNights_0 rfl ?_
  refine q_get (T := TX0) (i := 10) C hb.k0 (by decide) rfl uws0 (by decide) wd_54 rfl dX0_passNights_1 ?_
  refine q_istore_n (lv' := [(2, .int (iI (F b 10))), (0, .ref (adr w b)), (1, .int (iI n))]) C dX0_passNights_4 (by decide) rfl ?_
  refine q_iconst C 0 dX0_passNights_5 ?_
  refine q_istore_n (lv' := [(3, .int (iI 0)), (2, .int (iI (F b 10))), (0, .ref (adr w b)), (1, .int (iI n))]) C dX0_passNights_6 (by decide) rfl ?_
  refine q_lv (lv' := [(0, .ref (adr w b)), (1, .int (iI n)), (2, .int (iI (F b 10))), (3, .int (iI 0))]) [2, 3, 1, 0] rfl ?_
  refine wf3 (P := fun (i : Int) (G : FF) (s : Rw) => Wq pg l ev _ s0 mi _ be me co _ w _ _ _ 7 [(0, .ref (adr w b)), (1, .int (iI n)), (2, .int (iI (F b 10))), (3, .int (iI i))] [] G) (I := fun (i : Int) (G : FF) (s : Rw) => 0 ≤ i ∧ i ≤ n ∧ s = ngs r i.toNat ∧ BI G b s ∧ Fr F G b) (μ := fun (i : Int) (G : FF) (s : Rw) => (n - i).toNat) ?_ 0 F r (⟨by omega, by omega, rfl, hB, Fr.refl F b⟩)
  intro i G s hI' ih7
  (try dsimp only at hI'); (try dsimp only at ih7); (try dsimp only)
  obtain ⟨hi0, hi1, hs, hGs, hFs⟩ := hI'
  refine q_iload_n C 3 dX0_passNights_7 rfl ?_
  refine q_iload_n C 1 dX0_passNights_8 rfl ?_
  refine q_icmp_ge C 56 dX0_passNights_9 ⟨by omega, by omega⟩ ⟨by omega, by omega⟩ (by decide) (fun h9 => ?_) (fun h9 => ?_)
  · refine q_aload_n C 0 dX0_passNights_56 rfl ?_
    refine q_get (T := TX0) (i := 10) C hb.k0 (by decide) rfl uws0 (by decide) wd_54 rfl dX0_passNights_57 ?_
    refine q_iload_n C 2 dX0_passNights_60 rfl ?_
    refine q_isub C dX0_passNights_61 ?_
    refine q_iret C dX0_passNights_62 ?_
    exact ⟨by rw [hGs.st, hB.st, hs, show i = n by omega]; rfl, by rw [← show i = n by omega, ← hs]; exact hGs, hFs⟩
  · refine q_aload_n C 0 dX0_passNights_12 rfl ?_
    refine q_cI (q_runV (As := []) (rest := []) C (k_X0_doorOfThief l hb hGs) hb.k0 (by decide) rfl wd_486 wd_485 wd_6 wd_14 wd_483 nd_X0_doorOfThief rfl (by decide) ⟨Nat.zero_le _, Nat.zero_le _⟩ rfl (Nat.le_of_ble_eq_true rfl) dX0_passNights_13) ?_
    rintro z F' ⟨rfl, rfl⟩
    have qt := tg_range s
    have qn := ng_iv hGs.iv
    refine q_istore (lv' := [(4, .int (iI (tg s))), (0, .ref (adr w b)), (1, .int (iI n)), (2, .int (iI (F b 10))), (3, .int (iI i))]) C dX0_passNights_16 (by decide) rfl ?_
    refine q_aload_n C 1 dX0_passNights_18 rfl ?_
    refine q_dup C dX0_passNights_19 rfl ?_
    refine q_get (T := TX0) (i := 9) C hb.k0 (by decide) rfl uws0 (by decide) wd_52 rfl dX0_passNights_20 ?_
    refine q_iconst C 1 dX0_passNights_23 ?_
    refine q_iadd C dX0_passNights_24 ?_
    refine q_put (T := TX0) (tyX := tyX0) (i := 9) (j := 9) (z := ((G b 9) + 1)) (ty := .int) C rfl hb.k0 (by decide) rfl uws0 tyX0_ok nmX0 (by decide) (kd_ln.1 hb.k0) wd_52 rfl rfl rfl rfl (fsS_0_9 w _ _ _) (Nat.le_of_ble_eq_true rfl) dX0_passNights_25 ?_
    refine q_aload_n C 1 dX0_passNights_28 rfl ?_
    refine q_cV (q_runV (As := []) (rest := []) C (k_X0_watchOneNightFewer (F := (up G b 9 ((G b 9) + 1))) l hb (fun d a c => by rw [up_k (by omega), hGs.h7 a c]; exact hGs.iv.wt a c)) hb.k0 (by decide) rfl wd_543 wd_542 wd_8 wd_14 wd_540 nd_X0_watchOneNightFewer rfl (by decide) ⟨Nat.zero_le _, Nat.zero_le _⟩ rfl (Nat.le_of_ble_eq_true rfl) dX0_passNights_29) ?_
    rintro F' rfl
    have hW : BI (wnG (up G b 9 ((G b 9) + 1)) b 4) b (wn s) := BI_wn hGs (fun k a1 a2 a3 => by rw [wnG_k a3, up_k (by omega)]) (fun d a1 a2 => by rw [wnG_7 a1 a2, up_k (by omega)]) (by rw [wnG_k (by omega), up_eq]) (by rw [wnG_k (by omega), up_j (by omega)]) (by rw [wnG_k (by omega), up_j (by omega)]) (by rw [wnG_k (by omega), up_j (by omega)])
    have hWf : Fr F (wnG (up G b 9 ((G b 9) + 1)) b 4) b := fun k a => by rw [wnG_k (by omega), up_k (by omega)]; exact hFs k a
    refine q_iload C 0 dX0_passNights_32 rfl ?_
    refine q_iconst C (-1) dX0_passNights_34 ?_
    refine q_icmp_eq C 50 dX0_passNights_35 ⟨by omega, by omega⟩ ⟨by decide, by decide⟩ (by decide) (fun h35 => ?_) (fun h35 => ?_)
    · refine q_iinc (lv' := [(3, .int (iI (i + 1))), (4, .int (iI (tg s))), (0, .ref (adr w b)), (1, .int (iI n)), (2, .int (iI (F b 10)))]) C 4 dX0_passNights_50 rfl (by decide) rfl ?_
      refine q_goto C 7 dX0_passNights_53 (by decide) ?_
      refine q_lv (lv' := [(0, .ref (adr w b)), (1, .int (iI n)), (2, .int (iI (F b 10))), (3, .int (iI (i + 1)))]) [2, 3, 4, 0] rfl ?_
      exact ih7 (i + 1) (wnG (up G b 9 ((G b 9) + 1)) b 4) (ng s) (⟨by omega, by omega, by rw [show (i + 1).toNat = i.toNat + 1 by omega, hs]; rfl, by unfold ng; first | (rw [if_pos (by assumption)]; exact hW) | (rw [if_neg (by assumption), ← t6]; exact hE), by first | exact hWf | exact hWf.trans hEf⟩) (by omega)
    · refine q_aload_n C 1 dX0_passNights_38 rfl ?_
      refine q_aload_n C 1 dX0_passNights_39 rfl ?_
      refine q_iload C 0 dX0_passNights_40 rfl ?_
      refine q_cI (q_runV (As := [.int (iI (tg s))]) (rest := [.ref (adr w b)]) C (k_X0_preyOn l hb hW (d := tg s) ⟨by omega, by omega⟩) hb.k0 (by decide) rfl wd_490 wd_489 wd_7 wd_14 wd_487 nd_X0_preyOn rfl (by decide) ⟨Nat.zero_le _, Nat.zero_le _⟩ rfl (Nat.le_of_ble_eq_true rfl) dX0_passNights_42) ?_
      rintro z F' ⟨rfl, rfl⟩
      obtain ⟨t0, t1, t2, t3, t4, t5, t6⟩ := qn.2 (by assumption)
      refine q_iload C 0 dX0_passNights_45 rfl ?_
      refine q_cV (q_runV (As := [.int (iI (pon (wn s) (tg s))), .int (iI (tg s))]) (rest := []) C (k_X0_steal l hb hW (x := pon (wn s) (tg s)) ⟨t2, t3⟩ t4 t5.symm) hb.k0 (by decide) rfl wd_547 wd_546 wd_9 wd_14 wd_544 nd_X0_steal rfl (by decide) ⟨Nat.zero_le _, Nat.zero_le _⟩ rfl (Nat.le_of_ble_eq_true rfl) dX0_passNights_47) ?_
      rintro F' ⟨hE, hEf⟩
      refine q_iinc (lv' := [(3, .int (iI (i + 1))), (4, .int (iI (tg s))), (0, .ref (adr w b)), (1, .int (iI n)), (2, .int (iI (F b 10)))]) C 4 dX0_passNights_50 rfl (by decide) rfl ?_
      refine q_goto C 7 dX0_passNights_53 (by decide) ?_
      refine q_lv (lv' := [(0, .ref (adr w b)), (1, .int (iI n)), (2, .int (iI (F b 10))), (3, .int (iI (i + 1)))]) [2, 3, 4, 0] rfl ?_
      exact ih7 (i + 1) F' (ng s) (⟨by omega, by omega, by rw [show (i + 1).toNat = i.toNat + 1 by omega, hs]; rfl, by unfold ng; first | (rw [if_pos (by assumption)]; exact hW) | (rw [if_neg (by assumption), ← t6]; exact hE), by first | exact hWf | exact hWf.trans hEf⟩) (by omega)

set_option maxRecDepth 100000 in
set_option maxHeartbeats 4000000 in
theorem k_X0_emptyDoor (l : Launch) {w : WP} {F : FF} {b : Nat} {r : Rw} {d : Int} (hb : IsB b) (hB : BI F b r) (hd : 0 ≤ d ∧ d < 4) : Con l yX0_emptyDoor cX0_emptyDoor 4 (some .int) 4 w [.ref (adr w b), .int (iI d)] F (QI w (fun z F' => z = dwo r d ∧ BI F' b (clr r d) ∧ Fr F F' b)) := by
  refine Con.mk (lv := [(0, .ref (adr w b)), (1, .int (iI d))]) (by decide) (Nat.le_of_ble_eq_true rfl) rfl ?_
  intro pg ev s0 mi be me co C hz
  have hI := hB.iv
  refine q_iconst C 0 dX0_emptyDoor_0 ?_
  refine q_istore_n (lv' := [(2, .int (iI 0)), (0, .ref (adr w b)), (1, .int (iI d))]) C dX0_emptyDoor_1 (by decide) rfl ?_
  refine q_iconst C 0 dX0_emptyDoor_2 ?_
  refine q_istore_n (lv' := [(3, .int (iI 0)), (2, .int (iI 0)), (0, .ref (adr w b)), (1, .int (iI d))]) C dX0_emptyDoor_3 (by decide) rfl ?_
  refine q_lv (lv' := [(0, .ref (adr w b)), (1, .int (iI d)), (2, .int (iI 0)), (3, .int (iI 0))]) [2, 3, 1, 0] rfl ?_
  refine wf4 (P := fun (i : Int) (n : Int) (G : FF) (s : Rw) => Wq pg l ev _ s0 mi _ be me co _ w _ _ _ 4 [(0, .ref (adr w b)), (1, .int (iI d)), (2, .int (iI n)), (3, .int (iI i))] [] G) (I := fun (i : Int) (n : Int) (G : FF) (s : Rw) => 0 ≤ i ∧ i ≤ 40 ∧ BI G b s ∧ Fr F G b ∧ clr s d = clr r d ∧ n + dwo s d = dwo r d ∧ (∀ x, 0 ≤ x → x < i → home s x = -1 ∨ home s x / 4 ≠ d)) (μ := fun (i : Int) (n : Int) (G : FF) (s : Rw) => (40 - i).toNat) ?_ 0 0 F r (⟨by omega, by omega, hB, Fr.refl F b, rfl, by omega, fun x a c => by omega⟩)
  intro i n G s hI' ih4
  (try dsimp only at hI'); (try dsimp only at ih4); (try dsimp only)
  obtain ⟨hi0, hi1, hGs, hFs, hc, hn, hw⟩ := hI'
  refine q_iload_n C 3 dX0_emptyDoor_4 rfl ?_
  refine q_aload_n C 0 dX0_emptyDoor_5 rfl ?_
  refine q_get (T := TX0) (i := 0) C hb.k0 (by decide) rfl uws0 (by decide) wd_43 rfl dX0_emptyDoor_6 ?_
  refine q_alen (N := 40) C (by rw [hb.k1]; decide) hb.n1 dX0_emptyDoor_9 ?_
  refine q_icmp_ge C 49 dX0_emptyDoor_10 ⟨by omega, by omega⟩ ⟨by decide, by decide⟩ (by decide) (fun h10 => ?_) (fun h10 => ?_)
  · refine q_iload_n C 2 dX0_emptyDoor_49 rfl ?_
    refine q_iret C dX0_emptyDoor_50 ?_
    have hem := door_empty hGs.iv hd (fun x a c => hw x a (by omega))
    exact ⟨by rw [← hn, dwo_0 hem]; omega, by rw [← hc, clr_self hGs.iv hd hem]; exact hGs, hFs⟩
  · refine q_aload_n C 0 dX0_emptyDoor_13 rfl ?_
    refine q_get (T := TX0) (i := 0) C hb.k0 (by decide) rfl uws0 (by decide) wd_43 rfl dX0_emptyDoor_14 ?_
    refine q_iload_n C 3 dX0_emptyDoor_17 rfl ?_
    refine q_iald C hb.k1 ⟨by omega, by rw [hb.n1]; omega⟩ dX0_emptyDoor_18 ?_
    rw [hGs.h1 (x := i) (by omega) (by omega)]
    have qr := home_range s i
    refine q_iconst C (-1) dX0_emptyDoor_19 ?_
    refine q_icmp_eq C 43 dX0_emptyDoor_20 ⟨by omega, by omega⟩ ⟨by decide, by decide⟩ (by decide) (fun h20 => ?_) (fun h20 => ?_)
    · refine q_iinc (lv' := [(3, .int (iI (i + 1))), (0, .ref (adr w b)), (1, .int (iI d)), (2, .int (iI n))]) C 3 dX0_emptyDoor_43 rfl (by decide) rfl ?_
      refine q_goto C 4 dX0_emptyDoor_46 (by decide) ?_
      refine q_lv (lv' := [(0, .ref (adr w b)), (1, .int (iI d)), (2, .int (iI n)), (3, .int (iI (i + 1)))]) [1, 2, 3, 0] rfl ?_
      exact ih4 (i + 1) n G s (⟨by omega, by omega, hGs, hFs, hc, hn, fun x a c => by rcases (show x < i ∨ x = i by omega) with g | g; exact hw x a g; subst g; omega⟩) (by omega)
    · refine q_aload_n C 0 dX0_emptyDoor_23 rfl ?_
      refine q_get (T := TX0) (i := 0) C hb.k0 (by decide) rfl uws0 (by decide) wd_43 rfl dX0_emptyDoor_24 ?_
      refine q_iload_n C 3 dX0_emptyDoor_27 rfl ?_
      refine q_iald C hb.k1 ⟨by omega, by rw [hb.n1]; omega⟩ dX0_emptyDoor_28 ?_
      rw [hGs.h1 (x := i) (by omega) (by omega)]
      have qr := home_range s i
      refine q_iconst C 4 dX0_emptyDoor_29 ?_
      refine q_idiv C dX0_emptyDoor_30 ⟨by omega, by omega⟩ ⟨by decide, by decide⟩ ?_
      refine q_iload_n C 1 dX0_emptyDoor_31 rfl ?_
      refine q_icmp_ne C 43 dX0_emptyDoor_32 ⟨by omega, by omega⟩ ⟨by omega, by omega⟩ (by decide) (fun h32 => ?_) (fun h32 => ?_)
      · refine q_iinc (lv' := [(3, .int (iI (i + 1))), (0, .ref (adr w b)), (1, .int (iI d)), (2, .int (iI n))]) C 3 dX0_emptyDoor_43 rfl (by decide) rfl ?_
        refine q_goto C 4 dX0_emptyDoor_46 (by decide) ?_
        refine q_lv (lv' := [(0, .ref (adr w b)), (1, .int (iI d)), (2, .int (iI n)), (3, .int (iI (i + 1)))]) [1, 2, 3, 0] rfl ?_
        exact ih4 (i + 1) n G s (⟨by omega, by omega, hGs, hFs, hc, hn, fun x a c => by rcases (show x < i ∨ x = i by omega) with g | g; exact hw x a g; subst g; omega⟩) (by omega)
      · refine q_aload_n C 0 dX0_emptyDoor_35 rfl ?_
        refine q_iload_n C 3 dX0_emptyDoor_36 rfl ?_
        refine q_cV (q_runV (As := [.int (iI i)]) (rest := []) C (k_X0_removeWord (F := G) (x := i) l hb hGs ⟨by omega, by omega⟩ (by assumption)) hb.k0 (by decide) rfl wd_551 wd_549 wd_550 wd_14 wd_548 nd_X0_removeWord rfl (by decide) ⟨Nat.zero_le _, Nat.zero_le _⟩ rfl (Nat.le_of_ble_eq_true rfl) dX0_emptyDoor_37) ?_
        rintro F' ⟨hE, hEf⟩
        obtain ⟨y0, y1, q0, q1, qw⟩ := home_at hGs.iv (x := i) (by assumption)
        refine q_iinc (lv' := [(2, .int (iI (n + 1))), (0, .ref (adr w b)), (1, .int (iI d)), (3, .int (iI i))]) C 2 dX0_emptyDoor_40 rfl (by decide) rfl ?_
        refine q_iinc (lv' := [(3, .int (iI (i + 1))), (2, .int (iI (n + 1))), (0, .ref (adr w b)), (1, .int (iI d))]) C 3 dX0_emptyDoor_43 rfl (by decide) rfl ?_
        refine q_goto C 4 dX0_emptyDoor_46 (by decide) ?_
        refine q_lv (lv' := [(0, .ref (adr w b)), (1, .int (iI d)), (2, .int (iI (n + 1))), (3, .int (iI (i + 1)))]) [2, 3, 1, 0] rfl ?_
        exact ih4 (i + 1) (n + 1) F' (rem s (home s i) (plc s i)) (⟨by omega, by omega, hE, hFs.trans hEf, by rw [clr_rem hGs.iv ⟨y0, y1⟩ ⟨q0, q1⟩ (by omega)]; exact hc, by rw [dwo_rem hGs.iv ⟨y0, y1⟩ ⟨q0, q1⟩ (by omega)]; omega, fun x a c => by rw [rem_home hGs.iv ⟨y0, y1⟩ ⟨q0, q1⟩, qw]; by_cases g : x = i; left; exact if_pos g; rw [if_neg g]; exact hw x a (by omega)⟩) (by omega)

set_option maxRecDepth 100000 in
set_option maxHeartbeats 4000000 in
theorem k_X0_copyFrom (l : Launch) {w : WP} {F : FF} {b o : Nat} {r : Rw} (hb : IsB b) (ho : IsB o) (hne : b ≠ o) (hB : BI F o r) : Con l yX0_copyFrom cX0_copyFrom 2 none 1 w [.ref (adr w b), .ref (adr w o)] F (QV w (fun F' => BI F' b r ∧ Fr F F' b)) := by
  refine Con.mk (lv := [(0, .ref (adr w b)), (1, .ref (adr w o))]) (by decide) (Nat.le_of_ble_eq_true rfl) rfl ?_
  intro pg ev s0 mi be me co C hz
  have hap := hb.apart ho hne
  refine q_aload_n C 1 dX0_copyFrom_0 rfl ?_
  refine q_get (T := TX0) (i := 0) C ho.k0 (by decide) rfl uws0 (by decide) wd_43 rfl dX0_copyFrom_1 ?_
  refine q_aload_n C 0 dX0_copyFrom_4 rfl ?_
  refine q_get (T := TX0) (i := 0) C hb.k0 (by decide) rfl uws0 (by decide) wd_43 rfl dX0_copyFrom_5 ?_
  refine q_cV (q_runSN (As := [.ref (adr w (o + 1)), .ref (adr w (b + 1))]) (rest := []) C (k_X3_copyRow (F := F) l ho.k1 hb.k1 (by rw [ho.n1, hb.n1])) wd_535 wd_534 wd_13 nw_533 nd_X3_copyRow rfl (by decide) ⟨Nat.zero_le _, Nat.zero_le _⟩ rfl (Nat.le_of_ble_eq_true rfl) dX0_copyFrom_8) ?_
  rintro F' rfl
  refine q_aload_n C 1 dX0_copyFrom_11 rfl ?_
  refine q_get (T := TX0) (i := 1) C ho.k0 (by decide) rfl uws0 (by decide) wd_44 rfl dX0_copyFrom_12 ?_
  refine q_aload_n C 0 dX0_copyFrom_15 rfl ?_
  refine q_get (T := TX0) (i := 1) C hb.k0 (by decide) rfl uws0 (by decide) wd_44 rfl dX0_copyFrom_16 ?_
  refine q_cV (q_runSN (As := [.ref (adr w (o + 2)), .ref (adr w (b + 2))]) (rest := []) C (k_X3_copyRow (F := (cpF F (o + 1) (b + 1))) l ho.k2 hb.k2 (by rw [ho.n2, hb.n2])) wd_535 wd_534 wd_13 nw_533 nd_X3_copyRow rfl (by decide) ⟨Nat.zero_le _, Nat.zero_le _⟩ rfl (Nat.le_of_ble_eq_true rfl) dX0_copyFrom_19) ?_
  rintro F' rfl
  refine q_aload_n C 1 dX0_copyFrom_22 rfl ?_
  refine q_get (T := TX0) (i := 2) C ho.k0 (by decide) rfl uws0 (by decide) wd_45 rfl dX0_copyFrom_23 ?_
  refine q_aload_n C 0 dX0_copyFrom_26 rfl ?_
  refine q_get (T := TX0) (i := 2) C hb.k0 (by decide) rfl uws0 (by decide) wd_45 rfl dX0_copyFrom_27 ?_
  refine q_cV (q_runSN (As := [.ref (adr w (o + 3)), .ref (adr w (b + 3))]) (rest := []) C (k_X3_copyRow (F := (cpF (cpF F (o + 1) (b + 1)) (o + 2) (b + 2))) l ho.k3 hb.k3 (by rw [ho.n3, hb.n3])) wd_535 wd_534 wd_13 nw_533 nd_X3_copyRow rfl (by decide) ⟨Nat.zero_le _, Nat.zero_le _⟩ rfl (Nat.le_of_ble_eq_true rfl) dX0_copyFrom_30) ?_
  rintro F' rfl
  refine q_aload_n C 1 dX0_copyFrom_33 rfl ?_
  refine q_get (T := TX0) (i := 3) C ho.k0 (by decide) rfl uws0 (by decide) wd_46 rfl dX0_copyFrom_34 ?_
  refine q_aload_n C 0 dX0_copyFrom_37 rfl ?_
  refine q_get (T := TX0) (i := 3) C hb.k0 (by decide) rfl uws0 (by decide) wd_46 rfl dX0_copyFrom_38 ?_
  refine q_cV (q_runSN (As := [.ref (adr w (o + 4)), .ref (adr w (b + 4))]) (rest := []) C (k_X3_copyRow (F := (cpF (cpF (cpF F (o + 1) (b + 1)) (o + 2) (b + 2)) (o + 3) (b + 3))) l ho.k4 hb.k4 (by rw [ho.n4, hb.n4])) wd_535 wd_534 wd_13 nw_533 nd_X3_copyRow rfl (by decide) ⟨Nat.zero_le _, Nat.zero_le _⟩ rfl (Nat.le_of_ble_eq_true rfl) dX0_copyFrom_41) ?_
  rintro F' rfl
  refine q_aload_n C 1 dX0_copyFrom_44 rfl ?_
  refine q_get (T := TX0) (i := 4) C ho.k0 (by decide) rfl uws0 (by decide) wd_47 rfl dX0_copyFrom_45 ?_
  refine q_aload_n C 0 dX0_copyFrom_48 rfl ?_
  refine q_get (T := TX0) (i := 4) C hb.k0 (by decide) rfl uws0 (by decide) wd_47 rfl dX0_copyFrom_49 ?_
  refine q_cV (q_runSN (As := [.ref (adr w (o + 5)), .ref (adr w (b + 5))]) (rest := []) C (k_X3_copyRow (F := (cpF (cpF (cpF (cpF F (o + 1) (b + 1)) (o + 2) (b + 2)) (o + 3) (b + 3)) (o + 4) (b + 4))) l ho.k5 hb.k5 (by rw [ho.n5, hb.n5])) wd_535 wd_534 wd_13 nw_533 nd_X3_copyRow rfl (by decide) ⟨Nat.zero_le _, Nat.zero_le _⟩ rfl (Nat.le_of_ble_eq_true rfl) dX0_copyFrom_52) ?_
  rintro F' rfl
  refine q_aload_n C 1 dX0_copyFrom_55 rfl ?_
  refine q_get (T := TX0) (i := 5) C ho.k0 (by decide) rfl uws0 (by decide) wd_48 rfl dX0_copyFrom_56 ?_
  refine q_aload_n C 0 dX0_copyFrom_59 rfl ?_
  refine q_get (T := TX0) (i := 5) C hb.k0 (by decide) rfl uws0 (by decide) wd_48 rfl dX0_copyFrom_60 ?_
  refine q_cV (q_runSN (As := [.ref (adr w (o + 6)), .ref (adr w (b + 6))]) (rest := []) C (k_X3_copyRow (F := (cpF (cpF (cpF (cpF (cpF F (o + 1) (b + 1)) (o + 2) (b + 2)) (o + 3) (b + 3)) (o + 4) (b + 4)) (o + 5) (b + 5))) l ho.k6 hb.k6 (by rw [ho.n6, hb.n6])) wd_535 wd_534 wd_13 nw_533 nd_X3_copyRow rfl (by decide) ⟨Nat.zero_le _, Nat.zero_le _⟩ rfl (Nat.le_of_ble_eq_true rfl) dX0_copyFrom_63) ?_
  rintro F' rfl
  refine q_aload_n C 1 dX0_copyFrom_66 rfl ?_
  refine q_get (T := TX0) (i := 6) C ho.k0 (by decide) rfl uws0 (by decide) wd_49 rfl dX0_copyFrom_67 ?_
  refine q_aload_n C 0 dX0_copyFrom_70 rfl ?_
  refine q_get (T := TX0) (i := 6) C hb.k0 (by decide) rfl uws0 (by decide) wd_49 rfl dX0_copyFrom_71 ?_
  refine q_cV (q_runSN (As := [.ref (adr w (o + 7)), .ref (adr w (b + 7))]) (rest := []) C (k_X3_copyRow (F := (cpF (cpF (cpF (cpF (cpF (cpF F (o + 1) (b + 1)) (o + 2) (b + 2)) (o + 3) (b + 3)) (o + 4) (b + 4)) (o + 5) (b + 5)) (o + 6) (b + 6))) l ho.k7 hb.k7 (by rw [ho.n7, hb.n7])) wd_535 wd_534 wd_13 nw_533 nd_X3_copyRow rfl (by decide) ⟨Nat.zero_le _, Nat.zero_le _⟩ rfl (Nat.le_of_ble_eq_true rfl) dX0_copyFrom_74) ?_
  rintro F' rfl
  refine q_aload_n C 1 dX0_copyFrom_77 rfl ?_
  refine q_get (T := TX0) (i := 7) C ho.k0 (by decide) rfl uws0 (by decide) wd_50 rfl dX0_copyFrom_78 ?_
  refine q_aload_n C 0 dX0_copyFrom_81 rfl ?_
  refine q_get (T := TX0) (i := 7) C hb.k0 (by decide) rfl uws0 (by decide) wd_50 rfl dX0_copyFrom_82 ?_
  refine q_cV (q_runSN (As := [.ref (adr w (o + 8)), .ref (adr w (b + 8))]) (rest := []) C (k_X3_copyRow (F := (cpF (cpF (cpF (cpF (cpF (cpF (cpF F (o + 1) (b + 1)) (o + 2) (b + 2)) (o + 3) (b + 3)) (o + 4) (b + 4)) (o + 5) (b + 5)) (o + 6) (b + 6)) (o + 7) (b + 7))) l ho.k8 hb.k8 (by rw [ho.n8, hb.n8])) wd_535 wd_534 wd_13 nw_533 nd_X3_copyRow rfl (by decide) ⟨Nat.zero_le _, Nat.zero_le _⟩ rfl (Nat.le_of_ble_eq_true rfl) dX0_copyFrom_85) ?_
  rintro F' rfl
  refine q_aload_n C 1 dX0_copyFrom_88 rfl ?_
  refine q_get (T := TX0) (i := 8) C ho.k0 (by decide) rfl uws0 (by decide) wd_51 rfl dX0_copyFrom_89 ?_
  refine q_aload_n C 0 dX0_copyFrom_92 rfl ?_
  refine q_get (T := TX0) (i := 8) C hb.k0 (by decide) rfl uws0 (by decide) wd_51 rfl dX0_copyFrom_93 ?_
  refine q_cV (q_runSN (As := [.ref (adr w (o + 9)), .ref (adr w (b + 9))]) (rest := []) C (k_X3_copyRow (F := (cpF (cpF (cpF (cpF (cpF (cpF (cpF (cpF F (o + 1) (b + 1)) (o + 2) (b + 2)) (o + 3) (b + 3)) (o + 4) (b + 4)) (o + 5) (b + 5)) (o + 6) (b + 6)) (o + 7) (b + 7)) (o + 8) (b + 8))) l ho.k9 hb.k9 (by rw [ho.n9, hb.n9])) wd_535 wd_534 wd_13 nw_533 nd_X3_copyRow rfl (by decide) ⟨Nat.zero_le _, Nat.zero_le _⟩ rfl (Nat.le_of_ble_eq_true rfl) dX0_copyFrom_96) ?_
  rintro F' rfl
  refine q_aload_n C 0 dX0_copyFrom_99 rfl ?_
  refine q_aload_n C 1 dX0_copyFrom_100 rfl ?_
  refine q_get (T := TX0) (i := 9) C ho.k0 (by decide) rfl uws0 (by decide) wd_52 rfl dX0_copyFrom_101 ?_
  refine q_put (T := TX0) (tyX := tyX0) (i := 9) (j := 9) (z := ((cpF (cpF (cpF (cpF (cpF (cpF (cpF (cpF (cpF F (o + 1) (b + 1)) (o + 2) (b + 2)) (o + 3) (b + 3)) (o + 4) (b + 4)) (o + 5) (b + 5)) (o + 6) (b + 6)) (o + 7) (b + 7)) (o + 8) (b + 8)) (o + 9) (b + 9)) o 9)) (ty := .int) C rfl hb.k0 (by decide) rfl uws0 tyX0_ok nmX0 (by decide) (kd_ln.1 hb.k0) wd_52 rfl rfl rfl rfl (fsS_0_9 w _ _ _) (Nat.le_of_ble_eq_true rfl) dX0_copyFrom_104 ?_
  refine q_aload_n C 0 dX0_copyFrom_107 rfl ?_
  refine q_aload_n C 1 dX0_copyFrom_108 rfl ?_
  refine q_get (T := TX0) (i := 10) C ho.k0 (by decide) rfl uws0 (by decide) wd_54 rfl dX0_copyFrom_109 ?_
  refine q_put (T := TX0) (tyX := tyX0) (i := 10) (j := 10) (z := ((up (cpF (cpF (cpF (cpF (cpF (cpF (cpF (cpF (cpF F (o + 1) (b + 1)) (o + 2) (b + 2)) (o + 3) (b + 3)) (o + 4) (b + 4)) (o + 5) (b + 5)) (o + 6) (b + 6)) (o + 7) (b + 7)) (o + 8) (b + 8)) (o + 9) (b + 9)) b 9 ((cpF (cpF (cpF (cpF (cpF (cpF (cpF (cpF (cpF F (o + 1) (b + 1)) (o + 2) (b + 2)) (o + 3) (b + 3)) (o + 4) (b + 4)) (o + 5) (b + 5)) (o + 6) (b + 6)) (o + 7) (b + 7)) (o + 8) (b + 8)) (o + 9) (b + 9)) o 9)) o 10)) (ty := .int) C rfl hb.k0 (by decide) rfl uws0 tyX0_ok nmX0 (by decide) (kd_ln.1 hb.k0) wd_54 rfl rfl rfl rfl (fsS_0_10 w _ _ _) (Nat.le_of_ble_eq_true rfl) dX0_copyFrom_112 ?_
  refine q_aload_n C 0 dX0_copyFrom_115 rfl ?_
  refine q_aload_n C 1 dX0_copyFrom_116 rfl ?_
  refine q_get (T := TX0) (i := 11) C ho.k0 (by decide) rfl uws0 (by decide) wd_56 rfl dX0_copyFrom_117 ?_
  refine q_put (T := TX0) (tyX := tyX0) (i := 11) (j := 11) (z := ((up (up (cpF (cpF (cpF (cpF (cpF (cpF (cpF (cpF (cpF F (o + 1) (b + 1)) (o + 2) (b + 2)) (o + 3) (b + 3)) (o + 4) (b + 4)) (o + 5) (b + 5)) (o + 6) (b + 6)) (o + 7) (b + 7)) (o + 8) (b + 8)) (o + 9) (b + 9)) b 9 ((cpF (cpF (cpF (cpF (cpF (cpF (cpF (cpF (cpF F (o + 1) (b + 1)) (o + 2) (b + 2)) (o + 3) (b + 3)) (o + 4) (b + 4)) (o + 5) (b + 5)) (o + 6) (b + 6)) (o + 7) (b + 7)) (o + 8) (b + 8)) (o + 9) (b + 9)) o 9)) b 10 ((up (cpF (cpF (cpF (cpF (cpF (cpF (cpF (cpF (cpF F (o + 1) (b + 1)) (o + 2) (b + 2)) (o + 3) (b + 3)) (o + 4) (b + 4)) (o + 5) (b + 5)) (o + 6) (b + 6)) (o + 7) (b + 7)) (o + 8) (b + 8)) (o + 9) (b + 9)) b 9 ((cpF (cpF (cpF (cpF (cpF (cpF (cpF (cpF (cpF F (o + 1) (b + 1)) (o + 2) (b + 2)) (o + 3) (b + 3)) (o + 4) (b + 4)) (o + 5) (b + 5)) (o + 6) (b + 6)) (o + 7) (b + 7)) (o + 8) (b + 8)) (o + 9) (b + 9)) o 9)) o 10)) o 11)) (ty := .int) C rfl hb.k0 (by decide) rfl uws0 tyX0_ok nmX0 (by decide) (kd_ln.1 hb.k0) wd_56 rfl rfl rfl rfl (fsS_0_11 w _ _ _) (Nat.le_of_ble_eq_true rfl) dX0_copyFrom_120 ?_
  refine q_aload_n C 0 dX0_copyFrom_123 rfl ?_
  refine q_aload_n C 1 dX0_copyFrom_124 rfl ?_
  refine q_get (T := TX0) (i := 12) C ho.k0 (by decide) rfl uws0 (by decide) wd_59 rfl dX0_copyFrom_125 ?_
  refine q_put (T := TX0) (tyX := tyX0) (i := 12) (j := 12) (z := ((up (up (up (cpF (cpF (cpF (cpF (cpF (cpF (cpF (cpF (cpF F (o + 1) (b + 1)) (o + 2) (b + 2)) (o + 3) (b + 3)) (o + 4) (b + 4)) (o + 5) (b + 5)) (o + 6) (b + 6)) (o + 7) (b + 7)) (o + 8) (b + 8)) (o + 9) (b + 9)) b 9 ((cpF (cpF (cpF (cpF (cpF (cpF (cpF (cpF (cpF F (o + 1) (b + 1)) (o + 2) (b + 2)) (o + 3) (b + 3)) (o + 4) (b + 4)) (o + 5) (b + 5)) (o + 6) (b + 6)) (o + 7) (b + 7)) (o + 8) (b + 8)) (o + 9) (b + 9)) o 9)) b 10 ((up (cpF (cpF (cpF (cpF (cpF (cpF (cpF (cpF (cpF F (o + 1) (b + 1)) (o + 2) (b + 2)) (o + 3) (b + 3)) (o + 4) (b + 4)) (o + 5) (b + 5)) (o + 6) (b + 6)) (o + 7) (b + 7)) (o + 8) (b + 8)) (o + 9) (b + 9)) b 9 ((cpF (cpF (cpF (cpF (cpF (cpF (cpF (cpF (cpF F (o + 1) (b + 1)) (o + 2) (b + 2)) (o + 3) (b + 3)) (o + 4) (b + 4)) (o + 5) (b + 5)) (o + 6) (b + 6)) (o + 7) (b + 7)) (o + 8) (b + 8)) (o + 9) (b + 9)) o 9)) o 10)) b 11 ((up (up (cpF (cpF (cpF (cpF (cpF (cpF (cpF (cpF (cpF F (o + 1) (b + 1)) (o + 2) (b + 2)) (o + 3) (b + 3)) (o + 4) (b + 4)) (o + 5) (b + 5)) (o + 6) (b + 6)) (o + 7) (b + 7)) (o + 8) (b + 8)) (o + 9) (b + 9)) b 9 ((cpF (cpF (cpF (cpF (cpF (cpF (cpF (cpF (cpF F (o + 1) (b + 1)) (o + 2) (b + 2)) (o + 3) (b + 3)) (o + 4) (b + 4)) (o + 5) (b + 5)) (o + 6) (b + 6)) (o + 7) (b + 7)) (o + 8) (b + 8)) (o + 9) (b + 9)) o 9)) b 10 ((up (cpF (cpF (cpF (cpF (cpF (cpF (cpF (cpF (cpF F (o + 1) (b + 1)) (o + 2) (b + 2)) (o + 3) (b + 3)) (o + 4) (b + 4)) (o + 5) (b + 5)) (o + 6) (b + 6)) (o + 7) (b + 7)) (o + 8) (b + 8)) (o + 9) (b + 9)) b 9 ((cpF (cpF (cpF (cpF (cpF (cpF (cpF (cpF (cpF F (o + 1) (b + 1)) (o + 2) (b + 2)) (o + 3) (b + 3)) (o + 4) (b + 4)) (o + 5) (b + 5)) (o + 6) (b + 6)) (o + 7) (b + 7)) (o + 8) (b + 8)) (o + 9) (b + 9)) o 9)) o 10)) o 11)) o 12)) (ty := .int) C rfl hb.k0 (by decide) rfl uws0 tyX0_ok nmX0 (by decide) (kd_ln.1 hb.k0) wd_59 rfl rfl rfl rfl (fsS_0_12 w _ _ _) (Nat.le_of_ble_eq_true rfl) dX0_copyFrom_128 ?_
  refine q_vret C dX0_copyFrom_131 ?_
  refine ⟨BI_cp hB (fun i a c => ?_) ?_ ?_ ?_ ?_, fun k a => ?_⟩
  · rcases (show i = 1 ∨ i = 2 ∨ i = 3 ∨ i = 4 ∨ i = 5 ∨ i = 6 ∨ i = 7 ∨ i = 8 ∨ i = 9 by omega) with e | e | e | e | e | e | e | e | e <;> subst e <;> simp (disch := omega) only [up_k, cpF_k, cpF_at]
  · simp (disch := omega) only [up_k, up_j, up_eq, cpF_k]
  · simp (disch := omega) only [up_k, up_j, up_eq, cpF_k]
  · simp (disch := omega) only [up_k, up_j, up_eq, cpF_k]
  · simp (disch := omega) only [up_k, up_j, up_eq, cpF_k]
  · simp (disch := omega) only [up_k, cpF_k]
