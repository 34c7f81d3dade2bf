theorem sh_0 {F : FF} {b : Nat} {y n : Int} : F = shG F b y n n := by
  funext k j; unfold shG; rw [if_neg (by omega)]
theorem sh_s {F : FF} {b : Nat} {y i n : Int} (h0 : 0 < i) (h1 : i ≤ n) : up (shG F b y i n) (b+2) (6 * y + i) (shG F b y i n (b+2) (6 * y + (i - 1))) = shG F b y (i + (-1)) n := by
  funext k j
  unfold up shG
  by_cases e : k = b + 2 ∧ j = 6 * y + i
  · obtain ⟨rfl, rfl⟩ := e
    rw [if_pos ⟨rfl, rfl⟩, if_neg (by omega), if_pos (by omega)]
    congr 1; omega
  · rw [if_neg e]
    by_cases c : k = b+2 ∧ 6*y+i < j ∧ j ≤ 6*y+n
    · rw [if_pos c, if_pos (by omega)]
    · rw [if_neg c, if_neg (by omega)]
theorem sg_0 {F : FF} {b : Nat} {y q : Int} : F = sgG F b y q q := by
  funext k j; unfold sgG; rw [if_neg (by omega)]
theorem sg_s {F : FF} {b : Nat} {y q i : Int} (h0 : q ≤ i) (h1 : 0 ≤ q) : up (sgG F b y q i) (b+2) (6 * y + i) (sgG F b y q i (b+2) (6 * y + (i + 1))) = sgG F b y q (i + 1) := by
  funext k j
  unfold up sgG
  by_cases e : k = b + 2 ∧ j = 6 * y + i
  · obtain ⟨rfl, rfl⟩ := e
    rw [if_pos ⟨rfl, rfl⟩, if_neg (by omega), if_pos (by omega)]
    congr 1; omega
  · rw [if_neg e]
    by_cases c : k = b+2 ∧ 6*y+q ≤ j ∧ j < 6*y+i
    · rw [if_pos c, if_pos (by omega)]
    · rw [if_neg c, if_neg (by omega)]

set_option maxRecDepth 100000 in
set_option maxHeartbeats 4000000 in
theorem k_X0_setWordAt (l : Launch) {w : WP} {F : FF} {b : Nat} {x p v : Int} (hb : IsB b) (hx : 0 ≤ x ∧ x < 16) (hp : 0 ≤ p ∧ p < 6) : Con l yX0_setWordAt cX0_setWordAt 4 none 1 w [.ref (adr w b), .int (iI x), .int (iI p), .int (iI v)] F (QV w (fun F' => F' = up F (b+2) (6 * x + p) v)) := by
  refine Con.mk (lv := [(0, .ref (adr w b)), (1, .int (iI x)), (2, .int (iI p)), (3, .int (iI v))]) (by decide) (Nat.le_of_ble_eq_true rfl) rfl ?_
  intro pg ev s0 mi be me co C hz
  refine q_iload_n C 2 dX0_setWordAt_0 rfl ?_
  refine q_if_lt C 24 dX0_setWordAt_1 ⟨by omega, by omega⟩  (by decide) (fun h1 => ?_) (fun h1 => ?_)
  · refine q_vret C dX0_setWordAt_24 ?_
    exact absurd hp (by omega)
  · refine q_iload_n C 2 dX0_setWordAt_4 rfl ?_
    refine q_bipush C 6 dX0_setWordAt_5 (by decide) ?_
    refine q_icmp_ge C 24 dX0_setWordAt_7 ⟨by omega, by omega⟩ ⟨by decide, by decide⟩ (by decide) (fun h7 => ?_) (fun h7 => ?_)
    · refine q_vret C dX0_setWordAt_24 ?_
      exact absurd hp (by omega)
    · refine q_aload_n C 0 dX0_setWordAt_10 rfl ?_
      refine q_get (T := TX0) (i := 1) C hb.k0 (by decide) rfl uws0 (by decide) wd_44 rfl dX0_setWordAt_11 ?_
      refine q_iload_n C 1 dX0_setWordAt_14 rfl ?_
      refine q_bipush C 6 dX0_setWordAt_15 (by decide) ?_
      refine q_imul C dX0_setWordAt_17 ?_
      refine q_iload_n C 2 dX0_setWordAt_18 rfl ?_
      refine q_iadd C dX0_setWordAt_19 ?_
      refine q_iload_n C 3 dX0_setWordAt_20 rfl ?_
      refine q_cV (q_runSN (As := [.ref (adr w (b + 2)), .int (iI ((x * 6) + p)), .int (iI v)]) (rest := []) C (k_seti (F := F) (x := (x * 6) + p) (v := v) l hb.k2 hb.n2 ⟨by omega, by omega, by omega⟩) wd_42 wd_41 wd_13 nw_40 nd_X3_setCell rfl (by decide) ⟨Nat.zero_le _, Nat.zero_le _⟩ rfl (Nat.le_of_ble_eq_true rfl) dX0_setWordAt_21) ?_
      rintro F' rfl
      refine q_vret C dX0_setWordAt_24 ?_
      rw [Int.mul_comm 6 x]

set_option maxRecDepth 100000 in
set_option maxHeartbeats 4000000 in
theorem k_X0_endLoan (l : Launch) {w : WP} {F : FF} {b : Nat} {x : Int} (hb : IsB b) (hx : -1 ≤ x ∧ x < 16) (hL : LR F b) : Con l yX0_endLoan cX0_endLoan 3 none 1 w [.ref (adr w b), .int (iI x)] F (QV w (fun F' => F' = elF F b x)) := by
  refine Con.mk (lv := [(0, .ref (adr w b)), (1, .int (iI x))]) (by decide) (Nat.le_of_ble_eq_true rfl) rfl ?_
  intro pg ev s0 mi be me co C hz
  have h4 := cl4 hb hL x
  refine q_aload_n C 0 dX0_endLoan_0 rfl ?_
  refine q_get (T := TX0) (i := 3) C hb.k0 (by decide) rfl uws0 (by decide) wd_46 rfl dX0_endLoan_1 ?_
  refine q_iload_n C 1 dX0_endLoan_4 rfl ?_
  refine q_cI (q_runSN (As := [.ref (adr w (b + 4)), .int (iI x)]) (rest := []) C (k_clr (x := x) l hb.k4 ⟨by omega, by omega⟩) wd_265 wd_264 wd_13 nw_263 nd_X3_cell rfl (by decide) ⟨Nat.zero_le _, Nat.zero_le _⟩ rfl (Nat.le_of_ble_eq_true rfl) dX0_endLoan_5) ?_
  rintro z F' ⟨rfl, rfl⟩
  refine q_istore_n (lv' := [(2, .int (iI (cl F (b + 4) x))), (0, .ref (adr w b)), (1, .int (iI x))]) C dX0_endLoan_8 (by decide) rfl ?_
  refine q_aload_n C 1 dX0_endLoan_9 rfl ?_
  refine q_get (T := TX0) (i := 3) C hb.k0 (by decide) rfl uws0 (by decide) wd_46 rfl dX0_endLoan_10 ?_
  refine q_iload_n C 2 dX0_endLoan_13 rfl ?_
  refine q_iconst C (-1) dX0_endLoan_14 ?_
  refine q_cV (q_runSN (As := [.ref (adr w (b + 4)), .int (iI x), .int (iI (-1))]) (rest := []) C (k_setc (x := x) (v := (-1)) l hb.k4 ⟨by omega, by omega⟩) wd_42 wd_41 wd_13 nw_40 nd_X3_setCell rfl (by decide) ⟨Nat.zero_le _, Nat.zero_le _⟩ rfl (Nat.le_of_ble_eq_true rfl) dX0_endLoan_15) ?_
  rintro F' rfl
  refine q_aload_n C 1 dX0_endLoan_18 rfl ?_
  refine q_get (T := TX0) (i := 4) C hb.k0 (by decide) rfl uws0 (by decide) wd_47 rfl dX0_endLoan_19 ?_
  refine q_iload_n C 0 dX0_endLoan_22 rfl ?_
  refine q_iconst C (-1) dX0_endLoan_23 ?_
  refine q_cV (q_runSN (As := [.ref (adr w (b + 5)), .int (iI (cl F (b + 4) x)), .int (iI (-1))]) (rest := []) C (k_setc (x := cl F (b + 4) x) (v := (-1)) l hb.k5 ⟨by omega, by omega⟩) wd_42 wd_41 wd_13 nw_40 nd_X3_setCell rfl (by decide) ⟨Nat.zero_le _, Nat.zero_le _⟩ rfl (Nat.le_of_ble_eq_true rfl) dX0_endLoan_24) ?_
  rintro F' rfl
  refine q_vret C dX0_endLoan_27 ?_
  rfl

set_option maxRecDepth 100000 in
set_option maxHeartbeats 4000000 in
theorem k_X0_endLoansOf (l : Launch) {w : WP} {F : FF} {b : Nat} {x f : Int} (hb : IsB b) (hx : 0 ≤ x ∧ x < 16) (hL : LR F b) (hf : f = 0 ∨ f = 1) : Con l yX0_endLoansOf cX0_endLoansOf 3 none 2 w [.ref (adr w b), .int (iI x), .int (iI f)] F (QV w (fun F' => F' = elo F b x f)) := by
  refine Con.mk (lv := [(0, .ref (adr w b)), (1, .int (iI x)), (2, .int (iI f))]) (by decide) (Nat.le_of_ble_eq_true rfl) rfl ?_
  intro pg ev s0 mi be me co C hz
  refine q_aload_n C 0 dX0_endLoansOf_0 rfl ?_
  refine q_iload_n C 1 dX0_endLoansOf_1 rfl ?_
  refine q_cV (q_runV (As := [.int (iI x)]) (rest := []) C (k_X0_endLoan (F := F) (x := x) l hb ⟨by omega, by omega⟩ hL) hb.k0 (by decide) rfl wd_563 wd_561 wd_562 wd_14 wd_560 nd_X0_endLoan rfl (by decide) ⟨Nat.zero_le _, Nat.zero_le _⟩ rfl (Nat.le_of_ble_eq_true rfl) dX0_endLoansOf_2) ?_
  rintro F' rfl
  refine q_iload_n C 2 dX0_endLoansOf_5 rfl ?_
  refine q_if_eq C 21 dX0_endLoansOf_6 ⟨by omega, by omega⟩  (by decide) (fun h6 => ?_) (fun h6 => ?_)
  · refine q_vret C dX0_endLoansOf_21 ?_
    unfold elo; first | rw [if_pos (by omega)] | rw [if_neg (by omega)]
  · refine q_aload_n C 0 dX0_endLoansOf_9 rfl ?_
    refine q_aload_n C 0 dX0_endLoansOf_10 rfl ?_
    refine q_get (T := TX0) (i := 4) C hb.k0 (by decide) rfl uws0 (by decide) wd_47 rfl dX0_endLoansOf_11 ?_
    refine q_iload_n C 1 dX0_endLoansOf_14 rfl ?_
    refine q_cI (q_runSN (As := [.ref (adr w (b + 5)), .int (iI x)]) (rest := [.ref (adr w b)]) C (k_clr (x := x) l hb.k5 ⟨by omega, by omega⟩) wd_265 wd_264 wd_13 nw_263 nd_X3_cell rfl (by decide) ⟨Nat.zero_le _, Nat.zero_le _⟩ rfl (Nat.le_of_ble_eq_true rfl) dX0_endLoansOf_15) ?_
    rintro z F' ⟨rfl, rfl⟩
    have h5 := cl5 hb (hL.el (x := x) hb) x
    refine q_cV (q_runV (As := [.int (iI (cl (elF F b x) (b + 5) x))]) (rest := []) C (k_X0_endLoan (F := (elF F b x)) (x := cl (elF F b x) (b + 5) x) l hb ⟨by omega, by omega⟩ (hL.el hb)) hb.k0 (by decide) rfl wd_563 wd_561 wd_562 wd_14 wd_560 nd_X0_endLoan rfl (by decide) ⟨Nat.zero_le _, Nat.zero_le _⟩ rfl (Nat.le_of_ble_eq_true rfl) dX0_endLoansOf_18) ?_
    rintro F' rfl
    refine q_vret C dX0_endLoansOf_21 ?_
    unfold elo; first | rw [if_pos (by omega)] | rw [if_neg (by omega)]

set_option maxRecDepth 100000 in
set_option maxHeartbeats 4000000 in
theorem k_X0_insertWord (l : Launch) {w : WP} {F : FF} {b : Nat} {r : Rw} {x y q : Int} (hb : IsB b) (hB : BI F b r) (hx0 : 0 ≤ x ∧ x < 40) (hx : home r x = -1) (hy : 0 ≤ y ∧ y < 16) (hq : 0 ≤ q ∧ q ≤ r y) (hs : r y < 6) : Con l yX0_insertWord cX0_insertWord 6 none 3 w [.ref (adr w b), .int (iI x), .int (iI y), .int (iI q)] F (QV w (fun F' => BI F' b (ins r x y q) ∧ Fr F F' b)) := by
  refine Con.mk (lv := [(0, .ref (adr w b)), (1, .int (iI x)), (2, .int (iI y)), (3, .int (iI q))]) (by decide) (Nat.le_of_ble_eq_true rfl) rfl ?_
  intro pg ev s0 mi be me co C hz
  have hI := hB.iv
  have qs := hI.sz hy.1 hy.2
  refine q_aload_n C 0 dX0_insertWord_0 rfl ?_
  refine q_get (T := TX0) (i := 2) C hb.k0 (by decide) rfl uws0 (by decide) wd_45 rfl dX0_insertWord_1 ?_
  refine q_iload_n C 2 dX0_insertWord_4 rfl ?_
  refine q_cI (q_runSN (As := [.ref (adr w (b + 3)), .int (iI y)]) (rest := []) C (k_c3 l hb hB (x := y) ⟨by omega, by omega⟩) wd_265 wd_264 wd_13 nw_263 nd_X3_cell rfl (by decide) ⟨Nat.zero_le _, Nat.zero_le _⟩ rfl (Nat.le_of_ble_eq_true rfl) dX0_insertWord_5) ?_
  rintro z F' ⟨rfl, rfl⟩
  have q5 := hI.sz (l := y) (by omega) (by omega)
  refine q_istore (lv' := [(4, .int (iI (r y))), (0, .ref (adr w b)), (1, .int (iI x)), (2, .int (iI y)), (3, .int (iI q))]) C dX0_insertWord_8 (by decide) rfl ?_
  refine q_iload C 0 dX0_insertWord_10 rfl ?_
  refine q_istore (lv' := [(5, .int (iI (r y))), (4, .int (iI (r y))), (0, .ref (adr w b)), (1, .int (iI x)), (2, .int (iI y)), (3, .int (iI q))]) C dX0_insertWord_12 (by decide) rfl ?_
  refine q_lv (lv' := [(0, .ref (adr w b)), (1, .int (iI x)), (2, .int (iI y)), (3, .int (iI q)), (4, .int (iI (r y))), (5, .int (iI (r y)))]) [2, 3, 4, 5, 1, 0] rfl ?_
  refine wf2 (P := fun (i : Int) (G : FF) => Wq pg l ev _ s0 mi _ be me co _ w _ _ _ 14 [(0, .ref (adr w b)), (1, .int (iI x)), (2, .int (iI y)), (3, .int (iI q)), (4, .int (iI (r y))), (5, .int (iI i))] [] G) (I := fun (i : Int) (G : FF) => q ≤ i ∧ i ≤ r y ∧ G = shG F b y i (r y)) (μ := fun (i : Int) (G : FF) => (i - q).toNat) ?_ (r y) F (⟨by omega, by omega, sh_0⟩)
  intro i G hI' ih14
  (try dsimp only at hI'); (try dsimp only at ih14); (try dsimp only)
  obtain ⟨hi0, hi1, hG⟩ := hI'
  refine q_iload C 5 dX0_insertWord_14 rfl ?_
  refine q_iload_n C 3 dX0_insertWord_16 rfl ?_
  refine q_icmp_le C 42 dX0_insertWord_17 ⟨by omega, by omega⟩ ⟨by omega, by omega⟩ (by decide) (fun h17 => ?_) (fun h17 => ?_)
  · rw [show i = q by omega] at hG
    subst hG
    refine q_aload_n C 0 dX0_insertWord_42 rfl ?_
    refine q_iload_n C 2 dX0_insertWord_43 rfl ?_
    refine q_iload_n C 3 dX0_insertWord_44 rfl ?_
    refine q_iload_n C 1 dX0_insertWord_45 rfl ?_
    refine q_cV (q_runV (As := [.int (iI y), .int (iI q), .int (iI x)]) (rest := []) C (k_X0_setWordAt (F := (shG F b y q (r y))) (x := y) (p := q) (v := x) l hb ⟨by omega, by omega⟩ ⟨by omega, by omega⟩) hb.k0 (by decide) rfl wd_555 wd_553 wd_554 wd_14 wd_552 nd_X0_setWordAt rfl (by decide) ⟨Nat.zero_le _, Nat.zero_le _⟩ rfl (Nat.le_of_ble_eq_true rfl) dX0_insertWord_46) ?_
    rintro F' rfl
    refine q_aload_n C 0 dX0_insertWord_49 rfl ?_
    refine q_get (T := TX0) (i := 2) C hb.k0 (by decide) rfl uws0 (by decide) wd_45 rfl dX0_insertWord_50 ?_
    refine q_iload_n C 2 dX0_insertWord_53 rfl ?_
    refine q_iload C 4 dX0_insertWord_54 rfl ?_
    refine q_iconst C 1 dX0_insertWord_56 ?_
    refine q_iadd C dX0_insertWord_57 ?_
    refine q_cV (q_runSN (As := [.ref (adr w (b + 3)), .int (iI y), .int (iI ((r y) + 1))]) (rest := []) C (k_seti (F := (up (shG F b y q (r y)) (b + 2) (6 * y + q) x)) (x := y) (v := (r y) + 1) l hb.k3 hb.n3 ⟨by omega, by omega, by omega⟩) wd_42 wd_41 wd_13 nw_40 nd_X3_setCell rfl (by decide) ⟨Nat.zero_le _, Nat.zero_le _⟩ rfl (Nat.le_of_ble_eq_true rfl) dX0_insertWord_58) ?_
    rintro F' rfl
    refine q_aload_n C 0 dX0_insertWord_61 rfl ?_
    refine q_get (T := TX0) (i := 0) C hb.k0 (by decide) rfl uws0 (by decide) wd_43 rfl dX0_insertWord_62 ?_
    refine q_iload_n C 1 dX0_insertWord_65 rfl ?_
    refine q_iload_n C 2 dX0_insertWord_66 rfl ?_
    refine q_cV (q_runSN (As := [.ref (adr w (b + 1)), .int (iI x), .int (iI y)]) (rest := []) C (k_seti (F := (up (up (shG F b y q (r y)) (b + 2) (6 * y + q) x) (b + 3) y ((r y) + 1))) (x := x) (v := y) l hb.k1 hb.n1 ⟨by omega, by omega, by omega⟩) wd_42 wd_41 wd_13 nw_40 nd_X3_setCell rfl (by decide) ⟨Nat.zero_le _, Nat.zero_le _⟩ rfl (Nat.le_of_ble_eq_true rfl) dX0_insertWord_67) ?_
    rintro F' rfl
    refine q_aload_n C 0 dX0_insertWord_70 rfl ?_
    refine q_iload_n C 2 dX0_insertWord_71 rfl ?_
    refine q_iload_n C 3 dX0_insertWord_72 rfl ?_
    refine q_iload C 4 dX0_insertWord_73 rfl ?_
    refine q_icmp_ne C 82 dX0_insertWord_75 ⟨by omega, by omega⟩ ⟨by omega, by omega⟩ (by decide) (fun h75 => ?_) (fun h75 => ?_)
    · refine q_iconst C 0 dX0_insertWord_82 ?_
      refine q_cV (q_runV (As := [.int (iI y), .int (iI 0)]) (rest := []) C (k_X0_endLoansOf (F := (up (up (up (shG F b y q (r y)) (b + 2) (6 * y + q) x) (b + 3) y ((r y) + 1)) (b + 1) x y)) (x := y) (f := 0) l hb ⟨by omega, by omega⟩ ((((LR.of hB).sh.up (by omega) (by omega)).up (by omega) (by omega)).up (by omega) (by omega)) (by omega)) hb.k0 (by decide) rfl wd_559 wd_558 wd_10 wd_14 wd_556 nd_X0_endLoansOf rfl (by decide) ⟨Nat.zero_le _, Nat.zero_le _⟩ rfl (Nat.le_of_ble_eq_true rfl) dX0_insertWord_83) ?_
      rintro F' rfl
      refine q_vret C dX0_insertWord_86 ?_
      exact ⟨BI_ins hb hB hx0 hx hy hq hs (by omega), ((((Fr.sh (F := F)).up (by omega) (by omega)).up (by omega) (by omega)).up (by omega) (by omega)).elo⟩
    · refine q_iconst C 1 dX0_insertWord_78 ?_
      refine q_goto C 83 dX0_insertWord_79 (by decide) ?_
      refine q_cV (q_runV (As := [.int (iI y), .int (iI 1)]) (rest := []) C (k_X0_endLoansOf (F := (up (up (up (shG F b y q (r y)) (b + 2) (6 * y + q) x) (b + 3) y ((r y) + 1)) (b + 1) x y)) (x := y) (f := 1) l hb ⟨by omega, by omega⟩ ((((LR.of hB).sh.up (by omega) (by omega)).up (by omega) (by omega)).up (by omega) (by omega)) (by omega)) hb.k0 (by decide) rfl wd_559 wd_558 wd_10 wd_14 wd_556 nd_X0_endLoansOf rfl (by decide) ⟨Nat.zero_le _, Nat.zero_le _⟩ rfl (Nat.le_of_ble_eq_true rfl) dX0_insertWord_83) ?_
      rintro F' rfl
      refine q_vret C dX0_insertWord_86 ?_
      exact ⟨BI_ins hb hB hx0 hx hy hq hs (by omega), ((((Fr.sh (F := F)).up (by omega) (by omega)).up (by omega) (by omega)).up (by omega) (by omega)).elo⟩
  · refine q_aload_n C 0 dX0_insertWord_20 rfl ?_
    refine q_iload_n C 2 dX0_insertWord_21 rfl ?_
    refine q_iload C 5 dX0_insertWord_22 rfl ?_
    refine q_aload_n C 0 dX0_insertWord_24 rfl ?_
    refine q_iload_n C 2 dX0_insertWord_25 rfl ?_
    refine q_iload C 5 dX0_insertWord_26 rfl ?_
    refine q_iconst C 1 dX0_insertWord_28 ?_
    refine q_isub C dX0_insertWord_29 ?_
    refine q_cI (q_runV (As := [.int (iI y), .int (iI (i - 1))]) (rest := [.int (iI i), .int (iI y), .ref (adr w b)]) C (k_war (F := G) (x := y) (p := i - 1) l hb ⟨by omega, by omega⟩ ⟨by omega, by omega⟩) hb.k0 (by decide) rfl wd_282 wd_280 wd_281 wd_14 wd_279 nd_X0_wordAt rfl (by decide) ⟨Nat.zero_le _, Nat.zero_le _⟩ rfl (Nat.le_of_ble_eq_true rfl) dX0_insertWord_30) ?_
    rintro z F' ⟨rfl, rfl⟩
    refine q_cV (q_runV (As := [.int (iI y), .int (iI i), .int (iI (G (b + 2) (6 * y + (i - 1))))]) (rest := []) C (k_X0_setWordAt (F := G) (x := y) (p := i) (v := G (b + 2) (6 * y + (i - 1))) l hb ⟨by omega, by omega⟩ ⟨by omega, by omega⟩) hb.k0 (by decide) rfl wd_555 wd_553 wd_554 wd_14 wd_552 nd_X0_setWordAt rfl (by decide) ⟨Nat.zero_le _, Nat.zero_le _⟩ rfl (Nat.le_of_ble_eq_true rfl) dX0_insertWord_33) ?_
    rintro F' rfl
    refine q_iinc (lv' := [(5, .int (iI (i + (-1)))), (0, .ref (adr w b)), (1, .int (iI x)), (2, .int (iI y)), (3, .int (iI q)), (4, .int (iI (r y)))]) C 5 dX0_insertWord_36 rfl (by decide) rfl ?_
    refine q_goto C 14 dX0_insertWord_39 (by decide) ?_
    refine q_lv (lv' := [(0, .ref (adr w b)), (1, .int (iI x)), (2, .int (iI y)), (3, .int (iI q)), (4, .int (iI (r y))), (5, .int (iI (i + (-1))))]) [1, 2, 3, 4, 5, 0] rfl ?_
    exact ih14 (i + (-1)) (up G (b + 2) (6 * y + i) (G (b + 2) (6 * y + (i - 1)))) (⟨by omega, by omega, by rw [hG]; exact sh_s (by omega) (by omega)⟩) (by omega)

set_option maxRecDepth 100000 in
set_option maxHeartbeats 4000000 in
theorem k_X0_removeWord (l : Launch) {w : WP} {F : FF} {b : Nat} {r : Rw} {x : Int} (hb : IsB b) (hB : BI F b r) (hx0 : 0 ≤ x ∧ x < 40) (hx : home r x ≠ -1) : Con l yX0_removeWord cX0_removeWord 6 none 3 w [.ref (adr w b), .int (iI x)] F (QV w (fun F' => BI F' b (rem r (home r x) (plc r x)) ∧ Fr F F' b)) := by
  refine Con.mk (lv := [(0, .ref (adr w b)), (1, .int (iI x))]) (by decide) (Nat.le_of_ble_eq_true rfl) rfl ?_
  intro pg ev s0 mi be me co C hz
  have hI := hB.iv
  obtain ⟨hy0, hy1, hq0, hq1, hw⟩ := home_at hI hx
  have qs := hI.sz hy0 hy1
  refine q_aload_n C 0 dX0_removeWord_0 rfl ?_
  refine q_get (T := TX0) (i := 0) C hb.k0 (by decide) rfl uws0 (by decide) wd_43 rfl dX0_removeWord_1 ?_
  refine q_iload_n C 1 dX0_removeWord_4 rfl ?_
  refine q_cI (q_runSN (As := [.ref (adr w (b + 1)), .int (iI x)]) (rest := []) C (k_c1 l hb hB (x := x) ⟨by omega, by omega⟩) wd_265 wd_264 wd_13 nw_263 nd_X3_cell rfl (by decide) ⟨Nat.zero_le _, Nat.zero_le _⟩ rfl (Nat.le_of_ble_eq_true rfl) dX0_removeWord_5) ?_
  rintro z F' ⟨rfl, rfl⟩
  have q5 := home_range r x
  refine q_istore_n (lv' := [(2, .int (iI (home r x))), (0, .ref (adr w b)), (1, .int (iI x))]) C dX0_removeWord_8 (by decide) rfl ?_
  refine q_aload_n C 1 dX0_removeWord_9 rfl ?_
  refine q_iload_n C 2 dX0_removeWord_10 rfl ?_
  refine q_cI (q_runV (As := [.int (iI x)]) (rest := []) C (k_X0_placeOf l hb hB ⟨by omega, by omega⟩) hb.k0 (by decide) rfl wd_278 wd_276 wd_277 wd_14 wd_275 nd_X0_placeOf rfl (by decide) ⟨Nat.zero_le _, Nat.zero_le _⟩ rfl (Nat.le_of_ble_eq_true rfl) dX0_removeWord_11) ?_
  rintro z F' ⟨rfl, rfl⟩
  have q11 := plc_range hI (x := x)
  refine q_istore_n (lv' := [(3, .int (iI (plc r x))), (2, .int (iI (home r x))), (0, .ref (adr w b)), (1, .int (iI x))]) C dX0_removeWord_14 (by decide) rfl ?_
  refine q_iload_n C 0 dX0_removeWord_15 rfl ?_
  refine q_iconst C (-1) dX0_removeWord_16 ?_
  refine q_icmp_ne C 21 dX0_removeWord_17 ⟨by omega, by omega⟩ ⟨by decide, by decide⟩ (by decide) (fun h17 => ?_) (fun h17 => ?_)
  · refine q_aload_n C 2 dX0_removeWord_21 rfl ?_
    refine q_get (T := TX0) (i := 2) C hb.k0 (by decide) rfl uws0 (by decide) wd_45 rfl dX0_removeWord_22 ?_
    refine q_iload_n C 1 dX0_removeWord_25 rfl ?_
    refine q_cI (q_runSN (As := [.ref (adr w (b + 3)), .int (iI (home r x))]) (rest := []) C (k_c3 l hb hB (x := home r x) ⟨by omega, by omega⟩) wd_265 wd_264 wd_13 nw_263 nd_X3_cell rfl (by decide) ⟨Nat.zero_le _, Nat.zero_le _⟩ rfl (Nat.le_of_ble_eq_true rfl) dX0_removeWord_26) ?_
    rintro z F' ⟨rfl, rfl⟩
    have q26 := hI.sz (l := home r x) (by omega) (by omega)
    refine q_iconst C 1 dX0_removeWord_29 ?_
    refine q_isub C dX0_removeWord_30 ?_
    refine q_istore (lv' := [(4, .int (iI ((r (home r x)) - 1))), (3, .int (iI (plc r x))), (2, .int (iI (home r x))), (0, .ref (adr w b)), (1, .int (iI x))]) C dX0_removeWord_31 (by decide) rfl ?_
    refine q_iload_n C 1 dX0_removeWord_33 rfl ?_
    refine q_istore (lv' := [(5, .int (iI (plc r x))), (4, .int (iI ((r (home r x)) - 1))), (3, .int (iI (plc r x))), (2, .int (iI (home r x))), (0, .ref (adr w b)), (1, .int (iI x))]) C dX0_removeWord_34 (by decide) rfl ?_
    refine q_lv (lv' := [(0, .ref (adr w b)), (1, .int (iI x)), (2, .int (iI (home r x))), (3, .int (iI (plc r x))), (4, .int (iI ((r (home r x)) - 1))), (5, .int (iI (plc r x)))]) [4, 5, 3, 2, 1, 0] rfl ?_
    refine wf2 (P := fun (i : Int) (G : FF) => Wq pg l ev _ s0 mi _ be me co _ w _ _ _ 36 [(0, .ref (adr w b)), (1, .int (iI x)), (2, .int (iI (home r x))), (3, .int (iI (plc r x))), (4, .int (iI ((r (home r x)) - 1))), (5, .int (iI i))] [] G) (I := fun (i : Int) (G : FF) => plc r x ≤ i ∧ i ≤ r (home r x) - 1 ∧ G = sgG F b (home r x) (plc r x) i) (μ := fun (i : Int) (G : FF) => (r (home r x) - 1 - i).toNat) ?_ (plc r x) F (⟨by omega, by omega, sg_0⟩)
    intro i G hI' ih36
    (try dsimp only at hI'); (try dsimp only at ih36); (try dsimp only)
    obtain ⟨hi0, hi1, hG⟩ := hI'
    refine q_iload C 5 dX0_removeWord_36 rfl ?_
    refine q_iload C 4 dX0_removeWord_38 rfl ?_
    refine q_icmp_ge C 65 dX0_removeWord_40 ⟨by omega, by omega⟩ ⟨by omega, by omega⟩ (by decide) (fun h40 => ?_) (fun h40 => ?_)
    · rw [show i = r (home r x) - 1 by omega] at hG
      subst hG
      refine q_aload_n C 0 dX0_removeWord_65 rfl ?_
      refine q_iload_n C 2 dX0_removeWord_66 rfl ?_
      refine q_iload C 4 dX0_removeWord_67 rfl ?_
      refine q_iconst C (-1) dX0_removeWord_69 ?_
      refine q_cV (q_runV (As := [.int (iI (home r x)), .int (iI ((r (home r x)) - 1)), .int (iI (-1))]) (rest := []) C (k_X0_setWordAt (F := (sgG F b (home r x) (plc r x) (r (home r x) - 1))) (x := home r x) (p := (r (home r x)) - 1) (v := (-1)) l hb ⟨by omega, by omega⟩ ⟨by omega, by omega⟩) hb.k0 (by decide) rfl wd_555 wd_553 wd_554 wd_14 wd_552 nd_X0_setWordAt rfl (by decide) ⟨Nat.zero_le _, Nat.zero_le _⟩ rfl (Nat.le_of_ble_eq_true rfl) dX0_removeWord_70) ?_
      rintro F' rfl
      refine q_aload_n C 0 dX0_removeWord_73 rfl ?_
      refine q_get (T := TX0) (i := 2) C hb.k0 (by decide) rfl uws0 (by decide) wd_45 rfl dX0_removeWord_74 ?_
      refine q_iload_n C 2 dX0_removeWord_77 rfl ?_
      refine q_iload C 4 dX0_removeWord_78 rfl ?_
      refine q_cV (q_runSN (As := [.ref (adr w (b + 3)), .int (iI (home r x)), .int (iI ((r (home r x)) - 1))]) (rest := []) C (k_seti (F := (up (sgG F b (home r x) (plc r x) (r (home r x) - 1)) (b + 2) (6 * (home r x) + ((r (home r x)) - 1)) (-1))) (x := home r x) (v := (r (home r x)) - 1) l hb.k3 hb.n3 ⟨by omega, by omega, by omega⟩) wd_42 wd_41 wd_13 nw_40 nd_X3_setCell rfl (by decide) ⟨Nat.zero_le _, Nat.zero_le _⟩ rfl (Nat.le_of_ble_eq_true rfl) dX0_removeWord_80) ?_
      rintro F' rfl
      refine q_aload_n C 0 dX0_removeWord_83 rfl ?_
      refine q_get (T := TX0) (i := 0) C hb.k0 (by decide) rfl uws0 (by decide) wd_43 rfl dX0_removeWord_84 ?_
      refine q_iload_n C 1 dX0_removeWord_87 rfl ?_
      refine q_iconst C (-1) dX0_removeWord_88 ?_
      refine q_cV (q_runSN (As := [.ref (adr w (b + 1)), .int (iI x), .int (iI (-1))]) (rest := []) C (k_seti (F := (up (up (sgG F b (home r x) (plc r x) (r (home r x) - 1)) (b + 2) (6 * (home r x) + ((r (home r x)) - 1)) (-1)) (b + 3) (home r x) ((r (home r x)) - 1))) (x := x) (v := (-1)) l hb.k1 hb.n1 ⟨by omega, by omega, by omega⟩) wd_42 wd_41 wd_13 nw_40 nd_X3_setCell rfl (by decide) ⟨Nat.zero_le _, Nat.zero_le _⟩ rfl (Nat.le_of_ble_eq_true rfl) dX0_removeWord_89) ?_
      rintro F' rfl
      refine q_aload_n C 0 dX0_removeWord_92 rfl ?_
      refine q_iload_n C 2 dX0_removeWord_93 rfl ?_
      refine q_iload_n C 3 dX0_removeWord_94 rfl ?_
      refine q_iload C 4 dX0_removeWord_95 rfl ?_
      refine q_icmp_ne C 104 dX0_removeWord_97 ⟨by omega, by omega⟩ ⟨by omega, by omega⟩ (by decide) (fun h97 => ?_) (fun h97 => ?_)
      · refine q_iconst C 0 dX0_removeWord_104 ?_
        refine q_cV (q_runV (As := [.int (iI (home r x)), .int (iI 0)]) (rest := []) C (k_X0_endLoansOf (F := (up (up (up (sgG F b (home r x) (plc r x) (r (home r x) - 1)) (b + 2) (6 * (home r x) + ((r (home r x)) - 1)) (-1)) (b + 3) (home r x) ((r (home r x)) - 1)) (b + 1) x (-1))) (x := home r x) (f := 0) l hb ⟨by omega, by omega⟩ ((((LR.of hB).sg.up (by omega) (by omega)).up (by omega) (by omega)).up (by omega) (by omega)) (by omega)) hb.k0 (by decide) rfl wd_559 wd_558 wd_10 wd_14 wd_556 nd_X0_endLoansOf rfl (by decide) ⟨Nat.zero_le _, Nat.zero_le _⟩ rfl (Nat.le_of_ble_eq_true rfl) dX0_removeWord_105) ?_
        rintro F' rfl
        refine q_vret C dX0_removeWord_108 ?_
        have hBr := BI_rem (f := 0) hb hB ⟨hy0, hy1⟩ ⟨hq0, hq1⟩ (by omega)
        rw [hw] at hBr
        exact ⟨hBr, ((((Fr.sg (F := F)).up (by omega) (by omega)).up (by omega) (by omega)).up (by omega) (by omega)).elo⟩
      · refine q_iconst C 1 dX0_removeWord_100 ?_
        refine q_goto C 105 dX0_removeWord_101 (by decide) ?_
        refine q_cV (q_runV (As := [.int (iI (home r x)), .int (iI 1)]) (rest := []) C (k_X0_endLoansOf (F := (up (up (up (sgG F b (home r x) (plc r x) (r (home r x) - 1)) (b + 2) (6 * (home r x) + ((r (home r x)) - 1)) (-1)) (b + 3) (home r x) ((r (home r x)) - 1)) (b + 1) x (-1))) (x := home r x) (f := 1) l hb ⟨by omega, by omega⟩ ((((LR.of hB).sg.up (by omega) (by omega)).up (by omega) (by omega)).up (by omega) (by omega)) (by omega)) hb.k0 (by decide) rfl wd_559 wd_558 wd_10 wd_14 wd_556 nd_X0_endLoansOf rfl (by decide) ⟨Nat.zero_le _, Nat.zero_le _⟩ rfl (Nat.le_of_ble_eq_true rfl) dX0_removeWord_105) ?_
        rintro F' rfl
        refine q_vret C dX0_removeWord_108 ?_
        have hBr := BI_rem (f := 1) hb hB ⟨hy0, hy1⟩ ⟨hq0, hq1⟩ (by omega)
        rw [hw] at hBr
        exact ⟨hBr, ((((Fr.sg (F := F)).up (by omega) (by omega)).up (by omega) (by omega)).up (by omega) (by omega)).elo⟩
    · refine q_aload_n C 0 dX0_removeWord_43 rfl ?_
      refine q_iload_n C 2 dX0_removeWord_44 rfl ?_
      refine q_iload C 5 dX0_removeWord_45 rfl ?_
      refine q_aload_n C 0 dX0_removeWord_47 rfl ?_
      refine q_iload_n C 2 dX0_removeWord_48 rfl ?_
      refine q_iload C 5 dX0_removeWord_49 rfl ?_
      refine q_iconst C 1 dX0_removeWord_51 ?_
      refine q_iadd C dX0_removeWord_52 ?_
      refine q_cI (q_runV (As := [.int (iI (home r x)), .int (iI (i + 1))]) (rest := [.int (iI i), .int (iI (home r x)), .ref (adr w b)]) C (k_war (F := G) (x := home r x) (p := i + 1) l hb ⟨by omega, by omega⟩ ⟨by omega, by omega⟩) hb.k0 (by decide) rfl wd_282 wd_280 wd_281 wd_14 wd_279 nd_X0_wordAt rfl (by decide) ⟨Nat.zero_le _, Nat.zero_le _⟩ rfl (Nat.le_of_ble_eq_true rfl) dX0_removeWord_53) ?_
      rintro z F' ⟨rfl, rfl⟩
      refine q_cV (q_runV (As := [.int (iI (home r x)), .int (iI i), .int (iI (G (b + 2) (6 * (home r x) + (i + 1))))]) (rest := []) C (k_X0_setWordAt (F := G) (x := home r x) (p := i) (v := G (b + 2) (6 * (home r x) + (i + 1))) l hb ⟨by omega, by omega⟩ ⟨by omega, by omega⟩) hb.k0 (by decide) rfl wd_555 wd_553 wd_554 wd_14 wd_552 nd_X0_setWordAt rfl (by decide) ⟨Nat.zero_le _, Nat.zero_le _⟩ rfl (Nat.le_of_ble_eq_true rfl) dX0_removeWord_56) ?_
      rintro F' rfl
      refine q_iinc (lv' := [(5, .int (iI (i + 1))), (0, .ref (adr w b)), (1, .int (iI x)), (2, .int (iI (home r x))), (3, .int (iI (plc r x))), (4, .int (iI ((r (home r x)) - 1)))]) C 5 dX0_removeWord_59 rfl (by decide) rfl ?_
      refine q_goto C 36 dX0_removeWord_62 (by decide) ?_
      refine q_lv (lv' := [(0, .ref (adr w b)), (1, .int (iI x)), (2, .int (iI (home r x))), (3, .int (iI (plc r x))), (4, .int (iI ((r (home r x)) - 1))), (5, .int (iI (i + 1)))]) [1, 2, 3, 4, 5, 0] rfl ?_
      exact ih36 (i + 1) (up G (b + 2) (6 * (home r x) + i) (G (b + 2) (6 * (home r x) + (i + 1)))) (⟨by omega, by omega, by rw [hG]; exact sg_s (by omega) (by omega)⟩) (by omega)
  · refine q_vret C dX0_removeWord_20 ?_
    exact absurd (show plc r x = -1 by assumption) (by omega)
