/-! slots, undoing, numbers, shares -/
theorem CJ.kee {F G G' : FF} {A : AS} {k : Int} (h : CJ F G A) (hk : 0 ≤ k ∧ k < 2) (hB : BI G' (sp k) A.r) (hf : Fr G G' (sp k)) : CJ F (up G' 84 k 1) (A.kee k) := by
  obtain ⟨⟨h1, h2, h3, h4, h5, h6⟩, hC⟩ := h
  have hsp : sp k = 90 + 10 * k.toNat := rfl
  refine ⟨⟨h1.keep (fun q a c => by rw [up_k (by omega)]; exact hf q (by omega)), h2.keep (fun q a c => by rw [up_k (by omega)]; exact hf q (by omega)), fun j a c => ?_, by rw [up_k (by omega), hf 0 (by omega)]; exact h4, fun i a c => by rw [up_k (by omega), hf 85 (by omega)]; exact h5 i a c, h6.1, h6.2.1, fun j a c e => ?_, h6.2.2.2⟩, fun q a => by rw [up_k (by omega)]; exact (hf q (by omega)).trans (hC q a)⟩
  · show up G' 84 k 1 84 j = (if j = k then 1 else A.kp j) ∧ ((if j = k then 1 else A.kp j) = 0 ∨ (if j = k then 1 else A.kp j) = 1) ∧ ((if j = k then 1 else A.kp j) = 1 → BI (up G' 84 k 1) (sp j) (if j = k then A.r else A.sl j))
    by_cases q : j = k
    · subst q
      rw [if_pos rfl, if_pos rfl, up_eq]
      exact ⟨rfl, Or.inr rfl, fun _ => hB.keep (fun q a c => up_k (by omega))⟩
    · obtain ⟨g1, g2, g3⟩ := h3 j a c
      have hsj : sp j = 90 + 10 * j.toNat := rfl
      rw [if_neg q, if_neg q, up_j q, hf 84 (by omega)]
      exact ⟨g1, g2, fun e => (g3 e).keep (fun q a c => by rw [up_k (by omega)]; exact hf q (by omega))⟩
  · have e2 : (if j = k then 1 else A.kp j) = 1 := e
    show nb (if j = k then A.r else A.sl j)
    by_cases q : j = k
    · rw [if_pos q]; exact h6.1
    · rw [if_neg q] at e2 ⊢; exact h6.2.2.1 j a c e2
theorem CJ.und {F G G' : FF} {A : AS} (h : CJ F G A) (hn : 1 ≤ A.n) (hH : HI G' (A.n - 1) A.sv) (hB : BI G' 1 (A.sv (A.n - 1))) (hf : ∀ k, 10 < k → k ≠ 21 → G' k = G k) (hf0 : G' 0 = G 0) : CJ F G' A.und := by
  obtain ⟨⟨h1, h2, h3, h4, h5, h6⟩, hC⟩ := h
  refine ⟨⟨hB, hH, fun k a c => ?_, by rw [hf0]; exact h4, fun i a c => by rw [hf 85 (by omega) (by omega)]; exact h5 i a c, h6.2.1 (A.n - 1) (by omega) (by omega), fun k a c => h6.2.1 k a (by have c2 : k < A.n - 1 := c; omega), h6.2.2.1, h6.2.2.2⟩, fun k a => (hf k (by omega) (by omega)).trans (hC k a)⟩
  obtain ⟨g1, g2, g3⟩ := h3 k a c
  refine ⟨by rw [hf 84 (by omega) (by omega)]; exact g1, g2, fun e => (g3 e).keep (fun q q1 q2 => ?_)⟩
  unfold sp at q1 q2
  exact hf q (by omega) (by omega)
theorem q_ltop {p : Program} {l : Launch} {e : Env} {R : Room} {s : State} {m : MethodId} {args : Array Value} {below : List Frame} {meth : Method} {c : Code} {Qf : State → Prop} {w : WP} {k n nL pc : Nat} {lv : List (Nat × Value)} {st : List Value} {F : FF} {z z' : Int} (h : iL z = iL z') (kk : Wq p l e R s m args below meth c Qf w k n nL pc lv (.long (iL z') :: st) F) : Wq p l e R s m args below meth c Qf w k n nL pc lv (.long (iL z) :: st) F := by
  rw [h]; exact kk
theorem sh_n9 {x : Int} (h0 : 0 ≤ x) (h1 : x ≤ 40) : vf_n64 (Jvm.FP.ddiv (Jvm.FP.i2d (iI x)) 4630826316843712512) := by
  have := sh_n x.toNat (List.mem_range.mpr (by omega))
  rw [Int.toNat_of_nonneg h0] at this; exact this
theorem sh_at {P : Int → Prop} (h : ∀ x ∈ List.range 40, P ((x : Int) + 1)) {x : Int} (hx : 1 ≤ x ∧ x ≤ 40) : P x := by
  have := h (x - 1).toNat (List.mem_range.mpr (by omega))
  rw [show (((x - 1).toNat : Nat) : Int) + 1 = x by omega] at this; exact this
theorem shK_le (x : Int) : shK x ≤ 6 := by unfold shK; (repeat' split) <;> omega
theorem sh_c0b {x : Int} (hx : 1 ≤ x ∧ x ≤ 40) : Jvm.Op.cmpValue (Jvm.FP.dcmp (shr x) Jvm.FP.dconst0) .g = iI 1 := sh_at (P := fun x => Jvm.Op.cmpValue (Jvm.FP.dcmp (shr x) Jvm.FP.dconst0) .g = iI 1) sh_c0 hx
theorem sh_lt9 {x i : Int} (hx : 1 ≤ x ∧ x ≤ 40) (hi : 0 ≤ i ∧ i < shK x) : Jvm.Op.cmpValue (Jvm.FP.dcmp (dbl (shr x) i.toNat) Jvm.FP.dconst1) .g = iI (-1) ∧ vf_n64 (Jvm.FP.dmul (dbl (shr x) i.toNat) 4611686018427387904) :=
  sh_at (P := fun x => ∀ i ∈ List.range (shK x), Jvm.Op.cmpValue (Jvm.FP.dcmp (dbl (shr x) i) Jvm.FP.dconst1) .g = iI (-1) ∧ vf_n64 (dbl (shr x) (i + 1))) sh_lt hx i.toNat (List.mem_range.mpr (by omega))
theorem sh_ge9 {x : Int} (hx : 1 ≤ x ∧ x ≤ 40) : (Jvm.Op.cmpValue (Jvm.FP.dcmp (dbl (shr x) (shK x)) Jvm.FP.dconst1) .g = iI 0 ∨ Jvm.Op.cmpValue (Jvm.FP.dcmp (dbl (shr x) (shK x)) Jvm.FP.dconst1) .g = iI 1) ∧ vf_n64 (Jvm.FP.dsub (dbl (shr x) (shK x)) Jvm.FP.dconst1) ∧ vf_n64 (shM x) :=
  sh_at (P := fun x => (Jvm.Op.cmpValue (Jvm.FP.dcmp (dbl (shr x) (shK x)) Jvm.FP.dconst1) .g = iI 0 ∨ Jvm.Op.cmpValue (Jvm.FP.dcmp (dbl (shr x) (shK x)) Jvm.FP.dconst1) .g = iI 1) ∧ vf_n64 (Jvm.FP.dsub (dbl (shr x) (shK x)) Jvm.FP.dconst1) ∧ vf_n64 (shM x)) sh_ge hx
theorem sh_cases {x i : Int} (hx : 1 ≤ x ∧ x ≤ 40) (h0 : 0 ≤ i) (h1 : i ≤ shK x) : i < shK x ∨ (i.toNat = shK x ∧ Jvm.Op.cmpValue (Jvm.FP.dcmp (dbl (shr x) (shK x)) Jvm.FP.dconst1) .g = iI 0) ∨ (i.toNat = shK x ∧ Jvm.Op.cmpValue (Jvm.FP.dcmp (dbl (shr x) (shK x)) Jvm.FP.dconst1) .g = iI 1) := by
  by_cases q : i < shK x
  · exact Or.inl q
  · right
    rcases (sh_ge9 hx).1 with g | g
    · left; exact ⟨by omega, g⟩
    · right; exact ⟨by omega, g⟩
theorem sh_fin {x i e : Int} {v : UInt64} (hx : 1 ≤ x ∧ x ≤ 40) (h0 : 0 ≤ i) (hv : v = dbl (shr x) i.toNat) (hq : i.toNat = shK x) (he : e = 1023 - i) : iL (e * 4503599627370496 + (Jvm.FP.d2l (Jvm.FP.dmul (Jvm.FP.dsub v Jvm.FP.dconst1) 4841369599423283200)).toInt) = iL (shB x) := by
  have h := sh_at (P := fun x => iL ((1023 - (shK x : Int)) * 4503599627370496) + Jvm.FP.d2l (shM x) = iL (shB x)) sh_end hx
  rw [hv, hq, show e = 1023 - (shK x : Int) by omega, ← iL_add]
  have e3 : iL (Jvm.FP.d2l (Jvm.FP.dmul (Jvm.FP.dsub (dbl (shr x) (shK x)) Jvm.FP.dconst1) 4841369599423283200)).toInt = Jvm.FP.d2l (shM x) := Int64.ofInt_toInt _
  rw [e3]; exact h
theorem shz0 : iL 0 = iL (shB 0) := by decide +kernel

set_option maxRecDepth 100000 in
set_option maxHeartbeats 4000000 in
theorem k_X3_keep (l : Launch) (hl : l.stackTraces = false) {w : WP} {F : FF} {A : AS} {k : Int} (hA : CI F A) (hk : inR k) : ConX l yX3_keep cX3_keep 3 (some .int) 6 w [.ref (adr w 0), .int (iI k)] F (QI w (fun z F' => keepT A k = 0 ∧ z = keepZ A k ∧ CJ F F' (keepN A k))) (keepX F A k) := by
  refine ConX.mk (lv := [(0, .ref (adr w 0)), (1, .int (iI k))]) (by decide) (Nat.le_of_ble_eq_true rfl) rfl ?_
  intro pg ev s0 mi be me co C hex hz
  have hB := hA.b
  have hI := hB.iv
  have hJ := CJ.refl hA
  have hv := hA.v.2.2.2.1
  obtain ⟨hk1, hk2⟩ := id hk
  refine q_iload_n C 1 dX3_keep_0 rfl ?_
  refine q_cI (q_runS (As := [.int (iI k)]) (rest := []) C (k_X3_isSlot l (x := k) ⟨by omega, by omega⟩) wd_769 wd_768 wd_77 wd_767 nd_X3_isSlot rfl (by decide) ⟨Nat.zero_le _, Nat.zero_le _⟩ rfl (Nat.le_of_ble_eq_true rfl) dX3_keep_1) ?_
  rintro z F' ⟨⟨rfl, hq1⟩ | ⟨rfl, hq1⟩, rfl⟩
  · refine q_if_ne C 17 dX3_keep_4 ⟨by decide, by decide⟩  (by decide) (fun _ => ?_) (fun h => absurd h (by decide))
    have hsp := sp_B (k := k) ⟨by omega, by omega⟩
    refine q_aload_n C 0 dX3_keep_17 rfl ?_
    refine q_get (T := TX3) (i := 3) C kd0 (by decide) rfl uws3 (by decide) wd_207 rfl dX3_keep_18 ?_
    refine q_iload_n C 1 dX3_keep_21 rfl ?_
    refine q_aldq (t := (sp k)) C kd83 ⟨by omega, by rw [ln83]; omega⟩ (gA_sp ⟨by omega, by omega⟩) dX3_keep_22 ?_
    refine q_astore_n (lv' := [(2, .ref (adr w (sp k))), (0, .ref (adr w 0)), (1, .int (iI k))]) C dX3_keep_23 (by decide) rfl ?_
    refine q_aload_n C 0 dX3_keep_24 rfl ?_
    refine q_ifnull C dX3_keep_25 ?_
    refine q_aload_n C 0 dX3_keep_28 rfl ?_
    refine q_aload_n C 1 dX3_keep_29 rfl ?_
    refine q_get (T := TX3) (i := 0) C kd0 (by decide) rfl uws3 (by decide) wd_204 rfl dX3_keep_30 ?_
    refine q_cV (q_runV (As := [.ref (adr w 1)]) (rest := []) C (k_X0_copyFrom (F := F) (b := sp k) (o := 1) (r := A.r) l hsp hb1 (by unfold sp; omega) hB) hsp.k0 (by decide) rfl wd_345 wd_343 wd_344 wd_78 wd_342 nd_X0_copyFrom rfl (by decide) ⟨Nat.zero_le _, Nat.zero_le _⟩ rfl (Nat.le_of_ble_eq_true rfl) dX3_keep_33) ?_
    rintro G1 ⟨hE1, hf1⟩
    refine q_aload_n C 1 dX3_keep_36 rfl ?_
    refine q_get (T := TX3) (i := 4) C kd0 (by decide) rfl uws3 (by decide) wd_208 rfl dX3_keep_37 ?_
    refine q_iload_n C 2 dX3_keep_40 rfl ?_
    refine q_iconst C 1 dX3_keep_41 ?_
    refine q_zast C kd84 ⟨by omega, by rw [ln84]; omega⟩ (by omega) dX3_keep_42 ?_
    have hJ2 := hJ.kee ⟨by omega, by omega⟩ hE1 hf1
    have hB2 : BI (up G1 84 k 1) 1 A.r := hJ2.1.b
    refine q_aload_n C 1 dX3_keep_43 rfl ?_
    refine q_get (T := TX3) (i := 0) C kd0 (by decide) rfl uws3 (by decide) wd_204 rfl dX3_keep_44 ?_
    refine q_cI (q_runV (As := []) (rest := []) C (k_X0_bagToldByWords l hb1 hB2 ) hb1.k0 (by decide) rfl wd_336 wd_334 wd_335 wd_78 wd_333 nd_X0_bagToldByWords rfl (by decide) ⟨Nat.zero_le _, Nat.zero_le _⟩ rfl (Nat.le_of_ble_eq_true rfl) dX3_keep_47) ?_
    rintro z F' ⟨rfl, rfl⟩
    have q47 := bg_range hI
    refine q_xiret C ⟨Nat.zero_le _, Nat.zero_le _⟩ dX3_keep_50 ?_
    exact ⟨(by unfold keepT; rw [if_neg (by omega)]), rfl, hJ2⟩
  · refine q_if_ne C 17 dX3_keep_4 ⟨by decide, by decide⟩  (by decide) (fun h => absurd h (by decide)) (fun _ => ?_)
    refine q_throw (text := "slot is out of range") C hl hex ex_iae (by decide +kernel) dX3_keep_7 dX3_keep_10 dX3_keep_11 dX3_keep_13 dX3_keep_16 (by decide) ?_
    exact ⟨⟨rfl, (by unfold keepT; rw [if_pos (by omega)])⟩, hJ⟩

set_option maxRecDepth 100000 in
set_option maxHeartbeats 4000000 in
theorem k_X3_goBack (l : Launch) (hl : l.stackTraces = false) {w : WP} {F : FF} {A : AS} {k : Int} (hA : CI F A) (hk : inR k) : ConX l yX3_goBack cX3_goBack 3 (some .int) 6 w [.ref (adr w 0), .int (iI k)] F (QI w (fun z F' => goBackT A k = 0 ∧ z = goBackZ A k ∧ CJ F F' (goBackN A k))) (goBackX F A k) := by
  refine ConX.mk (lv := [(0, .ref (adr w 0)), (1, .int (iI k))]) (by decide) (Nat.le_of_ble_eq_true rfl) rfl ?_
  intro pg ev s0 mi be me co C hex hz
  have hB := hA.b
  have hI := hB.iv
  have hJ := CJ.refl hA
  have hv := hA.v.2.2.2.1
  obtain ⟨hk1, hk2⟩ := id hk
  refine q_iload_n C 1 dX3_goBack_0 rfl ?_
  refine q_cI (q_runS (As := [.int (iI k)]) (rest := []) C (k_X3_isSlot l (x := k) ⟨by omega, by omega⟩) wd_769 wd_768 wd_77 wd_767 nd_X3_isSlot rfl (by decide) ⟨Nat.zero_le _, Nat.zero_le _⟩ rfl (Nat.le_of_ble_eq_true rfl) dX3_goBack_1) ?_
  rintro z F' ⟨⟨rfl, hq1⟩ | ⟨rfl, hq1⟩, rfl⟩
  · refine q_if_ne C 17 dX3_goBack_4 ⟨by decide, by decide⟩  (by decide) (fun _ => ?_) (fun h => absurd h (by decide))
    have hsp := sp_B (k := k) ⟨by omega, by omega⟩
    refine q_aload_n C 0 dX3_goBack_17 rfl ?_
    refine q_get (T := TX3) (i := 3) C kd0 (by decide) rfl uws3 (by decide) wd_207 rfl dX3_goBack_18 ?_
    refine q_iload_n C 1 dX3_goBack_21 rfl ?_
    refine q_aldq (t := (sp k)) C kd83 ⟨by omega, by rw [ln83]; omega⟩ (gA_sp ⟨by omega, by omega⟩) dX3_goBack_22 ?_
    refine q_astore_n (lv' := [(2, .ref (adr w (sp k))), (0, .ref (adr w 0)), (1, .int (iI k))]) C dX3_goBack_23 (by decide) rfl ?_
    refine q_aload_n C 0 dX3_goBack_24 rfl ?_
    refine q_ifnull C dX3_goBack_25 ?_
    refine q_aload_n C 1 dX3_goBack_28 rfl ?_
    refine q_get (T := TX3) (i := 4) C kd0 (by decide) rfl uws3 (by decide) wd_208 rfl dX3_goBack_29 ?_
    refine q_iload_n C 2 dX3_goBack_32 rfl ?_
    refine q_zald C kd84 ⟨by omega, by rw [ln84]; omega⟩ dX3_goBack_33 ?_
    obtain ⟨hk84, hk01, hk9⟩ := hA.k (k := k) (by omega) (by omega)
    rw [hk84]
    refine q_if_ne C 47 dX3_goBack_34 ⟨by omega, by omega⟩  (by decide) (fun h34 => ?_) (fun h34 => ?_)
    · have hk1 : A.kp k = 1 := by omega
      refine q_aload_n C 1 dX3_goBack_47 rfl ?_
      refine q_get (T := TX3) (i := 2) C kd0 (by decide) rfl uws3 (by decide) wd_206 rfl dX3_goBack_48 ?_
      refine q_aload_n C 1 dX3_goBack_51 rfl ?_
      refine q_get (T := TX3) (i := 0) C kd0 (by decide) rfl uws3 (by decide) wd_204 rfl dX3_goBack_52 ?_
      refine q_cV (q_runV (As := [.ref (adr w 1)]) (rest := []) C (k_X1_save l (hJ).1.h (hJ).1.b) kd21 (by decide) rfl wd_580 wd_578 wd_579 wd_79 wd_577 nd_X1_save rfl (by decide) ⟨Nat.zero_le _, Nat.zero_le _⟩ rfl (Nat.le_of_ble_eq_true rfl) dX3_goBack_55) ?_
      rintro G1 ⟨hHG1, hfG1⟩
      have hJG1 := (hJ).sav hHG1 hfG1
      have hBG1 : BI G1 1 A.r := hJG1.1.b
      refine q_aload_n C 1 dX3_goBack_58 rfl ?_
      refine q_get (T := TX3) (i := 0) C kd0 (by decide) rfl uws3 (by decide) wd_204 rfl dX3_goBack_59 ?_
      refine q_aload_n C 0 dX3_goBack_62 rfl ?_
      refine q_cV (q_runV (As := [.ref (adr w (sp k))]) (rest := []) C (k_X0_copyFrom (F := G1) (b := 1) (o := sp k) (r := A.sl k) l hb1 hsp (by unfold sp; omega) (((hJG1).1.k (k := k) (by omega) (by omega)).2.2 hk1)) hb1.k0 (by decide) rfl wd_345 wd_343 wd_344 wd_78 wd_342 nd_X0_copyFrom rfl (by decide) ⟨Nat.zero_le _, Nat.zero_le _⟩ rfl (Nat.le_of_ble_eq_true rfl) dX3_goBack_63) ?_
      rintro G2 ⟨hE2, hf2⟩
      have hJ2 := (hJG1).wr hE2 hf2 (hA.v.2.2.1 k (by omega) (by omega) hk1)
      have hIs := hE2.iv
      refine q_aload_n C 1 dX3_goBack_66 rfl ?_
      refine q_get (T := TX3) (i := 0) C kd0 (by decide) rfl uws3 (by decide) wd_204 rfl dX3_goBack_67 ?_
      refine q_cI (q_runV (As := []) (rest := []) C (k_X0_bagToldByWords l hb1 hE2 ) hb1.k0 (by decide) rfl wd_336 wd_334 wd_335 wd_78 wd_333 nd_X0_bagToldByWords rfl (by decide) ⟨Nat.zero_le _, Nat.zero_le _⟩ rfl (Nat.le_of_ble_eq_true rfl) dX3_goBack_70) ?_
      rintro z F' ⟨rfl, rfl⟩
      have q70 := bg_range hIs
      refine q_xiret C ⟨Nat.zero_le _, Nat.zero_le _⟩ dX3_goBack_73 ?_
      exact ⟨(by unfold goBackT; rw [if_neg (by omega), if_neg (by omega)]), rfl, hJ2⟩
    · refine q_throw (text := "there is no snapshot in the slot") C hl hex ex_ise (by decide +kernel) dX3_goBack_37 dX3_goBack_40 dX3_goBack_41 dX3_goBack_43 dX3_goBack_46 (by decide) ?_
      exact ⟨Or.inr (⟨rfl, (by unfold goBackT; rw [if_neg (by omega), if_pos (by omega)])⟩), hJ⟩
  · refine q_if_ne C 17 dX3_goBack_4 ⟨by decide, by decide⟩  (by decide) (fun h => absurd h (by decide)) (fun _ => ?_)
    refine q_throw (text := "slot is out of range") C hl hex ex_iae (by decide +kernel) dX3_goBack_7 dX3_goBack_10 dX3_goBack_11 dX3_goBack_13 dX3_goBack_16 (by decide) ?_
    exact ⟨Or.inl ⟨rfl, (by unfold goBackT; rw [if_pos (by omega)])⟩, hJ⟩

set_option maxRecDepth 100000 in
set_option maxHeartbeats 4000000 in
theorem k_X3_undo (l : Launch) (hl : l.stackTraces = false) {w : WP} {F : FF} {A : AS} (hA : CI F A)  : ConX l yX3_undo cX3_undo 1 (some .int) 6 w [.ref (adr w 0)] F (QI w (fun z F' => undoT A = 0 ∧ z = undoZ A ∧ CJ F F' (undoN A))) (undoX F A) := by
  refine ConX.mk (lv := [(0, .ref (adr w 0))]) (by decide) (Nat.le_of_ble_eq_true rfl) rfl ?_
  intro pg ev s0 mi be me co C hex hz
  have hB := hA.b
  have hI := hB.iv
  have hJ := CJ.refl hA
  have hv := hA.v.2.2.2.1
  refine q_aload_n C 0 dX3_undo_0 rfl ?_
  refine q_get (T := TX3) (i := 2) C kd0 (by decide) rfl uws3 (by decide) wd_206 rfl dX3_undo_1 ?_
  refine q_getN (T := TX1) (i := 2) C kd21 (by decide) rfl uws1 (by decide) nw_166 rfl dX3_undo_4 ?_
  rw [show F 21 2 = A.n from hA.h.1]
  have hn06 := hA.h.2.1
  refine q_iconst C 1 dX3_undo_7 ?_
  refine q_icmp_ge C 21 dX3_undo_8 ⟨by omega, by omega⟩ ⟨by decide, by decide⟩ (by decide) (fun h8 => ?_) (fun h8 => ?_)
  · refine q_aload_n C 0 dX3_undo_21 rfl ?_
    refine q_get (T := TX3) (i := 2) C kd0 (by decide) rfl uws3 (by decide) wd_206 rfl dX3_undo_22 ?_
    refine q_aload_n C 0 dX3_undo_25 rfl ?_
    refine q_get (T := TX3) (i := 0) C kd0 (by decide) rfl uws3 (by decide) wd_204 rfl dX3_undo_26 ?_
    refine q_cV (q_runV (As := [.ref (adr w 1)]) (rest := []) C (k_X1_restore l hA.h (by omega)) kd21 (by decide) rfl wd_790 wd_788 wd_789 wd_79 wd_787 nd_X1_restore rfl (by decide) ⟨Nat.zero_le _, Nat.zero_le _⟩ rfl (Nat.le_of_ble_eq_true rfl) dX3_undo_29) ?_
    rintro G1 ⟨hH1, hE1, hf1, hf0⟩
    have hJ1 := hJ.und (by omega) hH1 hE1 hf1 hf0
    refine q_aload_n C 0 dX3_undo_32 rfl ?_
    refine q_get (T := TX3) (i := 2) C kd0 (by decide) rfl uws3 (by decide) wd_206 rfl dX3_undo_33 ?_
    refine q_getN (T := TX1) (i := 2) C kd21 (by decide) rfl uws1 (by decide) nw_166 rfl dX3_undo_36 ?_
    rw [show G1 21 2 = A.n - 1 from hH1.1]
    refine q_xiret C ⟨Nat.zero_le _, Nat.zero_le _⟩ dX3_undo_39 ?_
    exact ⟨(by unfold undoT; rw [if_neg (by omega)]), rfl, hJ1⟩
  · refine q_throw (text := "there is no saved state") C hl hex ex_ise (by decide +kernel) dX3_undo_11 dX3_undo_14 dX3_undo_15 dX3_undo_17 dX3_undo_20 (by decide) ?_
    exact ⟨⟨rfl, (by unfold undoT; rw [if_pos (by omega)])⟩, hJ⟩

set_option maxRecDepth 100000 in
set_option maxHeartbeats 4000000 in
theorem k_X3_numberOf (l : Launch) {w : WP} {F : FF} {A : AS} {k : Int} (hA : CI F A) (hk : 0 ≤ k ∧ k < 9) : Con l yX3_numberOf cX3_numberOf 2 (some .int) 5 w [.ref (adr w 0), .int (iI k)] F (QI w (fun z F' => z = cntv A k ∧ F = F')) := by
  refine Con.mk (lv := [(0, .ref (adr w 0)), (1, .int (iI k))]) (by decide) (Nat.le_of_ble_eq_true rfl) rfl ?_
  intro pg ev s0 mi be me co C hz
  have hB := hA.b
  have hI := hB.iv
  have hJ := CJ.refl hA
  have hv := hA.v.2.2.2.1
  refine q_iload_n C 1 dX3_numberOf_0 rfl ?_
  rcases (show k = 0 ∨ k = 1 ∨ k = 2 ∨ k = 3 ∨ k = 4 ∨ k = 5 ∨ k = 6 ∨ k = 7 ∨ (k < 0 ∨ 7 < k) by omega) with hsw | hsw | hsw | hsw | hsw | hsw | hsw | hsw | hsw
  · refine q_tableIn C 48 dX3_numberOf_1 ⟨by omega, by omega⟩ (by omega) (by omega) (by rw [hsw]; rfl) (by decide) ?_
    refine q_aload_n C 0 dX3_numberOf_48 rfl ?_
    refine q_get (T := TX3) (i := 0) C kd0 (by decide) rfl uws3 (by decide) wd_204 rfl dX3_numberOf_49 ?_
    refine q_cI (q_runV (As := []) (rest := []) C (k_X0_bagToldByWords l hb1 hB ) hb1.k0 (by decide) rfl wd_336 wd_334 wd_335 wd_78 wd_333 nd_X0_bagToldByWords rfl (by decide) ⟨Nat.zero_le _, Nat.zero_le _⟩ rfl (Nat.le_of_ble_eq_true rfl) dX3_numberOf_52) ?_
    rintro z F' ⟨rfl, rfl⟩
    have q52 := bg_range hI
    refine q_iret C dX3_numberOf_55 ?_
    exact ⟨by subst hsw; rfl, rfl⟩
  · refine q_tableIn C 56 dX3_numberOf_1 ⟨by omega, by omega⟩ (by omega) (by omega) (by rw [hsw]; rfl) (by decide) ?_
    refine q_aload_n C 0 dX3_numberOf_56 rfl ?_
    refine q_get (T := TX3) (i := 0) C kd0 (by decide) rfl uws3 (by decide) wd_204 rfl dX3_numberOf_57 ?_
    refine q_cI (q_runV (As := []) (rest := []) C (k_X0_bagToldByLines l hb1 hB ) hb1.k0 (by decide) rfl wd_389 wd_387 wd_388 wd_78 wd_386 nd_X0_bagToldByLines rfl (by decide) ⟨Nat.zero_le _, Nat.zero_le _⟩ rfl (Nat.le_of_ble_eq_true rfl) dX3_numberOf_60) ?_
    rintro z F' ⟨rfl, rfl⟩
    refine q_iret C dX3_numberOf_63 ?_
    exact ⟨by subst hsw; rfl, rfl⟩
  · refine q_tableIn C 64 dX3_numberOf_1 ⟨by omega, by omega⟩ (by omega) (by omega) (by rw [hsw]; rfl) (by decide) ?_
    refine q_aload_n C 0 dX3_numberOf_64 rfl ?_
    refine q_get (T := TX3) (i := 0) C kd0 (by decide) rfl uws3 (by decide) wd_204 rfl dX3_numberOf_65 ?_
    refine q_getN (T := TX0) (i := 9) C hb1.k0 (by decide) rfl uws0 (by decide) nw_119 rfl dX3_numberOf_68 ?_
    rw [show F 1 9 = A.r 179 from hB.nt]
    refine q_iret C dX3_numberOf_71 ?_
    exact ⟨by subst hsw; rfl, rfl⟩
  · refine q_tableIn C 72 dX3_numberOf_1 ⟨by omega, by omega⟩ (by omega) (by omega) (by rw [hsw]; rfl) (by decide) ?_
    refine q_aload_n C 0 dX3_numberOf_72 rfl ?_
    refine q_get (T := TX3) (i := 0) C kd0 (by decide) rfl uws3 (by decide) wd_204 rfl dX3_numberOf_73 ?_
    refine q_getN (T := TX0) (i := 10) C hb1.k0 (by decide) rfl uws0 (by decide) nw_121 rfl dX3_numberOf_76 ?_
    rw [show F 1 10 = rbs A.r from hB.st]
    refine q_iret C dX3_numberOf_79 ?_
    exact ⟨by subst hsw; rfl, rfl⟩
  · refine q_tableIn C 80 dX3_numberOf_1 ⟨by omega, by omega⟩ (by omega) (by omega) (by rw [hsw]; rfl) (by decide) ?_
    refine q_aload_n C 0 dX3_numberOf_80 rfl ?_
    refine q_get (T := TX3) (i := 0) C kd0 (by decide) rfl uws3 (by decide) wd_204 rfl dX3_numberOf_81 ?_
    refine q_getN (T := TX0) (i := 11) C hb1.k0 (by decide) rfl uws0 (by decide) nw_123 rfl dX3_numberOf_84 ?_
    rw [show F 1 11 = A.r 180 from hB.sh]
    refine q_iret C dX3_numberOf_87 ?_
    exact ⟨by subst hsw; rfl, rfl⟩
  · refine q_tableIn C 88 dX3_numberOf_1 ⟨by omega, by omega⟩ (by omega) (by omega) (by rw [hsw]; rfl) (by decide) ?_
    refine q_aload_n C 0 dX3_numberOf_88 rfl ?_
    refine q_get (T := TX3) (i := 0) C kd0 (by decide) rfl uws3 (by decide) wd_204 rfl dX3_numberOf_89 ?_
    refine q_getN (T := TX0) (i := 12) C hb1.k0 (by decide) rfl uws0 (by decide) nw_124 rfl dX3_numberOf_92 ?_
    rw [show F 1 12 = A.r 181 from hB.rf]
    refine q_iret C dX3_numberOf_95 ?_
    exact ⟨by subst hsw; rfl, rfl⟩
  · refine q_tableIn C 96 dX3_numberOf_1 ⟨by omega, by omega⟩ (by omega) (by omega) (by rw [hsw]; rfl) (by decide) ?_
    refine q_aload_n C 0 dX3_numberOf_96 rfl ?_
    refine q_get (T := TX3) (i := 0) C kd0 (by decide) rfl uws3 (by decide) wd_204 rfl dX3_numberOf_97 ?_
    refine q_cI (q_runV (As := []) (rest := []) C (k_X0_loans l hb1 hB ) hb1.k0 (by decide) rfl wd_393 wd_391 wd_392 wd_78 wd_390 nd_X0_loans rfl (by decide) ⟨Nat.zero_le _, Nat.zero_le _⟩ rfl (Nat.le_of_ble_eq_true rfl) dX3_numberOf_100) ?_
    rintro z F' ⟨rfl, rfl⟩
    refine q_iret C dX3_numberOf_103 ?_
    exact ⟨by subst hsw; rfl, rfl⟩
  · refine q_tableIn C 104 dX3_numberOf_1 ⟨by omega, by omega⟩ (by omega) (by omega) (by rw [hsw]; rfl) (by decide) ?_
    refine q_aload_n C 0 dX3_numberOf_104 rfl ?_
    refine q_get (T := TX3) (i := 0) C kd0 (by decide) rfl uws3 (by decide) wd_204 rfl dX3_numberOf_105 ?_
    refine q_cI (q_runV (As := []) (rest := []) C (k_X0_worthOfAll l hb1 hB ) hb1.k0 (by decide) rfl wd_397 wd_395 wd_396 wd_78 wd_394 nd_X0_worthOfAll rfl (by decide) ⟨Nat.zero_le _, Nat.zero_le _⟩ rfl (Nat.le_of_ble_eq_true rfl) dX3_numberOf_108) ?_
    rintro z F' ⟨rfl, rfl⟩
    refine q_iret C dX3_numberOf_111 ?_
    exact ⟨by subst hsw; rfl, rfl⟩
  · refine q_tableOut C 112 dX3_numberOf_1 ⟨by omega, by omega⟩ hsw (by decide) ?_
    refine q_aload_n C 0 dX3_numberOf_112 rfl ?_
    refine q_get (T := TX3) (i := 2) C kd0 (by decide) rfl uws3 (by decide) wd_206 rfl dX3_numberOf_113 ?_
    refine q_getN (T := TX1) (i := 2) C kd21 (by decide) rfl uws1 (by decide) nw_166 rfl dX3_numberOf_116 ?_
    rw [show F 21 2 = A.n from hA.h.1]
    refine q_iret C dX3_numberOf_119 ?_
    exact ⟨by unfold cntv; rw [if_neg (by omega), if_neg (by omega), if_neg (by omega), if_neg (by omega), if_neg (by omega), if_neg (by omega), if_neg (by omega)], rfl⟩

set_option maxRecDepth 100000 in
set_option maxHeartbeats 4000000 in
theorem k_X3_count (l : Launch) (hl : l.stackTraces = false) {w : WP} {F : FF} {A : AS} {k : Int} (hA : CI F A) (hk : inR k) : ConX l yX3_count cX3_count 2 (some .int) 6 w [.ref (adr w 0), .int (iI k)] F (QI w (fun z F' => countT A k = 0 ∧ z = countZ A k ∧ CJ F F' (countN A k))) (countX F A k) := by
  refine ConX.mk (lv := [(0, .ref (adr w 0)), (1, .int (iI k))]) (by decide) (Nat.le_of_ble_eq_true rfl) rfl ?_
  intro pg ev s0 mi be me co C hex hz
  have hB := hA.b
  have hI := hB.iv
  have hJ := CJ.refl hA
  have hv := hA.v.2.2.2.1
  obtain ⟨hk1, hk2⟩ := id hk
  refine q_iload_n C 1 dX3_count_0 rfl ?_
  refine q_if_lt C 10 dX3_count_1 ⟨by omega, by omega⟩  (by decide) (fun h1 => ?_) (fun h1 => ?_)
  · refine q_throw (text := "what is not 0 to 8") C hl hex ex_iae (by decide +kernel) dX3_count_10 dX3_count_13 dX3_count_14 dX3_count_16 dX3_count_19 (by decide) ?_
    exact ⟨⟨rfl, (by unfold countT; rw [if_pos (by omega)])⟩, hJ⟩
  · refine q_iload_n C 1 dX3_count_4 rfl ?_
    refine q_bipush C 9 dX3_count_5 (by decide) ?_
    refine q_icmp_lt C 20 dX3_count_7 ⟨by omega, by omega⟩ ⟨by decide, by decide⟩ (by decide) (fun h7 => ?_) (fun h7 => ?_)
    · refine q_aload_n C 0 dX3_count_20 rfl ?_
      refine q_iload_n C 1 dX3_count_21 rfl ?_
      refine q_cI (q_runV (As := [.int (iI k)]) (rest := []) C (k_X3_numberOf l hA (k := k) ⟨by omega, by omega⟩) kd0 (by decide) rfl wd_385 wd_384 wd_11 wd_77 wd_382 nd_X3_numberOf rfl (by decide) ⟨Nat.zero_le _, Nat.zero_le _⟩ rfl (Nat.le_of_ble_eq_true rfl) dX3_count_22) ?_
      rintro z F' ⟨rfl, rfl⟩
      refine q_xiret C ⟨Nat.zero_le _, Nat.zero_le _⟩ dX3_count_25 ?_
      exact ⟨(by unfold countT; rw [if_neg (by omega)]), rfl, hJ⟩
    · refine q_throw (text := "what is not 0 to 8") C hl hex ex_iae (by decide +kernel) dX3_count_10 dX3_count_13 dX3_count_14 dX3_count_16 dX3_count_19 (by decide) ?_
      exact ⟨⟨rfl, (by unfold countT; rw [if_pos (by omega)])⟩, hJ⟩

set_option maxRecDepth 100000 in
set_option maxHeartbeats 4000000 in
theorem k_X3_ifSlept (l : Launch) (hl : l.stackTraces = false) {w : WP} {F : FF} {A : AS} {m d : Int} (hA : CI F A) (hm : inR m) (hd : inR d) : ConX l yX3_ifSlept cX3_ifSlept 3 (some .int) 6 w [.ref (adr w 0), .int (iI m), .int (iI d)] F (QI w (fun z F' => ifSleptT A m d = 0 ∧ z = ifSleptZ A m d ∧ CJ F F' (ifSleptN A m d))) (ifSleptX F A m d) := by
  refine ConX.mk (lv := [(0, .ref (adr w 0)), (1, .int (iI m)), (2, .int (iI d))]) (by decide) (Nat.le_of_ble_eq_true rfl) rfl ?_
  intro pg ev s0 mi be me co C hex hz
  have hB := hA.b
  have hI := hB.iv
  have hJ := CJ.refl hA
  have hv := hA.v.2.2.2.1
  obtain ⟨hm1, hm2⟩ := id hm
  obtain ⟨hd1, hd2⟩ := id hd
  refine q_iload_n C 2 dX3_ifSlept_0 rfl ?_
  refine q_cI (q_runS (As := [.int (iI d)]) (rest := []) C (k_X3_isDoor l (x := d) ⟨by omega, by omega⟩) wd_484 wd_483 wd_77 wd_482 nd_X3_isDoor rfl (by decide) ⟨Nat.zero_le _, Nat.zero_le _⟩ rfl (Nat.le_of_ble_eq_true rfl) dX3_ifSlept_1) ?_
  rintro z F' ⟨⟨rfl, hq1⟩ | ⟨rfl, hq1⟩, rfl⟩
  · refine q_if_ne C 17 dX3_ifSlept_4 ⟨by decide, by decide⟩  (by decide) (fun _ => ?_) (fun h => absurd h (by decide))
    refine q_iload_n C 1 dX3_ifSlept_17 rfl ?_
    refine q_cI (q_runS (As := [.int (iI m)]) (rest := []) C (k_X3_isNights l (x := m) ⟨by omega, by omega⟩) wd_684 wd_683 wd_77 wd_682 nd_X3_isNights rfl (by decide) ⟨Nat.zero_le _, Nat.zero_le _⟩ rfl (Nat.le_of_ble_eq_true rfl) dX3_ifSlept_18) ?_
    rintro z F' ⟨⟨rfl, hq18⟩ | ⟨rfl, hq18⟩, rfl⟩
    · refine q_if_ne C 34 dX3_ifSlept_21 ⟨by decide, by decide⟩  (by decide) (fun _ => ?_) (fun h => absurd h (by decide))
      refine q_aload_n C 0 dX3_ifSlept_34 rfl ?_
      refine q_get (T := TX3) (i := 1) C kd0 (by decide) rfl uws3 (by decide) wd_205 rfl dX3_ifSlept_35 ?_
      refine q_aload_n C 0 dX3_ifSlept_38 rfl ?_
      refine q_get (T := TX3) (i := 0) C kd0 (by decide) rfl uws3 (by decide) wd_204 rfl dX3_ifSlept_39 ?_
      refine q_cV (q_runV (As := [.ref (adr w 1)]) (rest := []) C (k_X0_copyFrom (F := F) (b := 11) (o := 1) (r := A.r) l hb11 hb1 (by decide) hB) hb11.k0 (by decide) rfl wd_345 wd_343 wd_344 wd_78 wd_342 nd_X0_copyFrom rfl (by decide) ⟨Nat.zero_le _, Nat.zero_le _⟩ rfl (Nat.le_of_ble_eq_true rfl) dX3_ifSlept_42) ?_
      rintro G1 ⟨hE1, hf1⟩
      have hJ1 := hJ.dr hf1
      refine q_aload_n C 0 dX3_ifSlept_45 rfl ?_
      refine q_get (T := TX3) (i := 1) C kd0 (by decide) rfl uws3 (by decide) wd_205 rfl dX3_ifSlept_46 ?_
      refine q_iload_n C 1 dX3_ifSlept_49 rfl ?_
      refine q_cI (q_runV (As := [.int (iI m)]) (rest := []) C (k_X0_passNights l hb11 hE1 (n := m) ⟨by omega, by omega⟩) hb11.k0 (by decide) rfl wd_352 wd_350 wd_351 wd_78 wd_349 nd_X0_passNights rfl (by decide) ⟨Nat.zero_le _, Nat.zero_le _⟩ rfl (Nat.le_of_ble_eq_true rfl) dX3_ifSlept_50) ?_
      rintro z G1 ⟨rfl, hEG1, hfG1⟩
      have hJG1 := (hJ1).dr hfG1
      have hIs := hEG1.iv
      have hBG1 : BI G1 1 A.r := hJG1.1.b
      refine q_pop C dX3_ifSlept_53 rfl ?_
      refine q_aload_n C 0 dX3_ifSlept_54 rfl ?_
      refine q_get (T := TX3) (i := 1) C kd0 (by decide) rfl uws3 (by decide) wd_205 rfl dX3_ifSlept_55 ?_
      refine q_iload_n C 2 dX3_ifSlept_58 rfl ?_
      refine q_cI (q_runV (As := [.int (iI d)]) (rest := []) C (k_X0_worthOfDoor l hb11 hEG1 ⟨by omega, by omega⟩) hb11.k0 (by decide) rfl wd_295 wd_293 wd_294 wd_78 wd_455 nd_X0_worthOfDoor rfl (by decide) ⟨Nat.zero_le _, Nat.zero_le _⟩ rfl (Nat.le_of_ble_eq_true rfl) dX3_ifSlept_59) ?_
      rintro z F' ⟨rfl, rfl⟩
      refine q_xiret C ⟨Nat.zero_le _, Nat.zero_le _⟩ dX3_ifSlept_62 ?_
      exact ⟨(by unfold ifSleptT; rw [if_neg (by omega), if_neg (by omega)]), rfl, hJG1⟩
    · refine q_if_ne C 34 dX3_ifSlept_21 ⟨by decide, by decide⟩  (by decide) (fun h => absurd h (by decide)) (fun _ => ?_)
      refine q_throw (text := "nights is out of range") C hl hex ex_iae (by decide +kernel) dX3_ifSlept_24 dX3_ifSlept_27 dX3_ifSlept_28 dX3_ifSlept_30 dX3_ifSlept_33 (by decide) ?_
      exact ⟨Or.inr (⟨rfl, (by unfold ifSleptT; rw [if_neg (by omega), if_pos (by omega)])⟩), hJ⟩
  · refine q_if_ne C 17 dX3_ifSlept_4 ⟨by decide, by decide⟩  (by decide) (fun h => absurd h (by decide)) (fun _ => ?_)
    refine q_throw (text := "no such door") C hl hex ex_ioobe (by decide +kernel) dX3_ifSlept_7 dX3_ifSlept_10 dX3_ifSlept_11 dX3_ifSlept_13 dX3_ifSlept_16 (by decide) ?_
    exact ⟨Or.inl ⟨rfl, (by unfold ifSleptT; rw [if_pos (by omega)])⟩, hJ⟩

set_option maxRecDepth 100000 in
set_option maxHeartbeats 4000000 in
theorem k_X3_prey (l : Launch) {w : WP} {F : FF} {A : AS} (hA : CI F A)  : Con l yX3_prey cX3_prey 1 (some .int) 6 w [.ref (adr w 0)] F (QI w (fun z F' => z = py A.r ∧ F = F')) := by
  refine Con.mk (lv := [(0, .ref (adr w 0))]) (by decide) (Nat.le_of_ble_eq_true rfl) rfl ?_
  intro pg ev s0 mi be me co C hz
  have hB := hA.b
  have hI := hB.iv
  have hJ := CJ.refl hA
  have hv := hA.v.2.2.2.1
  refine q_aload_n C 0 dX3_prey_0 rfl ?_
  refine q_get (T := TX3) (i := 0) C kd0 (by decide) rfl uws3 (by decide) wd_204 rfl dX3_prey_1 ?_
  refine q_cI (q_runV (As := []) (rest := []) C (k_X0_nextPrey l hb1 hB ) hb1.k0 (by decide) rfl wd_277 wd_275 wd_276 wd_78 wd_274 nd_X0_nextPrey rfl (by decide) ⟨Nat.zero_le _, Nat.zero_le _⟩ rfl (Nat.le_of_ble_eq_true rfl) dX3_prey_4) ?_
  rintro z F' ⟨rfl, rfl⟩
  refine q_iret C dX3_prey_7 ?_
  exact ⟨rfl, rfl⟩

set_option maxRecDepth 100000 in
set_option maxHeartbeats 4000000 in
theorem k_X3_share (l : Launch) {w : WP} {F : FF} {A : AS} (hA : CI F A)  : Con l yX3_share cX3_share 1 (some .double) 1 w [.ref (adr w 0)] F (QD w (fun z F' => z = shr (40 - bg A.r) ∧ F = F')) := by
  refine Con.mk (lv := [(0, .ref (adr w 0))]) (by decide) (Nat.le_of_ble_eq_true rfl) rfl ?_
  intro pg ev s0 mi be me co C hz
  have hB := hA.b
  have hI := hB.iv
  have hJ := CJ.refl hA
  have hv := hA.v.2.2.2.1
  refine q_bipush C 40 dX3_share_0 (by decide) ?_
  refine q_aload_n C 0 dX3_share_2 rfl ?_
  refine q_get (T := TX3) (i := 0) C kd0 (by decide) rfl uws3 (by decide) wd_204 rfl dX3_share_3 ?_
  refine q_cI (q_runV (As := []) (rest := [.int (iI 40)]) C (k_X0_bagToldByWords l hb1 hB ) hb1.k0 (by decide) rfl wd_336 wd_334 wd_335 wd_78 wd_333 nd_X0_bagToldByWords rfl (by decide) ⟨Nat.zero_le _, Nat.zero_le _⟩ rfl (Nat.le_of_ble_eq_true rfl) dX3_share_6) ?_
  rintro z F' ⟨rfl, rfl⟩
  have q6 := bg_range hI
  refine q_isub C dX3_share_9 ?_
  refine q_i2d C dX3_share_10 ?_
  refine q_ldc2d C wd_337 dX3_share_11 ?_
  refine q_ddiv C (sh_n9 (x := 40 - bg A.r) (by omega) (by omega)) dX3_share_14 ?_
  refine q_dret C dX3_share_15 ?_
  exact ⟨rfl, rfl⟩

set_option maxRecDepth 100000 in
set_option maxHeartbeats 4000000 in
theorem k_X3_shownShare (l : Launch) {w : WP} {F : FF} {A : AS} (hA : CI F A)  : Con l yX3_shownShare cX3_shownShare 1 (some .double) 2 w [.ref (adr w 0)] F (QD w (fun z F' => z = shr (40 - bg A.r) ∧ F = F')) := by
  refine Con.mk (lv := [(0, .ref (adr w 0))]) (by decide) (Nat.le_of_ble_eq_true rfl) rfl ?_
  intro pg ev s0 mi be me co C hz
  have hB := hA.b
  have hI := hB.iv
  have hJ := CJ.refl hA
  have hv := hA.v.2.2.2.1
  refine q_aload_n C 0 dX3_shownShare_0 rfl ?_
  refine q_cD (q_runV (As := []) (rest := []) C (k_X3_share l hA) kd0 (by decide) rfl wd_332 wd_331 wd_7 wd_77 wd_329 nd_X3_share rfl (by decide) ⟨Nat.zero_le _, Nat.zero_le _⟩ rfl (Nat.le_of_ble_eq_true rfl) dX3_shownShare_1) ?_
  rintro z F' ⟨rfl, rfl⟩
  refine q_dret C dX3_shownShare_4 ?_
  exact ⟨rfl, rfl⟩

set_option maxRecDepth 100000 in
set_option maxHeartbeats 4000000 in
theorem k_bits1 (l : Launch) {w : WP} {F : FF} {x : Int} (hx : 1 ≤ x ∧ x ≤ 40) : Con l yX3_bitsOf cX3_bitsOf 6 (some .long) 0 w [.double (shr x)] F (QL w (fun z F' => z = shB x ∧ F = F')) := by
  refine Con.mk (lv := [(0, .double (shr x))]) (by decide) (Nat.le_of_ble_eq_true rfl) rfl ?_
  intro pg ev s0 mi be me co C hz
  have hK := shK_le x
  refine q_dload_n C 0 dX3_bitsOf_0 rfl ?_
  refine q_dconst0 C dX3_bitsOf_1 ?_
  refine q_dcmp C 1 (sh_c0b hx) dX3_bitsOf_2 ?_
  refine q_if_gt C 8 dX3_bitsOf_3 ⟨by decide, by decide⟩  (by decide) (fun _ => ?_) (fun h => absurd h (by decide))
  refine q_dload_n C 0 dX3_bitsOf_8 rfl ?_
  refine q_dstore_n (lv' := [(2, .double (shr x)), (0, .double (shr x))]) C dX3_bitsOf_9 (by decide) rfl ?_
  refine q_ldc2 C 1023 rfl wd_459 dX3_bitsOf_10 ?_
  refine q_lstore (lv' := [(4, .long (iL 1023)), (2, .double (shr x)), (0, .double (shr x))]) C dX3_bitsOf_13 (by decide) rfl ?_
  refine q_lv (lv' := [(0, .double (shr x)), (2, .double (shr x)), (4, .long (iL 1023))]) [2, 1, 0] rfl ?_
  refine wf3 (P := fun (i : Int) (v : UInt64) (e : Int) => Wq pg l ev _ s0 mi _ be me co _ w _ _ _ 15 [(0, .double (shr x)), (2, .double v), (4, .long (iL e))] [] F) (I := fun (i : Int) (v : UInt64) (e : Int) => 0 ≤ i ∧ i ≤ shK x ∧ v = dbl (shr x) i.toNat ∧ e = 1023 - i) (μ := fun (i : Int) (v : UInt64) (e : Int) => (shK x - i).toNat) ?_ 0 (shr x) 1023 (⟨by omega, by omega, rfl, by omega⟩)
  intro i v e hI' ih15
  (try dsimp only at hI'); (try dsimp only at ih15); (try dsimp only)
  obtain ⟨hi0, hi1, hv, he⟩ := hI'
  refine q_dload_n C 1 dX3_bitsOf_15 rfl ?_
  rcases sh_cases hx hi0 hi1 with hq | ⟨hq, hg⟩ | ⟨hq, hg⟩
  · refine q_dconst1 C dX3_bitsOf_16 ?_
    refine q_dcmp C (-1) (hv ▸ (sh_lt9 hx ⟨hi0, hq⟩).1) dX3_bitsOf_17 ?_
    refine q_if_ge C 43 dX3_bitsOf_18 ⟨by decide, by decide⟩  (by decide) (fun h => absurd h (by decide)) (fun _ => ?_)
    refine q_lload C 2 dX3_bitsOf_21 rfl ?_
    refine q_lconst C 1 rfl dX3_bitsOf_23 ?_
    refine q_lcmpz C dX3_bitsOf_24 ⟨by omega, by omega⟩ ⟨by omega, by omega⟩ ?_
    have qlz := lcz_range e 1
    refine q_if_le C 43 dX3_bitsOf_25 ⟨by omega, by omega⟩  (by decide) (fun h25 => absurd (lcz_le.mp h25) (by omega)) (fun h25 => ?_)
    refine q_dload_n C 1 dX3_bitsOf_28 rfl ?_
    refine q_ldc2d C wd_460 dX3_bitsOf_29 ?_
    refine q_dmul C (hv ▸ (sh_lt9 hx ⟨hi0, hq⟩).2) dX3_bitsOf_32 ?_
    refine q_dstore_n (lv' := [(2, .double (Jvm.FP.dmul v 4611686018427387904)), (0, .double (shr x)), (4, .long (iL e))]) C dX3_bitsOf_33 (by decide) rfl ?_
    refine q_lload C 2 dX3_bitsOf_34 rfl ?_
    refine q_lconst C 1 rfl dX3_bitsOf_36 ?_
    refine q_lsub C dX3_bitsOf_37 ?_
    refine q_lstore (lv' := [(4, .long (iL (e - 1))), (2, .double (Jvm.FP.dmul v 4611686018427387904)), (0, .double (shr x))]) C dX3_bitsOf_38 (by decide) rfl ?_
    refine q_goto C 15 dX3_bitsOf_40 (by decide) ?_
    refine q_lv (lv' := [(0, .double (shr x)), (2, .double (Jvm.FP.dmul v 4611686018427387904)), (4, .long (iL (e - 1)))]) [2, 1, 0] rfl ?_
    exact ih15 (i + 1) (Jvm.FP.dmul v 4611686018427387904) (e - 1) (⟨by omega, by omega, by rw [hv, show (i + 1).toNat = i.toNat + 1 by omega]; rfl, by omega⟩) (by omega)
  · refine q_dconst1 C dX3_bitsOf_16 ?_
    refine q_dcmp C 0 (hv ▸ hq ▸ hg) dX3_bitsOf_17 ?_
    refine q_if_ge C 43 dX3_bitsOf_18 ⟨by decide, by decide⟩  (by decide) (fun _ => ?_) (fun h => absurd h (by decide))
    refine q_lload C 2 dX3_bitsOf_43 rfl ?_
    refine q_ldc2 C 4503599627370496 rfl wd_461 dX3_bitsOf_45 ?_
    refine q_lmul C dX3_bitsOf_48 ?_
    refine q_dload_n C 1 dX3_bitsOf_49 rfl ?_
    refine q_dconst1 C dX3_bitsOf_50 ?_
    refine q_dsub C (hv ▸ hq ▸ (sh_ge9 hx).2.1) dX3_bitsOf_51 ?_
    refine q_ldc2d C wd_462 dX3_bitsOf_52 ?_
    refine q_dmul C (hv ▸ hq ▸ (sh_ge9 hx).2.2) dX3_bitsOf_55 ?_
    refine q_d2l C ((Jvm.FP.d2l (Jvm.FP.dmul (Jvm.FP.dsub v Jvm.FP.dconst1) 4841369599423283200)).toInt) (Int64.ofInt_toInt _).symm dX3_bitsOf_56 ?_
    refine q_ladd C dX3_bitsOf_57 ?_
    refine q_ltop (z' := shB x) (sh_fin hx hi0 hv hq he) ?_
    refine q_lret C dX3_bitsOf_58 ?_
    exact ⟨rfl, rfl⟩
  · refine q_dconst1 C dX3_bitsOf_16 ?_
    refine q_dcmp C 1 (hv ▸ hq ▸ hg) dX3_bitsOf_17 ?_
    refine q_if_ge C 43 dX3_bitsOf_18 ⟨by decide, by decide⟩  (by decide) (fun _ => ?_) (fun h => absurd h (by decide))
    refine q_lload C 2 dX3_bitsOf_43 rfl ?_
    refine q_ldc2 C 4503599627370496 rfl wd_461 dX3_bitsOf_45 ?_
    refine q_lmul C dX3_bitsOf_48 ?_
    refine q_dload_n C 1 dX3_bitsOf_49 rfl ?_
    refine q_dconst1 C dX3_bitsOf_50 ?_
    refine q_dsub C (hv ▸ hq ▸ (sh_ge9 hx).2.1) dX3_bitsOf_51 ?_
    refine q_ldc2d C wd_462 dX3_bitsOf_52 ?_
    refine q_dmul C (hv ▸ hq ▸ (sh_ge9 hx).2.2) dX3_bitsOf_55 ?_
    refine q_d2l C ((Jvm.FP.d2l (Jvm.FP.dmul (Jvm.FP.dsub v Jvm.FP.dconst1) 4841369599423283200)).toInt) (Int64.ofInt_toInt _).symm dX3_bitsOf_56 ?_
    refine q_ladd C dX3_bitsOf_57 ?_
    refine q_ltop (z' := shB x) (sh_fin hx hi0 hv hq he) ?_
    refine q_lret C dX3_bitsOf_58 ?_
    exact ⟨rfl, rfl⟩


set_option maxRecDepth 100000 in
set_option maxHeartbeats 4000000 in
theorem k_bits0 (l : Launch) {w : WP} {F : FF} : Con l yX3_bitsOf cX3_bitsOf 6 (some .long) 0 w [.double (shr 0)] F (QL w (fun z F' => z = shB 0 ∧ F = F')) := by
  refine Con.mk (lv := [(0, .double (shr 0))]) (by decide) (Nat.le_of_ble_eq_true rfl) rfl ?_
  intro pg ev s0 mi be me co C hz
  refine q_dload_n C 0 dX3_bitsOf_0 rfl ?_
  refine q_dconst0 C dX3_bitsOf_1 ?_
  refine q_dcmp C 0 sh_00 dX3_bitsOf_2 ?_
  refine q_if_gt C 8 dX3_bitsOf_3 ⟨by decide, by decide⟩  (by decide) (fun h => absurd h (by decide)) (fun _ => ?_)
  refine q_lconst C 0 rfl dX3_bitsOf_6 ?_
  refine q_ltop (z' := shB 0) (shz0) ?_
  refine q_lret C dX3_bitsOf_7 ?_
  exact ⟨rfl, rfl⟩

theorem k_bits (l : Launch) {w : WP} {F : FF} {x : Int} (hx : 0 ≤ x ∧ x ≤ 40) : Con l yX3_bitsOf cX3_bitsOf 6 (some .long) 0 w [.double (shr x)] F (QL w (fun z F' => z = shB x ∧ F = F')) := by
  by_cases h : x = 0
  · subst h; exact k_bits0 l
  · exact k_bits1 l ⟨by omega, hx.2⟩
