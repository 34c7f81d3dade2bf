/-! the reference: what calls ask; the hash of a line and of a door; the bits of a share -/
theorem mx_end {r : Rw} {x i : Int} (h : i.toNat = (r x - 1).toNat) : an (fun k => clb (wa r x k) (wa r x (k + 1))) i = mx r x := by
  unfold mx an
  rw [h]
def FrX (F F' : FF) : Prop := (∀ k, k ≠ 110 → k ≠ 111 → k ≠ 115 → F' k = F k) ∧ ∀ i, i ≠ 16 → F' 110 i = F 110 i
theorem FrX.refl {F : FF} : FrX F F := ⟨fun _ _ _ _ => rfl, fun _ _ => rfl⟩
theorem FrX.trans {F G H : FF} (h1 : FrX F G) (h2 : FrX G H) : FrX F H := ⟨fun k a b c => (h2.1 k a b c).trans (h1.1 k a b c), fun i a => (h2.2 i a).trans (h1.2 i a)⟩
theorem FrX.up16 {F G : FF} {z : Int} (h : FrX F G) : FrX F (up G 110 16 z) := ⟨fun k a b c => by rw [up_k a]; exact h.1 k a b c, fun i a => by rw [up_j a]; exact h.2 i a⟩
theorem FrX.tr {F G H : FF} (h : FrX F G) (h2 : FrA G H) : FrX F H := ⟨fun k a b c => (h2 k b c).trans (h.1 k a b c), fun i a => (congrFun (h2 110 (by decide) (by decide)) i).trans (h.2 i a)⟩
theorem sh_eq9 {x : Int} (hx : 0 ≤ x ∧ x ≤ 40) : Jvm.FP.dcmp (shr x) (shr x) = some .eq := by
  have := sh_eq x.toNat (List.mem_range.mpr (by omega))
  rw [Int.toNat_of_nonneg hx.1] at this
  exact this
theorem d2raw_eq (b : UInt64) : b.toInt64 = iL (b.toBitVec.toNat : Int) := Int64.toBitVec_inj.mp (by
  show b.toBitVec = BitVec.ofInt 64 (b.toBitVec.toNat : Int)
  rw [BitVec.ofInt_natCast]
  apply BitVec.eq_of_toNat_eq
  rw [BitVec.toNat_ofNat]
  exact (Nat.mod_eq_of_lt b.toBitVec.isLt).symm)
section QD2
variable {p : Program} {l : Launch} {e : Env} {R : Room} {s : State} {m : MethodId} {args : Array Value} {below : List Frame} {meth : Method} {c : Code} {Qf : State → Prop} {w : WP} {k n nL pc : Nat} {lv : List (Nat × Value)} {st : List Value} {F : FF} {cc : ByteArray} {own : String} {ret : Option FieldType}
theorem q_d2raw (C : Cx p s m args meth c cc own ret nL w) {idx : Nat} (hlink : Cond.methodLink own idx ⟨"java/lang/Double", "doubleToRawLongBits", "(D)J"⟩ ∈ WG) {b : UInt64} (hr : (decide (1 ≤ R.frames) && decide ((st.map fun v => v.category).sum + 15 ≤ R.locals)) = true) (d : decode cc pc = .ok (.invokestatic idx, 3)) (kk : Wq p l e R s m args below meth c Qf w k n nL (pc + 3) lv (.long b.toInt64 :: st) F) : Wq p l e R s m args below meth c Qf w k n nL pc lv (.double b :: st) F := by
  intro H locs ls hH hS hl
  have W := C.2.2.2.2.1
  simp only [Bool.and_eq_true, decide_eq_true_eq] at hr
  exact vn_d2l C.1 C.2.1 (C.2.2.1.trans hl.1.symm) C.2.2.2.1 (W _ hlink) (W _ wd_1286) (W _ wd_1285) (W _ wd_88) hr.1 hr.2 d (kk H locs ls hH hS hl)
end QD2

set_option maxRecDepth 100000 in
set_option maxHeartbeats 4000000 in
theorem k_X4_canLend (l : Launch) {w : WP} {F : FF} {r : Rw} {x : Int} (hr : F 111 = r) (hI : Iv r) (hl : 0 ≤ x ∧ x < 16) : Con l yX4_canLend cX4_canLend 2 (some .boolean) 1 w [.ref (adr w 110), .int (iI x)] F (QI w (fun z F' => (z = 1 ∧ (0 < r x ∧ r (112 + x) = 0 ∧ bor r x = -1) ∨ z = 0 ∧ ¬ (0 < r x ∧ r (112 + x) = 0 ∧ bor r x = -1)) ∧ F = F')) := by
  refine Con.mk (lv := [(0, .ref (adr w 110)), (1, .int (iI x))]) (by decide) (Nat.le_of_ble_eq_true rfl) rfl ?_
  intro pg ev s0 mi be me co C hz
  refine q_aload_n C 0 dX4_canLend_0 rfl ?_
  refine q_get (T := TX4) (i := 0) C kd110 (by decide) rfl uws4 (by decide) wd_865 rfl dX4_canLend_1 ?_
  refine q_iconst C 0 dX4_canLend_4 ?_
  refine q_iload_n C 1 dX4_canLend_5 rfl ?_
  refine q_iadd C dX4_canLend_6 ?_
  refine q_iald C kd111 ⟨by omega, by rw [ln111]; omega⟩ dX4_canLend_7 ?_
  refine q_top (z' := r x) (by rw [hr, Int.zero_add]) ?_
  have q_0 := hI.sz (l := x) (by omega) (by omega)
  refine q_if_le C 36 dX4_canLend_8 ⟨by omega, by omega⟩  (by decide) (fun h8 => ?_) (fun h8 => ?_)
  · refine q_iconst C 0 dX4_canLend_36 ?_
    refine q_zret C dX4_canLend_37 (by decide) ?_
    exact ⟨by omega, rfl⟩
  · refine q_aload_n C 0 dX4_canLend_11 rfl ?_
    refine q_get (T := TX4) (i := 0) C kd110 (by decide) rfl uws4 (by decide) wd_865 rfl dX4_canLend_12 ?_
    refine q_bipush C 112 dX4_canLend_15 (by decide) ?_
    refine q_iload_n C 1 dX4_canLend_17 rfl ?_
    refine q_iadd C dX4_canLend_18 ?_
    refine q_iald C kd111 ⟨by omega, by rw [ln111]; omega⟩ dX4_canLend_19 ?_
    refine q_top (z' := r (112 + x)) (by rw [hr]) ?_
    have q_1 := hI.ld (l := x) (by omega) (by omega)
    refine q_if_ne C 36 dX4_canLend_20 ⟨by omega, by omega⟩  (by decide) (fun h20 => ?_) (fun h20 => ?_)
    · refine q_iconst C 0 dX4_canLend_36 ?_
      refine q_zret C dX4_canLend_37 (by decide) ?_
      exact ⟨by omega, rfl⟩
    · refine q_aload_n C 0 dX4_canLend_23 rfl ?_
      refine q_iload_n C 1 dX4_canLend_24 rfl ?_
      refine q_cI (q_runV (As := [.int (iI x)]) (rest := []) C (k_X4_borrowerOf l hr hI (x := x) ⟨by omega, by omega⟩) kd110 (by decide) rfl wd_1021 wd_1020 wd_37 wd_81 wd_1018 nd_X4_borrowerOf rfl (by decide) ⟨Nat.zero_le _, Nat.zero_le _⟩ rfl (Nat.le_of_ble_eq_true rfl) dX4_canLend_25) ?_
      rintro z F' ⟨rfl, rfl⟩
      have q25 := bor_range r x
      refine q_iconst C (-1) dX4_canLend_28 ?_
      refine q_icmp_ne C 36 dX4_canLend_29 ⟨by omega, by omega⟩ ⟨by decide, by decide⟩ (by decide) (fun h29 => ?_) (fun h29 => ?_)
      · refine q_iconst C 0 dX4_canLend_36 ?_
        refine q_zret C dX4_canLend_37 (by decide) ?_
        exact ⟨by omega, rfl⟩
      · refine q_iconst C 1 dX4_canLend_32 ?_
        refine q_goto C 37 dX4_canLend_33 (by decide) ?_
        refine q_zret C dX4_canLend_37 (by decide) ?_
        exact ⟨by omega, rfl⟩

set_option maxRecDepth 100000 in
set_option maxHeartbeats 4000000 in
theorem k_X4_mostOf (l : Launch) {w : WP} {F : FF} {k : Int} (hk : 0 ≤ k ∧ k < 3) : Con l yX4_mostOf cX4_mostOf 1 (some .int) 0 w [.int (iI k)] F (QI w (fun z F' => z = mostS k ∧ F = F')) := by
  refine Con.mk (lv := [(0, .int (iI k))]) (by decide) (Nat.le_of_ble_eq_true rfl) rfl ?_
  intro pg ev s0 mi be me co C hz
  refine q_iload_n C 0 dX4_mostOf_0 rfl ?_
  refine q_if_ne C 8 dX4_mostOf_1 ⟨by omega, by omega⟩  (by decide) (fun h1 => ?_) (fun h1 => ?_)
  · refine q_iload_n C 0 dX4_mostOf_8 rfl ?_
    refine q_iconst C 1 dX4_mostOf_9 ?_
    refine q_icmp_ne C 19 dX4_mostOf_10 ⟨by omega, by omega⟩ ⟨by decide, by decide⟩ (by decide) (fun h10 => ?_) (fun h10 => ?_)
    · refine q_bipush C 9 dX4_mostOf_19 (by decide) ?_
      refine q_iret C dX4_mostOf_21 ?_
      exact ⟨by unfold mostS; first | rw [if_pos (by omega)] | (rw [if_neg (by omega), if_pos (by omega)]; done) | (rw [if_neg (by omega), if_neg (by omega)]; done), rfl⟩
    · refine q_sipush C 200 dX4_mostOf_13 (by decide) ?_
      refine q_goto C 21 dX4_mostOf_16 (by decide) ?_
      refine q_iret C dX4_mostOf_21 ?_
      exact ⟨by unfold mostS; first | rw [if_pos (by omega)] | (rw [if_neg (by omega), if_pos (by omega)]; done) | (rw [if_neg (by omega), if_neg (by omega)]; done), rfl⟩
  · refine q_iconst C 1 dX4_mostOf_4 ?_
    refine q_goto C 21 dX4_mostOf_5 (by decide) ?_
    refine q_iret C dX4_mostOf_21 ?_
    exact ⟨by unfold mostS; first | rw [if_pos (by omega)] | (rw [if_neg (by omega), if_pos (by omega)]; done) | (rw [if_neg (by omega), if_neg (by omega)]; done), rfl⟩

set_option maxRecDepth 100000 in
set_option maxHeartbeats 4000000 in
theorem k_X4_wordProperty (l : Launch) {w : WP} {F : FF} {r : Rw} {x k : Int} (hr : F 111 = r) (hI : Iv r) (hx : 0 ≤ x ∧ x < 40) (hk : 0 ≤ k ∧ k < 7) : Con l yX4_wordProperty cX4_wordProperty 4 (some .int) 3 w [.ref (adr w 110), .int (iI x), .int (iI k)] F (QI w (fun z F' => z = wpr r x k ∧ F = F')) := by
  refine Con.mk (lv := [(0, .ref (adr w 110)), (1, .int (iI x)), (2, .int (iI k))]) (by decide) (Nat.le_of_ble_eq_true rfl) rfl ?_
  intro pg ev s0 mi be me co C hz
  refine q_aload_n C 0 dX4_wordProperty_0 rfl ?_
  refine q_iload_n C 1 dX4_wordProperty_1 rfl ?_
  refine q_cI (q_runV (As := [.int (iI x)]) (rest := []) C (k_X4_lineOfWord l hr hI (x := x) ⟨by omega, by omega⟩) kd110 (by decide) rfl wd_944 wd_943 wd_24 wd_81 wd_941 nd_X4_lineOfWord rfl (by decide) ⟨Nat.zero_le _, Nat.zero_le _⟩ rfl (Nat.le_of_ble_eq_true rfl) dX4_wordProperty_2) ?_
  rintro z F' ⟨rfl, rfl⟩
  have q2 := home_range r x
  refine q_istore_n (lv' := [(3, .int (iI (home r x))), (0, .ref (adr w 110)), (1, .int (iI x)), (2, .int (iI k))]) C dX4_wordProperty_5 (by decide) rfl ?_
  refine q_iload_n C 3 dX4_wordProperty_6 rfl ?_
  rcases (show k = 0 ∨ k = 1 ∨ k = 2 ∨ k = 3 ∨ k = 4 ∨ k = 5 ∨ (k < 0 ∨ 5 < k) by omega) with hsw | hsw | hsw | hsw | hsw | hsw | hsw
  · refine q_tableIn C 44 dX4_wordProperty_7 ⟨by omega, by omega⟩ (by omega) (by omega) (by rw [hsw]; rfl) (by decide) ?_
    refine q_iload_n C 2 dX4_wordProperty_44 rfl ?_
    refine q_cI (q_runS (As := [.int (iI x)]) (rest := []) C (k_X4_kindOf l (by omega)) wd_973 wd_972 wd_81 wd_971 nd_X4_kindOf rfl (by decide) ⟨Nat.zero_le _, Nat.zero_le _⟩ rfl (Nat.le_of_ble_eq_true rfl) dX4_wordProperty_45) ?_
    rintro z F' ⟨rfl, rfl⟩
    have q45 := kn_pos (x := x) (by omega)
    refine q_iret C dX4_wordProperty_48 ?_
    exact ⟨by rw [show k = _ from hsw]; rfl, rfl⟩
  · refine q_tableIn C 49 dX4_wordProperty_7 ⟨by omega, by omega⟩ (by omega) (by omega) (by rw [hsw]; rfl) (by decide) ?_
    refine q_iload_n C 2 dX4_wordProperty_49 rfl ?_
    refine q_cI (q_runS (As := [.int (iI x)]) (rest := []) C (k_X4_endingOf l (by omega)) wd_1028 wd_1027 wd_81 wd_1026 nd_X4_endingOf rfl (by decide) ⟨Nat.zero_le _, Nat.zero_le _⟩ rfl (Nat.le_of_ble_eq_true rfl) dX4_wordProperty_50) ?_
    rintro z F' ⟨rfl, rfl⟩
    have q50 := en_pos (x := x) (by omega)
    refine q_iret C dX4_wordProperty_53 ?_
    exact ⟨by rw [show k = _ from hsw]; rfl, rfl⟩
  · refine q_tableIn C 54 dX4_wordProperty_7 ⟨by omega, by omega⟩ (by omega) (by omega) (by rw [hsw]; rfl) (by decide) ?_
    refine q_iload_n C 2 dX4_wordProperty_54 rfl ?_
    refine q_cI (q_runS (As := [.int (iI x)]) (rest := []) C (k_X4_beatsOf l (by omega)) wd_963 wd_962 wd_81 wd_961 nd_X4_beatsOf rfl (by decide) ⟨Nat.zero_le _, Nat.zero_le _⟩ rfl (Nat.le_of_ble_eq_true rfl) dX4_wordProperty_55) ?_
    rintro z F' ⟨rfl, rfl⟩
    have q55 := bt_pos (x := x) (by omega)
    refine q_iret C dX4_wordProperty_58 ?_
    exact ⟨by rw [show k = _ from hsw]; rfl, rfl⟩
  · refine q_tableIn C 59 dX4_wordProperty_7 ⟨by omega, by omega⟩ (by omega) (by omega) (by rw [hsw]; rfl) (by decide) ?_
    refine q_iload_n C 0 dX4_wordProperty_59 rfl ?_
    refine q_iconst C (-1) dX4_wordProperty_60 ?_
    refine q_icmp_ne C 68 dX4_wordProperty_61 ⟨by omega, by omega⟩ ⟨by decide, by decide⟩ (by decide) (fun h61 => ?_) (fun h61 => ?_)
    · refine q_iload_n C 0 dX4_wordProperty_68 rfl ?_
      refine q_iconst C 4 dX4_wordProperty_69 ?_
      refine q_idiv C dX4_wordProperty_70 ⟨by omega, by omega⟩ ⟨by decide, by decide⟩ ?_
      refine q_iret C dX4_wordProperty_71 ?_
      exact ⟨by rw [show k = _ from hsw]; show _ = if home r x = -1 then _ else _; first | rw [if_pos (by assumption)] | rw [if_neg (by assumption)], rfl⟩
    · refine q_iconst C (-1) dX4_wordProperty_64 ?_
      refine q_goto C 71 dX4_wordProperty_65 (by decide) ?_
      refine q_iret C dX4_wordProperty_71 ?_
      exact ⟨by rw [show k = _ from hsw]; show _ = if home r x = -1 then _ else _; first | rw [if_pos (by assumption)] | rw [if_neg (by assumption)], rfl⟩
  · refine q_tableIn C 72 dX4_wordProperty_7 ⟨by omega, by omega⟩ (by omega) (by omega) (by rw [hsw]; rfl) (by decide) ?_
    refine q_iload_n C 0 dX4_wordProperty_72 rfl ?_
    refine q_iconst C (-1) dX4_wordProperty_73 ?_
    refine q_icmp_ne C 81 dX4_wordProperty_74 ⟨by omega, by omega⟩ ⟨by decide, by decide⟩ (by decide) (fun h74 => ?_) (fun h74 => ?_)
    · refine q_iload_n C 0 dX4_wordProperty_81 rfl ?_
      refine q_iconst C 4 dX4_wordProperty_82 ?_
      refine q_irem C dX4_wordProperty_83 ⟨by omega, by omega⟩ ⟨by decide, by decide⟩ ?_
      refine q_iret C dX4_wordProperty_84 ?_
      exact ⟨by rw [show k = _ from hsw]; show _ = if home r x = -1 then _ else _; first | rw [if_pos (by assumption)] | rw [if_neg (by assumption)], rfl⟩
    · refine q_iconst C (-1) dX4_wordProperty_77 ?_
      refine q_goto C 84 dX4_wordProperty_78 (by decide) ?_
      refine q_iret C dX4_wordProperty_84 ?_
      exact ⟨by rw [show k = _ from hsw]; show _ = if home r x = -1 then _ else _; first | rw [if_pos (by assumption)] | rw [if_neg (by assumption)], rfl⟩
  · refine q_tableIn C 85 dX4_wordProperty_7 ⟨by omega, by omega⟩ (by omega) (by omega) (by rw [hsw]; rfl) (by decide) ?_
    refine q_aload_n C 1 dX4_wordProperty_85 rfl ?_
    refine q_iload_n C 2 dX4_wordProperty_86 rfl ?_
    refine q_cI (q_runV (As := [.int (iI x)]) (rest := []) C (k_X4_placeOfWord l hr hI (x := x) ⟨by omega, by omega⟩) kd110 (by decide) rfl wd_993 wd_992 wd_33 wd_81 wd_990 nd_X4_placeOfWord rfl (by decide) ⟨Nat.zero_le _, Nat.zero_le _⟩ rfl (Nat.le_of_ble_eq_true rfl) dX4_wordProperty_87) ?_
    rintro z F' ⟨rfl, rfl⟩
    have q87 := plc_range hI (x := x)
    refine q_iret C dX4_wordProperty_90 ?_
    exact ⟨by rw [show k = _ from hsw]; rfl, rfl⟩
  · refine q_tableOut C 91 dX4_wordProperty_7 ⟨by omega, by omega⟩ hsw (by decide) ?_
    refine q_aload_n C 1 dX4_wordProperty_91 rfl ?_
    refine q_get (T := TX4) (i := 0) C kd110 (by decide) rfl uws4 (by decide) wd_865 rfl dX4_wordProperty_92 ?_
    refine q_sipush C 136 dX4_wordProperty_95 (by decide) ?_
    refine q_iload_n C 2 dX4_wordProperty_98 rfl ?_
    refine q_iadd C dX4_wordProperty_99 ?_
    refine q_iald C kd111 ⟨by omega, by rw [ln111]; omega⟩ dX4_wordProperty_100 ?_
    refine q_top (z' := r (136 + x)) (by rw [hr]) ?_
    refine q_iret C dX4_wordProperty_101 ?_
    exact ⟨by rw [show k = 6 by omega]; rfl, rfl⟩

set_option maxRecDepth 100000 in
set_option maxHeartbeats 4000000 in
theorem k_X4_wordOrNone (l : Launch) {w : WP} {F : FF} {r : Rw} {x p : Int} (hr : F 111 = r) (hI : Iv r) (hl : 0 ≤ x ∧ x < 16) (hp : 0 ≤ p ∧ p < 6) : Con l yX4_wordOrNone cX4_wordOrNone 3 (some .int) 1 w [.ref (adr w 110), .int (iI x), .int (iI p)] F (QI w (fun z F' => z = W0 r x p ∧ F = F')) := by
  refine Con.mk (lv := [(0, .ref (adr w 110)), (1, .int (iI x)), (2, .int (iI p))]) (by decide) (Nat.le_of_ble_eq_true rfl) rfl ?_
  intro pg ev s0 mi be me co C hz
  refine q_iload_n C 2 dX4_wordOrNone_0 rfl ?_
  refine q_aload_n C 0 dX4_wordOrNone_1 rfl ?_
  refine q_get (T := TX4) (i := 0) C kd110 (by decide) rfl uws4 (by decide) wd_865 rfl dX4_wordOrNone_2 ?_
  refine q_iconst C 0 dX4_wordOrNone_5 ?_
  refine q_iload_n C 1 dX4_wordOrNone_6 rfl ?_
  refine q_iadd C dX4_wordOrNone_7 ?_
  refine q_iald C kd111 ⟨by omega, by rw [ln111]; omega⟩ dX4_wordOrNone_8 ?_
  refine q_top (z' := r x) (by rw [hr, Int.zero_add]) ?_
  have q_0 := hI.sz (l := x) (by omega) (by omega)
  refine q_icmp_ge C 21 dX4_wordOrNone_9 ⟨by omega, by omega⟩ ⟨by omega, by omega⟩ (by decide) (fun h9 => ?_) (fun h9 => ?_)
  · refine q_iconst C (-1) dX4_wordOrNone_21 ?_
    refine q_iret C dX4_wordOrNone_22 ?_
    exact ⟨by unfold W0; first | rw [if_pos (by omega)] | rw [if_neg (by omega)], rfl⟩
  · refine q_aload_n C 0 dX4_wordOrNone_12 rfl ?_
    refine q_iload_n C 1 dX4_wordOrNone_13 rfl ?_
    refine q_iload_n C 2 dX4_wordOrNone_14 rfl ?_
    refine q_cI (q_runV (As := [.int (iI x), .int (iI p)]) (rest := []) C (k_X4_wordAt l hr (x := x) (p := p) ⟨by omega, by omega⟩ ⟨by omega, by omega⟩) kd110 (by decide) rfl wd_948 wd_947 wd_25 wd_81 wd_945 nd_X4_wordAt rfl (by decide) ⟨Nat.zero_le _, Nat.zero_le _⟩ rfl (Nat.le_of_ble_eq_true rfl) dX4_wordOrNone_15) ?_
    rintro z F' ⟨rfl, rfl⟩
    have q15 := hI.wd (l := x) (p := p) (by omega) (by omega) (by omega) (by omega)
    refine q_goto C 22 dX4_wordOrNone_18 (by decide) ?_
    refine q_iret C dX4_wordOrNone_22 ?_
    exact ⟨by unfold W0; first | rw [if_pos (by omega)] | rw [if_neg (by omega)], rfl⟩

set_option maxRecDepth 100000 in
set_option maxHeartbeats 4000000 in
theorem k_X4_told (l : Launch) {w : WP} {F : FF} {x : Int} (hx : -1 ≤ x ∧ x ≤ 1000) : Con l yX4_told cX4_told 1 (some .int) 0 w [.int (iI x)] F (QI w (fun z F' => z = lc x ∧ F = F')) := by
  refine Con.mk (lv := [(0, .int (iI x))]) (by decide) (Nat.le_of_ble_eq_true rfl) rfl ?_
  intro pg ev s0 mi be me co C hz
  refine q_iload_n C 0 dX4_told_0 rfl ?_
  refine q_iconst C (-1) dX4_told_1 ?_
  refine q_icmp_ne C 9 dX4_told_2 ⟨by omega, by omega⟩ ⟨by decide, by decide⟩ (by decide) (fun h2 => ?_) (fun h2 => ?_)
  · refine q_bipush C 10 dX4_told_9 (by decide) ?_
    refine q_iload_n C 0 dX4_told_11 rfl ?_
    refine q_iconst C 4 dX4_told_12 ?_
    refine q_idiv C dX4_told_13 ⟨by omega, by omega⟩ ⟨by decide, by decide⟩ ?_
    refine q_imul C dX4_told_14 ?_
    refine q_iload_n C 0 dX4_told_15 rfl ?_
    refine q_iconst C 4 dX4_told_16 ?_
    refine q_irem C dX4_told_17 ⟨by omega, by omega⟩ ⟨by decide, by decide⟩ ?_
    refine q_iadd C dX4_told_18 ?_
    refine q_iret C dX4_told_19 ?_
    exact ⟨by unfold lc; first | rw [if_pos (by omega)] | rw [if_neg (by omega)], rfl⟩
  · refine q_iconst C (-1) dX4_told_5 ?_
    refine q_goto C 19 dX4_told_6 (by decide) ?_
    refine q_iret C dX4_told_19 ?_
    exact ⟨by unfold lc; first | rw [if_pos (by omega)] | rw [if_neg (by omega)], rfl⟩

set_option maxRecDepth 100000 in
set_option maxHeartbeats 4000000 in
theorem k_X4_isMixed (l : Launch) {w : WP} {F : FF} {r : Rw} {x : Int} (hr : F 111 = r) (hI : Iv r) (hl : 0 ≤ x ∧ x < 16) : Con l yX4_isMixed cX4_isMixed 4 (some .boolean) 2 w [.ref (adr w 110), .int (iI x)] F (QI w (fun z F' => (z = 1 ∧ mx r x = false ∨ z = 0 ∧ mx r x = true) ∧ F = F')) := by
  refine Con.mk (lv := [(0, .ref (adr w 110)), (1, .int (iI x))]) (by decide) (Nat.le_of_ble_eq_true rfl) rfl ?_
  intro pg ev s0 mi be me co C hz
  refine q_iconst C 1 dX4_isMixed_0 ?_
  refine q_istore_n (lv' := [(2, .int (iI 1)), (0, .ref (adr w 110)), (1, .int (iI x))]) C dX4_isMixed_1 (by decide) rfl ?_
  refine q_iconst C 0 dX4_isMixed_2 ?_
  refine q_istore_n (lv' := [(3, .int (iI 0)), (2, .int (iI 1)), (0, .ref (adr w 110)), (1, .int (iI x))]) C dX4_isMixed_3 (by decide) rfl ?_
  refine q_lv (lv' := [(0, .ref (adr w 110)), (1, .int (iI x)), (2, .int (iI 1)), (3, .int (iI 0))]) [2, 3, 1, 0] rfl ?_
  refine wf2 (P := fun (i : Int) (t : Int) => Wq pg l ev _ s0 mi _ be me co _ w _ _ _ 4 [(0, .ref (adr w 110)), (1, .int (iI x)), (2, .int (iI t)), (3, .int (iI i))] [] F) (I := fun (i : Int) (t : Int) => 0 ≤ i ∧ (i = 0 ∨ i ≤ r x - 1) ∧ (t = 1 ∧ an (fun k => clb (wa r x k) (wa r x (k + 1))) i = false ∨ t = 0 ∧ an (fun k => clb (wa r x k) (wa r x (k + 1))) i = true)) (μ := fun (i : Int) (t : Int) => (r x - i).toNat) ?_ 0 1 (⟨by omega, by omega, Or.inl ⟨rfl, rfl⟩⟩)
  intro i t hI' ih4
  (try dsimp only at hI'); (try dsimp only at ih4); (try dsimp only)
  obtain ⟨hi0, hi1, ht⟩ := hI'
  have hsx := hI.sz hl.1 hl.2
  refine q_iload_n C 3 dX4_isMixed_4 rfl ?_
  refine q_iconst C 1 dX4_isMixed_5 ?_
  refine q_iadd C dX4_isMixed_6 ?_
  refine q_aload_n C 0 dX4_isMixed_7 rfl ?_
  refine q_get (T := TX4) (i := 0) C kd110 (by decide) rfl uws4 (by decide) wd_865 rfl dX4_isMixed_8 ?_
  refine q_iconst C 0 dX4_isMixed_11 ?_
  refine q_iload_n C 1 dX4_isMixed_12 rfl ?_
  refine q_iadd C dX4_isMixed_13 ?_
  refine q_iald C kd111 ⟨by omega, by rw [ln111]; omega⟩ dX4_isMixed_14 ?_
  refine q_top (z' := r x) (by rw [hr, Int.zero_add]) ?_
  have q_0 := hI.sz (l := x) (by omega) (by omega)
  refine q_icmp_ge C 54 dX4_isMixed_15 ⟨by omega, by omega⟩ ⟨by omega, by omega⟩ (by decide) (fun h15 => ?_) (fun h15 => ?_)
  · refine q_iload_n C 2 dX4_isMixed_54 rfl ?_
    refine q_zret C dX4_isMixed_55 (by omega) ?_
    exact ⟨by rw [← mx_end (r := r) (x := x) (i := i) (by omega)]; exact ht, rfl⟩
  · refine q_iload_n C 2 dX4_isMixed_18 rfl ?_
    refine q_if_eq C 46 dX4_isMixed_19 ⟨by omega, by omega⟩  (by decide) (fun h19 => ?_) (fun h19 => ?_)
    · refine q_iconst C 0 dX4_isMixed_46 ?_
      refine q_istore_n (lv' := [(2, .int (iI 0)), (0, .ref (adr w 110)), (1, .int (iI x)), (3, .int (iI i))]) C dX4_isMixed_47 (by decide) rfl ?_
      refine q_iinc (lv' := [(3, .int (iI (i + 1))), (2, .int (iI 0)), (0, .ref (adr w 110)), (1, .int (iI x))]) C 3 dX4_isMixed_48 rfl (by decide) rfl ?_
      refine q_goto C 4 dX4_isMixed_51 (by decide) ?_
      refine q_lv (lv' := [(0, .ref (adr w 110)), (1, .int (iI x)), (2, .int (iI 0)), (3, .int (iI (i + 1)))]) [2, 3, 1, 0] rfl ?_
      exact ih4 (i + 1) 0 (⟨by omega, by omega, by rcases ht with ⟨ht, ha⟩ | ⟨ht, ha⟩ <;> rw [an_s hi0, ha] <;> first | (exfalso; omega) | exact Or.inr ⟨rfl, rfl⟩ | exact Or.inr ⟨rfl, decide_eq_true (by assumption)⟩ | exact Or.inl ⟨rfl, decide_eq_false (by assumption)⟩⟩) (by omega)
    · refine q_aload_n C 0 dX4_isMixed_22 rfl ?_
      refine q_iload_n C 1 dX4_isMixed_23 rfl ?_
      refine q_iload_n C 3 dX4_isMixed_24 rfl ?_
      refine q_cI (q_runV (As := [.int (iI x), .int (iI i)]) (rest := []) C (k_X4_wordAt l hr (x := x) (p := i) ⟨by omega, by omega⟩ ⟨by omega, by omega⟩) kd110 (by decide) rfl wd_948 wd_947 wd_25 wd_81 wd_945 nd_X4_wordAt rfl (by decide) ⟨Nat.zero_le _, Nat.zero_le _⟩ rfl (Nat.le_of_ble_eq_true rfl) dX4_isMixed_25) ?_
      rintro z F' ⟨rfl, rfl⟩
      have q25 := hI.wd (l := x) (p := i) (by omega) (by omega) (by omega) (by omega)
      refine q_aload_n C 0 dX4_isMixed_28 rfl ?_
      refine q_iload_n C 1 dX4_isMixed_29 rfl ?_
      refine q_iload_n C 3 dX4_isMixed_30 rfl ?_
      refine q_iconst C 1 dX4_isMixed_31 ?_
      refine q_iadd C dX4_isMixed_32 ?_
      refine q_cI (q_runV (As := [.int (iI x), .int (iI (i + 1))]) (rest := [.int (iI (wa r x i))]) C (k_X4_wordAt l hr (x := x) (p := i + 1) ⟨by omega, by omega⟩ ⟨by omega, by omega⟩) kd110 (by decide) rfl wd_948 wd_947 wd_25 wd_81 wd_945 nd_X4_wordAt rfl (by decide) ⟨Nat.zero_le _, Nat.zero_le _⟩ rfl (Nat.le_of_ble_eq_true rfl) dX4_isMixed_33) ?_
      rintro z F' ⟨rfl, rfl⟩
      have q33 := hI.wd (l := x) (p := i + 1) (by omega) (by omega) (by omega) (by omega)
      refine q_cI (q_runS (As := [.int (iI (wa r x i)), .int (iI (wa r x (i + 1)))]) (rest := []) C (k_X4_clash l (by omega) (by omega)) wd_970 wd_969 wd_81 wd_968 nd_X4_clash rfl (by decide) ⟨Nat.zero_le _, Nat.zero_le _⟩ rfl (Nat.le_of_ble_eq_true rfl) dX4_isMixed_36) ?_
      rintro z F' ⟨⟨rfl, hc36⟩ | ⟨rfl, hc36⟩, rfl⟩
      · refine q_if_ne C 46 dX4_isMixed_39 ⟨by decide, by decide⟩  (by decide) (fun _ => ?_) (fun h => absurd h (by decide))
        refine q_iconst C 0 dX4_isMixed_46 ?_
        refine q_istore_n (lv' := [(2, .int (iI 0)), (0, .ref (adr w 110)), (1, .int (iI x)), (3, .int (iI i))]) C dX4_isMixed_47 (by decide) rfl ?_
        refine q_iinc (lv' := [(3, .int (iI (i + 1))), (2, .int (iI 0)), (0, .ref (adr w 110)), (1, .int (iI x))]) C 3 dX4_isMixed_48 rfl (by decide) rfl ?_
        refine q_goto C 4 dX4_isMixed_51 (by decide) ?_
        refine q_lv (lv' := [(0, .ref (adr w 110)), (1, .int (iI x)), (2, .int (iI 0)), (3, .int (iI (i + 1)))]) [2, 3, 1, 0] rfl ?_
        exact ih4 (i + 1) 0 (⟨by omega, by omega, by rcases ht with ⟨ht, ha⟩ | ⟨ht, ha⟩ <;> rw [an_s hi0, ha] <;> first | (exfalso; omega) | exact Or.inr ⟨rfl, rfl⟩ | exact Or.inr ⟨rfl, decide_eq_true (by assumption)⟩ | exact Or.inl ⟨rfl, decide_eq_false (by assumption)⟩⟩) (by omega)
      · refine q_if_ne C 46 dX4_isMixed_39 ⟨by decide, by decide⟩  (by decide) (fun h => absurd h (by decide)) (fun _ => ?_)
        refine q_iconst C 1 dX4_isMixed_42 ?_
        refine q_goto C 47 dX4_isMixed_43 (by decide) ?_
        refine q_istore_n (lv' := [(2, .int (iI 1)), (0, .ref (adr w 110)), (1, .int (iI x)), (3, .int (iI i))]) C dX4_isMixed_47 (by decide) rfl ?_
        refine q_iinc (lv' := [(3, .int (iI (i + 1))), (2, .int (iI 1)), (0, .ref (adr w 110)), (1, .int (iI x))]) C 3 dX4_isMixed_48 rfl (by decide) rfl ?_
        refine q_goto C 4 dX4_isMixed_51 (by decide) ?_
        refine q_lv (lv' := [(0, .ref (adr w 110)), (1, .int (iI x)), (2, .int (iI 1)), (3, .int (iI (i + 1)))]) [2, 3, 1, 0] rfl ?_
        exact ih4 (i + 1) 1 (⟨by omega, by omega, by rcases ht with ⟨ht, ha⟩ | ⟨ht, ha⟩ <;> rw [an_s hi0, ha] <;> first | (exfalso; omega) | exact Or.inr ⟨rfl, rfl⟩ | exact Or.inr ⟨rfl, decide_eq_true (by assumption)⟩ | exact Or.inl ⟨rfl, decide_eq_false (by assumption)⟩⟩) (by omega)

set_option maxRecDepth 100000 in
set_option maxHeartbeats 4000000 in
theorem k_X4_lineProperty (l : Launch) {w : WP} {F : FF} {r : Rw} {x k : Int} (hr : F 111 = r) (hI : Iv r) (hl : 0 ≤ x ∧ x < 16) (hk : 0 ≤ k ∧ k < 8) : Con l yX4_lineProperty cX4_lineProperty 3 (some .int) 4 w [.ref (adr w 110), .int (iI x), .int (iI k)] F (QI w (fun z F' => z = lpr r x k ∧ F = F')) := by
  refine Con.mk (lv := [(0, .ref (adr w 110)), (1, .int (iI x)), (2, .int (iI k))]) (by decide) (Nat.le_of_ble_eq_true rfl) rfl ?_
  intro pg ev s0 mi be me co C hz
  refine q_iload_n C 2 dX4_lineProperty_0 rfl ?_
  rcases (show k = 0 ∨ k = 1 ∨ k = 2 ∨ k = 3 ∨ k = 4 ∨ k = 5 ∨ k = 6 ∨ (k < 0 ∨ 6 < k) by omega) with hsw | hsw | hsw | hsw | hsw | hsw | hsw | hsw
  · refine q_tableIn C 44 dX4_lineProperty_1 ⟨by omega, by omega⟩ (by omega) (by omega) (by rw [hsw]; rfl) (by decide) ?_
    refine q_aload_n C 0 dX4_lineProperty_44 rfl ?_
    refine q_get (T := TX4) (i := 0) C kd110 (by decide) rfl uws4 (by decide) wd_865 rfl dX4_lineProperty_45 ?_
    refine q_iconst C 0 dX4_lineProperty_48 ?_
    refine q_iload_n C 1 dX4_lineProperty_49 rfl ?_
    refine q_iadd C dX4_lineProperty_50 ?_
    refine q_iald C kd111 ⟨by omega, by rw [ln111]; omega⟩ dX4_lineProperty_51 ?_
    refine q_top (z' := r x) (by rw [hr, Int.zero_add]) ?_
    have q_0 := hI.sz (l := x) (by omega) (by omega)
    refine q_iret C dX4_lineProperty_52 ?_
    exact ⟨by rw [show k = _ from hsw]; rfl, rfl⟩
  · refine q_tableIn C 53 dX4_lineProperty_1 ⟨by omega, by omega⟩ (by omega) (by omega) (by rw [hsw]; rfl) (by decide) ?_
    refine q_aload_n C 0 dX4_lineProperty_53 rfl ?_
    refine q_iload_n C 1 dX4_lineProperty_54 rfl ?_
    refine q_cI (q_runV (As := [.int (iI x)]) (rest := []) C (k_X4_beatsOn l hr hI (x := x) ⟨by omega, by omega⟩) kd110 (by decide) rfl wd_960 wd_959 wd_28 wd_81 wd_957 nd_X4_beatsOn rfl (by decide) ⟨Nat.zero_le _, Nat.zero_le _⟩ rfl (Nat.le_of_ble_eq_true rfl) dX4_lineProperty_55) ?_
    rintro z F' ⟨rfl, rfl⟩
    have q55 := bo_line hI (l := x) (by omega) (by omega)
    refine q_iret C dX4_lineProperty_58 ?_
    exact ⟨by rw [show k = _ from hsw]; rfl, rfl⟩
  · refine q_tableIn C 59 dX4_lineProperty_1 ⟨by omega, by omega⟩ (by omega) (by omega) (by rw [hsw]; rfl) (by decide) ?_
    refine q_aload_n C 0 dX4_lineProperty_59 rfl ?_
    refine q_iload_n C 1 dX4_lineProperty_60 rfl ?_
    refine q_cI (q_runV (As := [.int (iI x)]) (rest := []) C (k_X4_lineWorth l hr hI (x := x) ⟨by omega, by omega⟩) kd110 (by decide) rfl wd_1072 wd_1071 wd_47 wd_81 wd_1069 nd_X4_lineWorth rfl (by decide) ⟨Nat.zero_le _, Nat.zero_le _⟩ rfl (Nat.le_of_ble_eq_true rfl) dX4_lineProperty_61) ?_
    rintro z F' ⟨rfl, rfl⟩
    have q61 := lw_bounds hI (l := x) (by omega) (by omega)
    refine q_iret C dX4_lineProperty_64 ?_
    exact ⟨by rw [show k = _ from hsw]; rfl, rfl⟩
  · refine q_tableIn C 65 dX4_lineProperty_1 ⟨by omega, by omega⟩ (by omega) (by omega) (by rw [hsw]; rfl) (by decide) ?_
    refine q_aload_n C 0 dX4_lineProperty_65 rfl ?_
    refine q_iload_n C 1 dX4_lineProperty_66 rfl ?_
    refine q_cI (q_runV (As := [.int (iI x)]) (rest := []) C (k_X4_lineEnding l hr hI (x := x) ⟨by omega, by omega⟩) kd110 (by decide) rfl wd_1025 wd_1024 wd_38 wd_81 wd_1022 nd_X4_lineEnding rfl (by decide) ⟨Nat.zero_le _, Nat.zero_le _⟩ rfl (Nat.le_of_ble_eq_true rfl) dX4_lineProperty_67) ?_
    rintro z F' ⟨rfl, rfl⟩
    have q67 := le_range hI (l := x) (by omega) (by omega)
    refine q_iret C dX4_lineProperty_70 ?_
    exact ⟨by rw [show k = _ from hsw]; rfl, rfl⟩
  · refine q_tableIn C 71 dX4_lineProperty_1 ⟨by omega, by omega⟩ (by omega) (by omega) (by rw [hsw]; rfl) (by decide) ?_
    refine q_aload_n C 0 dX4_lineProperty_71 rfl ?_
    refine q_get (T := TX4) (i := 0) C kd110 (by decide) rfl uws4 (by decide) wd_865 rfl dX4_lineProperty_72 ?_
    refine q_bipush C 112 dX4_lineProperty_75 (by decide) ?_
    refine q_iload_n C 1 dX4_lineProperty_77 rfl ?_
    refine q_iadd C dX4_lineProperty_78 ?_
    refine q_iald C kd111 ⟨by omega, by rw [ln111]; omega⟩ dX4_lineProperty_79 ?_
    refine q_top (z' := r (112 + x)) (by rw [hr]) ?_
    have q_1 := hI.ld (l := x) (by omega) (by omega)
    refine q_iconst C 1 dX4_lineProperty_80 ?_
    refine q_isub C dX4_lineProperty_81 ?_
    refine q_cI (q_runS (As := [.int (iI ((r (112 + x)) - 1))]) (rest := []) C (k_X4_told l ⟨by omega, by omega⟩) wd_1178 wd_1177 wd_81 wd_1176 nd_X4_told rfl (by decide) ⟨Nat.zero_le _, Nat.zero_le _⟩ rfl (Nat.le_of_ble_eq_true rfl) dX4_lineProperty_82) ?_
    rintro z F' ⟨rfl, rfl⟩
    refine q_iret C dX4_lineProperty_85 ?_
    exact ⟨by rw [show k = _ from hsw]; rfl, rfl⟩
  · refine q_tableIn C 86 dX4_lineProperty_1 ⟨by omega, by omega⟩ (by omega) (by omega) (by rw [hsw]; rfl) (by decide) ?_
    refine q_aload_n C 0 dX4_lineProperty_86 rfl ?_
    refine q_iload_n C 1 dX4_lineProperty_87 rfl ?_
    refine q_cI (q_runV (As := [.int (iI x)]) (rest := []) C (k_X4_borrowerOf l hr hI (x := x) ⟨by omega, by omega⟩) kd110 (by decide) rfl wd_1021 wd_1020 wd_37 wd_81 wd_1018 nd_X4_borrowerOf rfl (by decide) ⟨Nat.zero_le _, Nat.zero_le _⟩ rfl (Nat.le_of_ble_eq_true rfl) dX4_lineProperty_88) ?_
    rintro z F' ⟨rfl, rfl⟩
    have q88 := bor_range r x
    refine q_cI (q_runS (As := [.int (iI (bor r x))]) (rest := []) C (k_X4_told l ⟨by omega, by omega⟩) wd_1178 wd_1177 wd_81 wd_1176 nd_X4_told rfl (by decide) ⟨Nat.zero_le _, Nat.zero_le _⟩ rfl (Nat.le_of_ble_eq_true rfl) dX4_lineProperty_91) ?_
    rintro z F' ⟨rfl, rfl⟩
    refine q_iret C dX4_lineProperty_94 ?_
    exact ⟨by rw [show k = _ from hsw]; rfl, rfl⟩
  · refine q_tableIn C 95 dX4_lineProperty_1 ⟨by omega, by omega⟩ (by omega) (by omega) (by rw [hsw]; rfl) (by decide) ?_
    refine q_aload_n C 0 dX4_lineProperty_95 rfl ?_
    refine q_iload_n C 1 dX4_lineProperty_96 rfl ?_
    refine q_cI (q_runV (As := [.int (iI x)]) (rest := []) C (k_X4_rhymes l hr hI (x := x) ⟨by omega, by omega⟩) kd110 (by decide) rfl wd_1068 wd_1067 wd_46 wd_81 wd_1065 nd_X4_rhymes rfl (by decide) ⟨Nat.zero_le _, Nat.zero_le _⟩ rfl (Nat.le_of_ble_eq_true rfl) dX4_lineProperty_97) ?_
    rintro z F' ⟨rfl, rfl⟩
    have q97 := rhE_range r x (le r x); have q_97 : 0 ≤ rh r x ∧ rh r x ≤ 4 := q97
    refine q_iret C dX4_lineProperty_100 ?_
    exact ⟨by rw [show k = _ from hsw]; rfl, rfl⟩
  · refine q_tableOut C 101 dX4_lineProperty_1 ⟨by omega, by omega⟩ hsw (by decide) ?_
    refine q_aload_n C 0 dX4_lineProperty_101 rfl ?_
    refine q_iload_n C 1 dX4_lineProperty_102 rfl ?_
    refine q_cI (q_runV (As := [.int (iI x)]) (rest := []) C (k_X4_isMixed l hr hI (x := x) ⟨by omega, by omega⟩) kd110 (by decide) rfl wd_1182 wd_1181 wd_61 wd_81 wd_1179 nd_X4_isMixed rfl (by decide) ⟨Nat.zero_le _, Nat.zero_le _⟩ rfl (Nat.le_of_ble_eq_true rfl) dX4_lineProperty_103) ?_
    rintro z F' ⟨⟨rfl, hm103⟩ | ⟨rfl, hm103⟩, rfl⟩
    · refine q_if_eq C 113 dX4_lineProperty_106 ⟨by decide, by decide⟩  (by decide) (fun h => absurd h (by decide)) (fun _ => ?_)
      refine q_iconst C 1 dX4_lineProperty_109 ?_
      refine q_goto C 114 dX4_lineProperty_110 (by decide) ?_
      refine q_iret C dX4_lineProperty_114 ?_
      exact ⟨by rw [show k = 7 by omega]; show _ = if mx r x = true then _ else _; rw [hm103]; rfl, rfl⟩
    · refine q_if_eq C 113 dX4_lineProperty_106 ⟨by decide, by decide⟩  (by decide) (fun _ => ?_) (fun h => absurd h (by decide))
      refine q_iconst C 0 dX4_lineProperty_113 ?_
      refine q_iret C dX4_lineProperty_114 ?_
      exact ⟨by rw [show k = 7 by omega]; show _ = if mx r x = true then _ else _; rw [hm103]; rfl, rfl⟩

set_option maxRecDepth 100000 in
set_option maxHeartbeats 4000000 in
theorem k_X4_doorProperty (l : Launch) {w : WP} {F : FF} {r : Rw} {d k : Int} (hr : F 111 = r) (hI : Iv r) (hd : 0 ≤ d ∧ d < 4) (hk : 0 ≤ k ∧ k < 5) : Con l yX4_doorProperty cX4_doorProperty 3 (some .int) 6 w [.ref (adr w 110), .int (iI d), .int (iI k)] F (QI w (fun z F' => z = dpr r d k ∧ F = F')) := by
  refine Con.mk (lv := [(0, .ref (adr w 110)), (1, .int (iI d)), (2, .int (iI k))]) (by decide) (Nat.le_of_ble_eq_true rfl) rfl ?_
  intro pg ev s0 mi be me co C hz
  refine q_iload_n C 2 dX4_doorProperty_0 rfl ?_
  rcases (show k = 0 ∨ k = 1 ∨ k = 2 ∨ k = 3 ∨ (k < 0 ∨ 3 < k) by omega) with hsw | hsw | hsw | hsw | hsw
  · refine q_tableIn C 32 dX4_doorProperty_1 ⟨by omega, by omega⟩ (by omega) (by omega) (by rw [hsw]; rfl) (by decide) ?_
    refine q_aload_n C 0 dX4_doorProperty_32 rfl ?_
    refine q_iload_n C 1 dX4_doorProperty_33 rfl ?_
    refine q_cI (q_runV (As := [.int (iI d)]) (rest := []) C (k_X4_doorWorth l hr hI (d := d) ⟨by omega, by omega⟩) kd110 (by decide) rfl wd_1060 wd_1059 wd_44 wd_81 wd_1057 nd_X4_doorWorth rfl (by decide) ⟨Nat.zero_le _, Nat.zero_le _⟩ rfl (Nat.le_of_ble_eq_true rfl) dX4_doorProperty_34) ?_
    rintro z F' ⟨rfl, rfl⟩
    have q34 := dw_range hI (d := d) (by omega) (by omega)
    refine q_iret C dX4_doorProperty_37 ?_
    exact ⟨by rw [show k = _ from hsw]; rfl, rfl⟩
  · refine q_tableIn C 38 dX4_doorProperty_1 ⟨by omega, by omega⟩ (by omega) (by omega) (by rw [hsw]; rfl) (by decide) ?_
    refine q_aload_n C 0 dX4_doorProperty_38 rfl ?_
    refine q_iload_n C 1 dX4_doorProperty_39 rfl ?_
    refine q_cI (q_runV (As := [.int (iI d)]) (rest := []) C (k_X4_doorWords l hr hI (d := d) ⟨by omega, by omega⟩) kd110 (by decide) rfl wd_1056 wd_1055 wd_43 wd_81 wd_1053 nd_X4_doorWords rfl (by decide) ⟨Nat.zero_le _, Nat.zero_le _⟩ rfl (Nat.le_of_ble_eq_true rfl) dX4_doorProperty_40) ?_
    rintro z F' ⟨rfl, rfl⟩
    have q40 := dwo_range hI (d := d) (by omega) (by omega)
    refine q_iret C dX4_doorProperty_43 ?_
    exact ⟨by rw [show k = _ from hsw]; rfl, rfl⟩
  · refine q_tableIn C 44 dX4_doorProperty_1 ⟨by omega, by omega⟩ (by omega) (by omega) (by rw [hsw]; rfl) (by decide) ?_
    refine q_aload_n C 0 dX4_doorProperty_44 rfl ?_
    refine q_iload_n C 1 dX4_doorProperty_45 rfl ?_
    refine q_cI (q_runV (As := [.int (iI d)]) (rest := []) C (k_X4_pairs l hr hI (d := d) ⟨by omega, by omega⟩) kd110 (by decide) rfl wd_1064 wd_1063 wd_45 wd_81 wd_1061 nd_X4_pairs rfl (by decide) ⟨Nat.zero_le _, Nat.zero_le _⟩ rfl (Nat.le_of_ble_eq_true rfl) dX4_doorProperty_46) ?_
    rintro z F' ⟨rfl, rfl⟩
    have q46 := prs_range r d
    refine q_iret C dX4_doorProperty_49 ?_
    exact ⟨by rw [show k = _ from hsw]; rfl, rfl⟩
  · refine q_tableIn C 50 dX4_doorProperty_1 ⟨by omega, by omega⟩ (by omega) (by omega) (by rw [hsw]; rfl) (by decide) ?_
    refine q_aload_n C 0 dX4_doorProperty_50 rfl ?_
    refine q_get (T := TX4) (i := 0) C kd110 (by decide) rfl uws4 (by decide) wd_865 rfl dX4_doorProperty_51 ?_
    refine q_sipush C 128 dX4_doorProperty_54 (by decide) ?_
    refine q_iload_n C 1 dX4_doorProperty_57 rfl ?_
    refine q_iadd C dX4_doorProperty_58 ?_
    refine q_iald C kd111 ⟨by omega, by rw [ln111]; omega⟩ dX4_doorProperty_59 ?_
    refine q_top (z' := r (128 + d)) (by rw [hr]) ?_
    have q_0 := hI.wt (d := d) (by omega) (by omega)
    refine q_iret C dX4_doorProperty_60 ?_
    exact ⟨by rw [show k = _ from hsw]; rfl, rfl⟩
  · refine q_tableOut C 61 dX4_doorProperty_1 ⟨by omega, by omega⟩ hsw (by decide) ?_
    refine q_aload_n C 0 dX4_doorProperty_61 rfl ?_
    refine q_get (T := TX4) (i := 0) C kd110 (by decide) rfl uws4 (by decide) wd_865 rfl dX4_doorProperty_62 ?_
    refine q_sipush C 132 dX4_doorProperty_65 (by decide) ?_
    refine q_iload_n C 1 dX4_doorProperty_68 rfl ?_
    refine q_iadd C dX4_doorProperty_69 ?_
    refine q_iald C kd111 ⟨by omega, by rw [ln111]; omega⟩ dX4_doorProperty_70 ?_
    refine q_top (z' := r (132 + d)) (by rw [hr]) ?_
    refine q_iret C dX4_doorProperty_71 ?_
    exact ⟨by rw [show k = 4 by omega]; rfl, rfl⟩

set_option maxRecDepth 100000 in
set_option maxHeartbeats 4000000 in
theorem k_X4_stolenInAll (l : Launch) {w : WP} {F : FF} {r : Rw} (hr : F 111 = r) (hI : Iv r)  : Con l yX4_stolenInAll cX4_stolenInAll 3 (some .int) 0 w [.ref (adr w 110)] F (QI w (fun z F' => z = rbs r ∧ F = F')) := by
  refine Con.mk (lv := [(0, .ref (adr w 110))]) (by decide) (Nat.le_of_ble_eq_true rfl) rfl ?_
  intro pg ev s0 mi be me co C hz
  refine q_iconst C 0 dX4_stolenInAll_0 ?_
  refine q_istore_n (lv' := [(1, .int (iI 0)), (0, .ref (adr w 110))]) C dX4_stolenInAll_1 (by decide) rfl ?_
  refine q_iconst C 0 dX4_stolenInAll_2 ?_
  refine q_istore_n (lv' := [(2, .int (iI 0)), (1, .int (iI 0)), (0, .ref (adr w 110))]) C dX4_stolenInAll_3 (by decide) rfl ?_
  refine q_lv (lv' := [(0, .ref (adr w 110)), (1, .int (iI 0)), (2, .int (iI 0))]) [2, 1, 0] rfl ?_
  refine wf2 (P := fun (i : Int) (n : Int) => Wq pg l ev _ s0 mi _ be me co _ w _ _ _ 4 [(0, .ref (adr w 110)), (1, .int (iI n)), (2, .int (iI i))] [] F) (I := fun (i : Int) (n : Int) => 0 ≤ i ∧ i ≤ 4 ∧ n = sm (fun d => r (132 + d)) i) (μ := fun (i : Int) (n : Int) => (4 - i).toNat) ?_ 0 0 (⟨by omega, by omega, rfl⟩)
  intro i n hI' ih4
  (try dsimp only at hI'); (try dsimp only at ih4); (try dsimp only)
  obtain ⟨hi0, hi1, hn⟩ := hI'
  refine q_iload_n C 2 dX4_stolenInAll_4 rfl ?_
  refine q_iconst C 4 dX4_stolenInAll_5 ?_
  refine q_icmp_ge C 28 dX4_stolenInAll_6 ⟨by omega, by omega⟩ ⟨by decide, by decide⟩ (by decide) (fun h6 => ?_) (fun h6 => ?_)
  · refine q_iload_n C 1 dX4_stolenInAll_28 rfl ?_
    refine q_iret C dX4_stolenInAll_29 ?_
    exact ⟨by rw [hn, show i = 4 by omega, sm_4]; rfl, rfl⟩
  · refine q_iload_n C 1 dX4_stolenInAll_9 rfl ?_
    refine q_aload_n C 0 dX4_stolenInAll_10 rfl ?_
    refine q_get (T := TX4) (i := 0) C kd110 (by decide) rfl uws4 (by decide) wd_865 rfl dX4_stolenInAll_11 ?_
    refine q_sipush C 132 dX4_stolenInAll_14 (by decide) ?_
    refine q_iload_n C 2 dX4_stolenInAll_17 rfl ?_
    refine q_iadd C dX4_stolenInAll_18 ?_
    refine q_iald C kd111 ⟨by omega, by rw [ln111]; omega⟩ dX4_stolenInAll_19 ?_
    refine q_top (z' := r (132 + i)) (by rw [hr]) ?_
    refine q_iadd C dX4_stolenInAll_20 ?_
    refine q_istore_n (lv' := [(1, .int (iI (n + (r (132 + i))))), (0, .ref (adr w 110)), (2, .int (iI i))]) C dX4_stolenInAll_21 (by decide) rfl ?_
    refine q_iinc (lv' := [(2, .int (iI (i + 1))), (1, .int (iI (n + (r (132 + i))))), (0, .ref (adr w 110))]) C 2 dX4_stolenInAll_22 rfl (by decide) rfl ?_
    refine q_goto C 4 dX4_stolenInAll_25 (by decide) ?_
    refine q_lv (lv' := [(0, .ref (adr w 110)), (1, .int (iI (n + (r (132 + i))))), (2, .int (iI (i + 1)))]) [2, 1, 0] rfl ?_
    exact ih4 (i + 1) (n + (r (132 + i))) (⟨by omega, by omega, by rw [sm_s hi0, hn]⟩) (by omega)

set_option maxRecDepth 100000 in
set_option maxHeartbeats 4000000 in
theorem k_X4_lentNow (l : Launch) {w : WP} {F : FF} {r : Rw} (hr : F 111 = r) (hI : Iv r)  : Con l yX4_lentNow cX4_lentNow 3 (some .int) 0 w [.ref (adr w 110)] F (QI w (fun z F' => z = lnt r ∧ F = F')) := by
  refine Con.mk (lv := [(0, .ref (adr w 110))]) (by decide) (Nat.le_of_ble_eq_true rfl) rfl ?_
  intro pg ev s0 mi be me co C hz
  refine q_iconst C 0 dX4_lentNow_0 ?_
  refine q_istore_n (lv' := [(1, .int (iI 0)), (0, .ref (adr w 110))]) C dX4_lentNow_1 (by decide) rfl ?_
  refine q_iconst C 0 dX4_lentNow_2 ?_
  refine q_istore_n (lv' := [(2, .int (iI 0)), (1, .int (iI 0)), (0, .ref (adr w 110))]) C dX4_lentNow_3 (by decide) rfl ?_
  refine q_lv (lv' := [(0, .ref (adr w 110)), (1, .int (iI 0)), (2, .int (iI 0))]) [2, 1, 0] rfl ?_
  refine wf2 (P := fun (i : Int) (n : Int) => Wq pg l ev _ s0 mi _ be me co _ w _ _ _ 4 [(0, .ref (adr w 110)), (1, .int (iI n)), (2, .int (iI i))] [] F) (I := fun (i : Int) (n : Int) => 0 ≤ i ∧ i ≤ 16 ∧ n = sm (fun l => if 0 < r (112 + l) then 1 else 0) i) (μ := fun (i : Int) (n : Int) => (16 - i).toNat) ?_ 0 0 (⟨by omega, by omega, rfl⟩)
  intro i n hI' ih4
  (try dsimp only at hI'); (try dsimp only at ih4); (try dsimp only)
  obtain ⟨hi0, hi1, hn⟩ := hI'
  refine q_iload_n C 2 dX4_lentNow_4 rfl ?_
  refine q_bipush C 16 dX4_lentNow_5 (by decide) ?_
  refine q_icmp_ge C 36 dX4_lentNow_7 ⟨by omega, by omega⟩ ⟨by decide, by decide⟩ (by decide) (fun h7 => ?_) (fun h7 => ?_)
  · refine q_iload_n C 1 dX4_lentNow_36 rfl ?_
    refine q_iret C dX4_lentNow_37 ?_
    exact ⟨by rw [hn, show i = 16 by omega]; rfl, rfl⟩
  · refine q_iload_n C 1 dX4_lentNow_10 rfl ?_
    refine q_aload_n C 0 dX4_lentNow_11 rfl ?_
    refine q_get (T := TX4) (i := 0) C kd110 (by decide) rfl uws4 (by decide) wd_865 rfl dX4_lentNow_12 ?_
    refine q_bipush C 112 dX4_lentNow_15 (by decide) ?_
    refine q_iload_n C 2 dX4_lentNow_17 rfl ?_
    refine q_iadd C dX4_lentNow_18 ?_
    refine q_iald C kd111 ⟨by omega, by rw [ln111]; omega⟩ dX4_lentNow_19 ?_
    refine q_top (z' := r (112 + i)) (by rw [hr]) ?_
    have q_0 := hI.ld (l := i) (by omega) (by omega)
    refine q_if_le C 27 dX4_lentNow_20 ⟨by omega, by omega⟩  (by decide) (fun h20 => ?_) (fun h20 => ?_)
    · refine q_iconst C 0 dX4_lentNow_27 ?_
      refine q_iadd C dX4_lentNow_28 ?_
      refine q_istore_n (lv' := [(1, .int (iI (n + 0))), (0, .ref (adr w 110)), (2, .int (iI i))]) C dX4_lentNow_29 (by decide) rfl ?_
      refine q_iinc (lv' := [(2, .int (iI (i + 1))), (1, .int (iI (n + 0))), (0, .ref (adr w 110))]) C 2 dX4_lentNow_30 rfl (by decide) rfl ?_
      refine q_goto C 4 dX4_lentNow_33 (by decide) ?_
      refine q_lv (lv' := [(0, .ref (adr w 110)), (1, .int (iI (n + 0))), (2, .int (iI (i + 1)))]) [2, 1, 0] rfl ?_
      exact ih4 (i + 1) (n + 0) (⟨by omega, by omega, by rw [sm_s hi0, hn]; first | rw [if_pos (by omega)] | rw [if_neg (by omega)]⟩) (by omega)
    · refine q_iconst C 1 dX4_lentNow_23 ?_
      refine q_goto C 28 dX4_lentNow_24 (by decide) ?_
      refine q_iadd C dX4_lentNow_28 ?_
      refine q_istore_n (lv' := [(1, .int (iI (n + 1))), (0, .ref (adr w 110)), (2, .int (iI i))]) C dX4_lentNow_29 (by decide) rfl ?_
      refine q_iinc (lv' := [(2, .int (iI (i + 1))), (1, .int (iI (n + 1))), (0, .ref (adr w 110))]) C 2 dX4_lentNow_30 rfl (by decide) rfl ?_
      refine q_goto C 4 dX4_lentNow_33 (by decide) ?_
      refine q_lv (lv' := [(0, .ref (adr w 110)), (1, .int (iI (n + 1))), (2, .int (iI (i + 1)))]) [2, 1, 0] rfl ?_
      exact ih4 (i + 1) (n + 1) (⟨by omega, by omega, by rw [sm_s hi0, hn]; first | rw [if_pos (by omega)] | rw [if_neg (by omega)]⟩) (by omega)

set_option maxRecDepth 100000 in
set_option maxHeartbeats 4000000 in
theorem k_X4_allWorth (l : Launch) {w : WP} {F : FF} {r : Rw} (hr : F 111 = r) (hI : Iv r)  : Con l yX4_allWorth cX4_allWorth 3 (some .int) 6 w [.ref (adr w 110)] F (QI w (fun z F' => z = aw r ∧ F = F')) := by
  refine Con.mk (lv := [(0, .ref (adr w 110))]) (by decide) (Nat.le_of_ble_eq_true rfl) rfl ?_
  intro pg ev s0 mi be me co C hz
  refine q_iconst C 0 dX4_allWorth_0 ?_
  refine q_istore_n (lv' := [(1, .int (iI 0)), (0, .ref (adr w 110))]) C dX4_allWorth_1 (by decide) rfl ?_
  refine q_iconst C 0 dX4_allWorth_2 ?_
  refine q_istore_n (lv' := [(2, .int (iI 0)), (1, .int (iI 0)), (0, .ref (adr w 110))]) C dX4_allWorth_3 (by decide) rfl ?_
  refine q_lv (lv' := [(0, .ref (adr w 110)), (1, .int (iI 0)), (2, .int (iI 0))]) [2, 1, 0] rfl ?_
  refine wf2 (P := fun (i : Int) (n : Int) => Wq pg l ev _ s0 mi _ be me co _ w _ _ _ 4 [(0, .ref (adr w 110)), (1, .int (iI n)), (2, .int (iI i))] [] F) (I := fun (i : Int) (n : Int) => 0 ≤ i ∧ i ≤ 4 ∧ n = sm (fun d => dw r d) i) (μ := fun (i : Int) (n : Int) => (4 - i).toNat) ?_ 0 0 (⟨by omega, by omega, rfl⟩)
  intro i n hI' ih4
  (try dsimp only at hI'); (try dsimp only at ih4); (try dsimp only)
  obtain ⟨hi0, hi1, hn⟩ := hI'
  refine q_iload_n C 2 dX4_allWorth_4 rfl ?_
  refine q_iconst C 4 dX4_allWorth_5 ?_
  refine q_icmp_ge C 23 dX4_allWorth_6 ⟨by omega, by omega⟩ ⟨by decide, by decide⟩ (by decide) (fun h6 => ?_) (fun h6 => ?_)
  · refine q_iload_n C 1 dX4_allWorth_23 rfl ?_
    refine q_iret C dX4_allWorth_24 ?_
    exact ⟨by rw [hn, show i = 4 by omega]; rfl, rfl⟩
  · refine q_iload_n C 1 dX4_allWorth_9 rfl ?_
    refine q_aload_n C 0 dX4_allWorth_10 rfl ?_
    refine q_iload_n C 2 dX4_allWorth_11 rfl ?_
    refine q_cI (q_runV (As := [.int (iI i)]) (rest := [.int (iI n)]) C (k_X4_doorWorth l hr hI (d := i) ⟨by omega, by omega⟩) kd110 (by decide) rfl wd_1060 wd_1059 wd_44 wd_81 wd_1057 nd_X4_doorWorth rfl (by decide) ⟨Nat.zero_le _, Nat.zero_le _⟩ rfl (Nat.le_of_ble_eq_true rfl) dX4_allWorth_12) ?_
    rintro z F' ⟨rfl, rfl⟩
    have q12 := dw_range hI (d := i) (by omega) (by omega)
    refine q_iadd C dX4_allWorth_15 ?_
    refine q_istore_n (lv' := [(1, .int (iI (n + (dw r i)))), (0, .ref (adr w 110)), (2, .int (iI i))]) C dX4_allWorth_16 (by decide) rfl ?_
    refine q_iinc (lv' := [(2, .int (iI (i + 1))), (1, .int (iI (n + (dw r i)))), (0, .ref (adr w 110))]) C 2 dX4_allWorth_17 rfl (by decide) rfl ?_
    refine q_goto C 4 dX4_allWorth_20 (by decide) ?_
    refine q_lv (lv' := [(0, .ref (adr w 110)), (1, .int (iI (n + (dw r i)))), (2, .int (iI (i + 1)))]) [2, 1, 0] rfl ?_
    exact ih4 (i + 1) (n + (dw r i)) (⟨by omega, by omega, by rw [sm_s hi0, hn]⟩) (by omega)

set_option maxRecDepth 100000 in
set_option maxHeartbeats 4000000 in
theorem k_X4_share (l : Launch) {w : WP} {F : FF} {r : Rw} (hr : F 111 = r) (hI : Iv r)  : Con l yX4_share cX4_share 1 (some .double) 1 w [.ref (adr w 110)] F (QD w (fun z F' => z = shr (40 - bg r) ∧ F = F')) := by
  refine Con.mk (lv := [(0, .ref (adr w 110))]) (by decide) (Nat.le_of_ble_eq_true rfl) rfl ?_
  intro pg ev s0 mi be me co C hz
  refine q_bipush C 40 dX4_share_0 (by decide) ?_
  refine q_aload_n C 0 dX4_share_2 rfl ?_
  refine q_cI (q_runV (As := []) (rest := [.int (iI 40)]) C (k_X4_inBag l hr hI ) kd110 (by decide) rfl wd_1143 wd_1142 wd_57 wd_81 wd_1140 nd_X4_inBag rfl (by decide) ⟨Nat.zero_le _, Nat.zero_le _⟩ rfl (Nat.le_of_ble_eq_true rfl) dX4_share_3) ?_
  rintro z F' ⟨rfl, rfl⟩
  have q3 := bg_range hI
  refine q_isub C dX4_share_6 ?_
  refine q_i2d C dX4_share_7 ?_
  refine q_ldc2d C wd_1259 dX4_share_8 ?_
  refine q_ddiv C (sh_n9 (x := 40 - bg r) (by omega) (by omega)) dX4_share_11 ?_
  refine q_dret C dX4_share_12 ?_
  exact ⟨rfl, rfl⟩

set_option maxRecDepth 100000 in
set_option maxHeartbeats 4000000 in
theorem k_X4_mix (l : Launch) {w : WP} {F : FF} {x : Int} : Con l yX4_mix cX4_mix 3 none 0 w [.ref (adr w 110), .long (iL x)] F (QV w (fun F' => F' = up F 110 16 (31 * F 110 16 + x))) := by
  refine Con.mk (lv := [(0, .ref (adr w 110)), (1, .long (iL x))]) (by decide) (Nat.le_of_ble_eq_true rfl) rfl ?_
  intro pg ev s0 mi be me co C hz
  refine q_aload_n C 0 dX4_mix_0 rfl ?_
  refine q_ldc2 C 31 rfl wd_1269 dX4_mix_1 ?_
  refine q_aload_n C 0 dX4_mix_4 rfl ?_
  refine q_get (T := TX4) (i := 16) C kd110 (by decide) rfl uws4 (by decide) wd_881 rfl dX4_mix_5 ?_
  refine q_lmul C dX4_mix_8 ?_
  refine q_lload_n C 1 dX4_mix_9 rfl ?_
  refine q_ladd C dX4_mix_10 ?_
  refine q_put (T := TX4) (tyX := tyX4) (i := 16) (j := 16) (z := ((31 * (F 110 16)) + x)) (ty := .long) C rfl kd110 (by decide) rfl uws4 tyX4_ok nmX4 (by decide) (kd_ln.2.2.2.2 kd110) wd_881 rfl rfl rfl rfl (fsS_4_16 w _ _ _) (Nat.le_of_ble_eq_true rfl) dX4_mix_11 ?_
  refine q_vret C dX4_mix_14 ?_
  rfl

set_option maxRecDepth 100000 in
set_option maxHeartbeats 4000000 in
theorem k_X4_mixLine (l : Launch) {w : WP} {F : FF} {r : Rw} {h : Int} {y : Int} (hr : F 111 = r) (hI : Iv r) (hh : F 110 16 = h) (hl : 0 ≤ y ∧ y < 16) : Con l yX4_mixLine cX4_mixLine 3 none 8 w [.ref (adr w 110), .int (iI y)] F (QV w (fun F' => F' 110 16 = hL r h y ∧ F' 111 = r ∧ FrX F F')) := by
  refine Con.mk (lv := [(0, .ref (adr w 110)), (1, .int (iI y))]) (by decide) (Nat.le_of_ble_eq_true rfl) rfl ?_
  intro pg ev s0 mi be me co C hz
  refine q_iconst C 0 dX4_mixLine_0 ?_
  refine q_istore_n (lv' := [(2, .int (iI 0)), (0, .ref (adr w 110)), (1, .int (iI y))]) C dX4_mixLine_1 (by decide) rfl ?_
  refine q_lv (lv' := [(0, .ref (adr w 110)), (1, .int (iI y)), (2, .int (iI 0))]) [1, 2, 0] rfl ?_
  refine wf2 (P := fun (p : Int) (G : FF) => Wq pg l ev _ s0 mi _ be me co _ w _ _ _ 2 [(0, .ref (adr w 110)), (1, .int (iI y)), (2, .int (iI p))] [] G) (I := fun (p : Int) (G : FF) => 0 ≤ p ∧ p ≤ 6 ∧ G 111 = r ∧ FrX F G ∧ G 110 16 = hP (W0 r y) h p) (μ := fun (p : Int) (G : FF) => (6 - p).toNat) ?_ 0 F (⟨by omega, by omega, hr, FrX.refl, by rw [hh]; rfl⟩)
  intro p G hI' ih2
  (try dsimp only at hI'); (try dsimp only at ih2); (try dsimp only)
  obtain ⟨hp0, hp1, hrG, hfG, hhG⟩ := hI'
  refine q_iload_n C 2 dX4_mixLine_2 rfl ?_
  refine q_bipush C 6 dX4_mixLine_3 (by decide) ?_
  refine q_icmp_ge C 25 dX4_mixLine_5 ⟨by omega, by omega⟩ ⟨by decide, by decide⟩ (by decide) (fun h5 => ?_) (fun h5 => ?_)
  · refine q_iconst C 0 dX4_mixLine_25 ?_
    refine q_istore_n (lv' := [(2, .int (iI 0)), (0, .ref (adr w 110)), (1, .int (iI y))]) C dX4_mixLine_26 (by decide) rfl ?_
    refine q_lv (lv' := [(0, .ref (adr w 110)), (1, .int (iI y)), (2, .int (iI 0))]) [1, 2, 0] rfl ?_
    refine wf2 (P := fun (q : Int) (G8 : FF) => Wq pg l ev _ s0 mi _ be me co _ w _ _ _ 27 [(0, .ref (adr w 110)), (1, .int (iI y)), (2, .int (iI q))] [] G8) (I := fun (q : Int) (G8 : FF) => 0 ≤ q ∧ q ≤ 8 ∧ G8 111 = r ∧ FrX F G8 ∧ G8 110 16 = hP (lpr r y) (hP (W0 r y) h 6) q) (μ := fun (q : Int) (G8 : FF) => (8 - q).toNat) ?_ 0 G (⟨by omega, by omega, hrG, hfG, by rw [hhG, show p = 6 by omega]; rfl⟩)
    intro q G8 hI' ih27
    (try dsimp only at hI'); (try dsimp only at ih27); (try dsimp only)
    obtain ⟨hq0, hq1, hrG8, hfG8, hhG8⟩ := hI'
    refine q_iload_n C 2 dX4_mixLine_27 rfl ?_
    refine q_bipush C 8 dX4_mixLine_28 (by decide) ?_
    refine q_icmp_ge C 50 dX4_mixLine_30 ⟨by omega, by omega⟩ ⟨by decide, by decide⟩ (by decide) (fun h30 => ?_) (fun h30 => ?_)
    · refine q_aload_n C 0 dX4_mixLine_50 rfl ?_
      refine q_aload_n C 0 dX4_mixLine_51 rfl ?_
      refine q_iload_n C 1 dX4_mixLine_52 rfl ?_
      refine q_cI (q_runV (As := [.int (iI y)]) (rest := [.ref (adr w 110)]) C (k_X4_bestFor (F := G8) l hrG8 hI (y := y) ⟨by omega, by omega⟩) kd110 (by decide) rfl wd_1226 wd_1225 wd_67 wd_81 wd_1223 nd_X4_bestFor rfl (by decide) ⟨Nat.zero_le _, Nat.zero_le _⟩ rfl (Nat.le_of_ble_eq_true rfl) dX4_mixLine_53) ?_
      rintro z G1 ⟨rfl, hEG1, hfaG1⟩
      have hfxG1 := FrX.tr hfG8 hfaG1
      have hhxG1 : G1 110 16 = hP (lpr r y) (hP (W0 r y) h 6) q := by rw [hfaG1 110 (by decide) (by decide)]; exact hhG8
      refine q_i2l C dX4_mixLine_56 ?_
      refine q_cV (q_runV (As := [.long (iL (wI (bf r y)))]) (rest := []) C (k_X4_mix (F := G1) l (x := wI (bf r y))) kd110 (by decide) rfl wd_1268 wd_1267 wd_73 wd_81 wd_1265 nd_X4_mix rfl (by decide) ⟨Nat.zero_le _, Nat.zero_le _⟩ rfl (Nat.le_of_ble_eq_true rfl) dX4_mixLine_57) ?_
      rintro F9 hF9
      subst hF9
      have hr2 : (up G1 110 16 (31 * G1 110 16 + (wI (bf r y)))) 111 = r := (up_k (by decide)).trans hEG1
      have hf2 := FrX.up16 (z := 31 * G1 110 16 + (wI (bf r y))) hfxG1
      have hh2 : (up G1 110 16 (31 * G1 110 16 + (wI (bf r y)))) 110 16 = 31 * (hP (lpr r y) (hP (W0 r y) h 6) q) + (wI (bf r y)) := by rw [up_eq, hhxG1]
      refine q_vret C dX4_mixLine_60 ?_
      exact ⟨by rw [hh2, show q = 8 by omega]; rfl, hr2, hf2⟩
    · refine q_aload_n C 0 dX4_mixLine_33 rfl ?_
      refine q_aload_n C 0 dX4_mixLine_34 rfl ?_
      refine q_iload_n C 1 dX4_mixLine_35 rfl ?_
      refine q_iload_n C 2 dX4_mixLine_36 rfl ?_
      refine q_cI (q_runV (As := [.int (iI y), .int (iI q)]) (rest := [.ref (adr w 110)]) C (k_X4_lineProperty l hrG8 hI (x := y) (k := q) ⟨by omega, by omega⟩ ⟨by omega, by omega⟩) kd110 (by decide) rfl wd_1175 wd_1174 wd_60 wd_81 wd_1172 nd_X4_lineProperty rfl (by decide) ⟨Nat.zero_le _, Nat.zero_le _⟩ rfl (Nat.le_of_ble_eq_true rfl) dX4_mixLine_37) ?_
      rintro z F' ⟨rfl, rfl⟩
      refine q_i2l C dX4_mixLine_40 ?_
      refine q_cV (q_runV (As := [.long (iL (wI (lpr r y q)))]) (rest := []) C (k_X4_mix (F := G8) l (x := wI (lpr r y q))) kd110 (by decide) rfl wd_1268 wd_1267 wd_73 wd_81 wd_1265 nd_X4_mix rfl (by decide) ⟨Nat.zero_le _, Nat.zero_le _⟩ rfl (Nat.le_of_ble_eq_true rfl) dX4_mixLine_41) ?_
      rintro F9 hF9
      subst hF9
      have hr3 : (up G8 110 16 (31 * G8 110 16 + (wI (lpr r y q)))) 111 = r := (up_k (by decide)).trans hrG8
      have hf3 := FrX.up16 (z := 31 * G8 110 16 + (wI (lpr r y q))) hfG8
      have hh3 : (up G8 110 16 (31 * G8 110 16 + (wI (lpr r y q)))) 110 16 = 31 * (hP (lpr r y) (hP (W0 r y) h 6) q) + (wI (lpr r y q)) := by rw [up_eq, hhG8]
      refine q_iinc (lv' := [(2, .int (iI (q + 1))), (0, .ref (adr w 110)), (1, .int (iI y))]) C 2 dX4_mixLine_44 rfl (by decide) rfl ?_
      refine q_goto C 27 dX4_mixLine_47 (by decide) ?_
      refine q_lv (lv' := [(0, .ref (adr w 110)), (1, .int (iI y)), (2, .int (iI (q + 1)))]) [1, 2, 0] rfl ?_
      exact ih27 (q + 1) (up G8 110 16 (31 * G8 110 16 + (wI (lpr r y q)))) (⟨by omega, by omega, hr3, hf3, by rw [hh3]; rw [hP_s hq0]⟩) (by omega)
  · refine q_aload_n C 0 dX4_mixLine_8 rfl ?_
    refine q_aload_n C 0 dX4_mixLine_9 rfl ?_
    refine q_iload_n C 1 dX4_mixLine_10 rfl ?_
    refine q_iload_n C 2 dX4_mixLine_11 rfl ?_
    refine q_cI (q_runV (As := [.int (iI y), .int (iI p)]) (rest := [.ref (adr w 110)]) C (k_X4_wordOrNone l hrG hI (x := y) (p := p) ⟨by omega, by omega⟩ ⟨by omega, by omega⟩) kd110 (by decide) rfl wd_1167 wd_1166 wd_59 wd_81 wd_1164 nd_X4_wordOrNone rfl (by decide) ⟨Nat.zero_le _, Nat.zero_le _⟩ rfl (Nat.le_of_ble_eq_true rfl) dX4_mixLine_12) ?_
    rintro z F' ⟨rfl, rfl⟩
    have q12 := W0_range (l := y) (p := p) hI (by omega) (by omega)
    refine q_i2l C dX4_mixLine_15 ?_
    refine q_cV (q_runV (As := [.long (iL (wI (W0 r y p)))]) (rest := []) C (k_X4_mix (F := G) l (x := wI (W0 r y p))) kd110 (by decide) rfl wd_1268 wd_1267 wd_73 wd_81 wd_1265 nd_X4_mix rfl (by decide) ⟨Nat.zero_le _, Nat.zero_le _⟩ rfl (Nat.le_of_ble_eq_true rfl) dX4_mixLine_16) ?_
    rintro F9 hF9
    subst hF9
    have hr4 : (up G 110 16 (31 * G 110 16 + (wI (W0 r y p)))) 111 = r := (up_k (by decide)).trans hrG
    have hf4 := FrX.up16 (z := 31 * G 110 16 + (wI (W0 r y p))) hfG
    have hh4 : (up G 110 16 (31 * G 110 16 + (wI (W0 r y p)))) 110 16 = 31 * (hP (W0 r y) h p) + (wI (W0 r y p)) := by rw [up_eq, hhG]
    refine q_iinc (lv' := [(2, .int (iI (p + 1))), (0, .ref (adr w 110)), (1, .int (iI y))]) C 2 dX4_mixLine_19 rfl (by decide) rfl ?_
    refine q_goto C 2 dX4_mixLine_22 (by decide) ?_
    refine q_lv (lv' := [(0, .ref (adr w 110)), (1, .int (iI y)), (2, .int (iI (p + 1)))]) [1, 2, 0] rfl ?_
    exact ih2 (p + 1) (up G 110 16 (31 * G 110 16 + (wI (W0 r y p)))) (⟨by omega, by omega, hr4, hf4, by rw [hh4]; rw [hP_s hp0]⟩) (by omega)

set_option maxRecDepth 100000 in
set_option maxHeartbeats 4000000 in
theorem k_X4_mixDoor (l : Launch) {w : WP} {F : FF} {r : Rw} {h : Int} {d : Int} (hr : F 111 = r) (hI : Iv r) (hh : F 110 16 = h) (hd : 0 ≤ d ∧ d < 4) : Con l yX4_mixDoor cX4_mixDoor 3 none 11 w [.ref (adr w 110), .int (iI d)] F (QV w (fun F' => F' 110 16 = hDn r (ngs r (3 : Int).toNat) h d ∧ F' 111 = r ∧ FrX F F')) := by
  refine Con.mk (lv := [(0, .ref (adr w 110)), (1, .int (iI d))]) (by decide) (Nat.le_of_ble_eq_true rfl) rfl ?_
  intro pg ev s0 mi be me co C hz
  refine q_iconst C 0 dX4_mixDoor_0 ?_
  refine q_istore_n (lv' := [(2, .int (iI 0)), (0, .ref (adr w 110)), (1, .int (iI d))]) C dX4_mixDoor_1 (by decide) rfl ?_
  refine q_lv (lv' := [(0, .ref (adr w 110)), (1, .int (iI d)), (2, .int (iI 0))]) [1, 2, 0] rfl ?_
  refine wf2 (P := fun (k : Int) (G : FF) => Wq pg l ev _ s0 mi _ be me co _ w _ _ _ 2 [(0, .ref (adr w 110)), (1, .int (iI d)), (2, .int (iI k))] [] G) (I := fun (k : Int) (G : FF) => 0 ≤ k ∧ k ≤ 5 ∧ G 111 = r ∧ FrX F G ∧ G 110 16 = hP (dpr r d) h k) (μ := fun (k : Int) (G : FF) => (5 - k).toNat) ?_ 0 F (⟨by omega, by omega, hr, FrX.refl, by rw [hh]; rfl⟩)
  intro k G hI' ih2
  (try dsimp only at hI'); (try dsimp only at ih2); (try dsimp only)
  obtain ⟨hk0, hk1, hrG, hfG, hhG⟩ := hI'
  refine q_iload_n C 2 dX4_mixDoor_2 rfl ?_
  refine q_iconst C 5 dX4_mixDoor_3 ?_
  refine q_icmp_ge C 24 dX4_mixDoor_4 ⟨by omega, by omega⟩ ⟨by decide, by decide⟩ (by decide) (fun h4 => ?_) (fun h4 => ?_)
  · refine q_iconst C 4 dX4_mixDoor_24 ?_
    refine q_iload_n C 1 dX4_mixDoor_25 rfl ?_
    refine q_imul C dX4_mixDoor_26 ?_
    refine q_istore_n (lv' := [(2, .int (iI (4 * d))), (0, .ref (adr w 110)), (1, .int (iI d))]) C dX4_mixDoor_27 (by decide) rfl ?_
    refine q_lv (lv' := [(0, .ref (adr w 110)), (1, .int (iI d)), (2, .int (iI (4 * d)))]) [1, 2, 0] rfl ?_
    refine wf2 (P := fun (o : Int) (G8 : FF) => Wq pg l ev _ s0 mi _ be me co _ w _ _ _ 28 [(0, .ref (adr w 110)), (1, .int (iI d)), (2, .int (iI o))] [] G8) (I := fun (o : Int) (G8 : FF) => 4 * d ≤ o ∧ o ≤ 4 * d + 4 ∧ G8 111 = r ∧ FrX F G8 ∧ G8 110 16 = it (fun a i => hL r a (4 * d + i)) (hP (dpr r d) h 5) (o - 4 * d).toNat) (μ := fun (o : Int) (G8 : FF) => (4 * d + 4 - o).toNat) ?_ (4 * d) G (⟨by omega, by omega, hrG, hfG, by rw [hhG, show k = 5 by omega, show 4 * d - 4 * d = 0 by omega]; rfl⟩)
    intro o G8 hI' ih28
    (try dsimp only at hI'); (try dsimp only at ih28); (try dsimp only)
    obtain ⟨ho0, ho1, hrG8, hfG8, hhG8⟩ := hI'
    refine q_iload_n C 2 dX4_mixDoor_28 rfl ?_
    refine q_iconst C 4 dX4_mixDoor_29 ?_
    refine q_iload_n C 1 dX4_mixDoor_30 rfl ?_
    refine q_imul C dX4_mixDoor_31 ?_
    refine q_iconst C 4 dX4_mixDoor_32 ?_
    refine q_iadd C dX4_mixDoor_33 ?_
    refine q_icmp_ge C 48 dX4_mixDoor_34 ⟨by omega, by omega⟩ ⟨by omega, by omega⟩ (by decide) (fun h34 => ?_) (fun h34 => ?_)
    · refine q_aload_n C 0 dX4_mixDoor_48 rfl ?_
      refine q_aload_n C 0 dX4_mixDoor_49 rfl ?_
      refine q_iconst C 3 dX4_mixDoor_50 ?_
      refine q_iload_n C 1 dX4_mixDoor_51 rfl ?_
      refine q_cI (q_runV (As := [.int (iI 3), .int (iI d)]) (rest := [.ref (adr w 110)]) C (k_X4_worthBehind (F := G8) l hrG8 hI (x := 3) (d := d) ⟨by omega, by omega⟩ ⟨by omega, by omega⟩) kd110 (by decide) rfl wd_1250 wd_1249 wd_71 wd_81 wd_1247 nd_X4_worthBehind rfl (by decide) ⟨Nat.zero_le _, Nat.zero_le _⟩ rfl (Nat.le_of_ble_eq_true rfl) dX4_mixDoor_52) ?_
      rintro z G1 ⟨rfl, hEG1, hfaG1⟩
      have hfxG1 := FrX.tr hfG8 hfaG1
      have hhxG1 : G1 110 16 = it (fun a i => hL r a (4 * d + i)) (hP (dpr r d) h 5) (o - 4 * d).toNat := by rw [hfaG1 110 (by decide) (by decide)]; exact hhG8
      refine q_i2l C dX4_mixDoor_55 ?_
      refine q_cV (q_runV (As := [.long (iL (wI (dw (ngs r (3 : Int).toNat) d)))]) (rest := []) C (k_X4_mix (F := G1) l (x := wI (dw (ngs r (3 : Int).toNat) d))) kd110 (by decide) rfl wd_1268 wd_1267 wd_73 wd_81 wd_1265 nd_X4_mix rfl (by decide) ⟨Nat.zero_le _, Nat.zero_le _⟩ rfl (Nat.le_of_ble_eq_true rfl) dX4_mixDoor_56) ?_
      rintro F9 hF9
      subst hF9
      have hr2 : (up G1 110 16 (31 * G1 110 16 + (wI (dw (ngs r (3 : Int).toNat) d)))) 111 = r := (up_k (by decide)).trans hEG1
      have hf2 := FrX.up16 (z := 31 * G1 110 16 + (wI (dw (ngs r (3 : Int).toNat) d))) hfxG1
      have hh2 : (up G1 110 16 (31 * G1 110 16 + (wI (dw (ngs r (3 : Int).toNat) d)))) 110 16 = 31 * (it (fun a i => hL r a (4 * d + i)) (hP (dpr r d) h 5) (o - 4 * d).toNat) + (wI (dw (ngs r (3 : Int).toNat) d)) := by rw [up_eq, hhxG1]
      refine q_vret C dX4_mixDoor_59 ?_
      exact ⟨by rw [hh2, show o - 4 * d = 4 by omega]; rfl, hr2, hf2⟩
    · refine q_aload_n C 0 dX4_mixDoor_37 rfl ?_
      refine q_iload_n C 2 dX4_mixDoor_38 rfl ?_
      refine q_cV (q_runV (As := [.int (iI o)]) (rest := []) C (k_X4_mixLine (F := G8) l hrG8 hI hhG8 (y := o) ⟨by omega, by omega⟩) kd110 (by decide) rfl wd_1277 wd_1276 wd_75 wd_81 wd_1274 nd_X4_mixLine rfl (by decide) ⟨Nat.zero_le _, Nat.zero_le _⟩ rfl (Nat.le_of_ble_eq_true rfl) dX4_mixDoor_39) ?_
      rintro G3 ⟨hhG3, hEG3, hfxG3⟩
      have hfzG3 := FrX.trans hfG8 hfxG3
      refine q_iinc (lv' := [(2, .int (iI (o + 1))), (0, .ref (adr w 110)), (1, .int (iI d))]) C 2 dX4_mixDoor_42 rfl (by decide) rfl ?_
      refine q_goto C 28 dX4_mixDoor_45 (by decide) ?_
      refine q_lv (lv' := [(0, .ref (adr w 110)), (1, .int (iI d)), (2, .int (iI (o + 1)))]) [1, 2, 0] rfl ?_
      exact ih28 (o + 1) G3 (⟨by omega, by omega, hEG3, hfzG3, by rw [hhG3]; rw [show o + 1 - 4 * d = (o - 4 * d) + 1 by omega, it_s (by omega), show 4 * d + (o - 4 * d) = o by omega]⟩) (by omega)
  · refine q_aload_n C 0 dX4_mixDoor_7 rfl ?_
    refine q_aload_n C 0 dX4_mixDoor_8 rfl ?_
    refine q_iload_n C 1 dX4_mixDoor_9 rfl ?_
    refine q_iload_n C 2 dX4_mixDoor_10 rfl ?_
    refine q_cI (q_runV (As := [.int (iI d), .int (iI k)]) (rest := [.ref (adr w 110)]) C (k_X4_doorProperty l hrG hI (d := d) (k := k) ⟨by omega, by omega⟩ ⟨by omega, by omega⟩) kd110 (by decide) rfl wd_1190 wd_1189 wd_62 wd_81 wd_1187 nd_X4_doorProperty rfl (by decide) ⟨Nat.zero_le _, Nat.zero_le _⟩ rfl (Nat.le_of_ble_eq_true rfl) dX4_mixDoor_11) ?_
    rintro z F' ⟨rfl, rfl⟩
    refine q_i2l C dX4_mixDoor_14 ?_
    refine q_cV (q_runV (As := [.long (iL (wI (dpr r d k)))]) (rest := []) C (k_X4_mix (F := G) l (x := wI (dpr r d k))) kd110 (by decide) rfl wd_1268 wd_1267 wd_73 wd_81 wd_1265 nd_X4_mix rfl (by decide) ⟨Nat.zero_le _, Nat.zero_le _⟩ rfl (Nat.le_of_ble_eq_true rfl) dX4_mixDoor_15) ?_
    rintro F9 hF9
    subst hF9
    have hr4 : (up G 110 16 (31 * G 110 16 + (wI (dpr r d k)))) 111 = r := (up_k (by decide)).trans hrG
    have hf4 := FrX.up16 (z := 31 * G 110 16 + (wI (dpr r d k))) hfG
    have hh4 : (up G 110 16 (31 * G 110 16 + (wI (dpr r d k)))) 110 16 = 31 * (hP (dpr r d) h k) + (wI (dpr r d k)) := by rw [up_eq, hhG]
    refine q_iinc (lv' := [(2, .int (iI (k + 1))), (0, .ref (adr w 110)), (1, .int (iI d))]) C 2 dX4_mixDoor_18 rfl (by decide) rfl ?_
    refine q_goto C 2 dX4_mixDoor_21 (by decide) ?_
    refine q_lv (lv' := [(0, .ref (adr w 110)), (1, .int (iI d)), (2, .int (iI (k + 1)))]) [1, 2, 0] rfl ?_
    exact ih2 (k + 1) (up G 110 16 (31 * G 110 16 + (wI (dpr r d k)))) (⟨by omega, by omega, hr4, hf4, by rw [hh4]; rw [hP_s hk0]⟩) (by omega)

set_option maxRecDepth 100000 in
set_option maxHeartbeats 4000000 in
theorem k_Jxe99ae_isNaN_b9ae7 (l : Launch) {w : WP} {F : FF} {x : Int} (hx : 0 ≤ x ∧ x ≤ 40) : Con l yJxe99ae_isNaN_b9ae7 cJxe99ae_isNaN_b9ae7 2 (some .boolean) 0 w [.double (shr x)] F (QI w (fun z F' => z = 0 ∧ F = F')) := by
  refine Con.mk (lv := [(0, .double (shr x))]) (by decide) (Nat.le_of_ble_eq_true rfl) rfl ?_
  intro pg ev s0 mi be me co C hz
  refine q_dload_n C 0 dJxe99ae_isNaN_b9ae7_0 rfl ?_
  refine q_dload_n C 0 dJxe99ae_isNaN_b9ae7_1 rfl ?_
  refine q_dcmp C 0 (by rw [sh_eq9 hx]; rfl) dJxe99ae_isNaN_b9ae7_2 ?_
  refine q_if_eq C 10 dJxe99ae_isNaN_b9ae7_3 ⟨by decide, by decide⟩  (by decide) (fun _ => ?_) (fun h => absurd h (by decide))
  refine q_iconst C 0 dJxe99ae_isNaN_b9ae7_10 ?_
  refine q_zret C dJxe99ae_isNaN_b9ae7_11 (by decide) ?_
  exact ⟨rfl, rfl⟩

set_option maxRecDepth 100000 in
set_option maxHeartbeats 4000000 in
theorem k_Jxe99ae_doubleToLongBits_ccdee (l : Launch) {w : WP} {F : FF} {x : Int} (hx : 0 ≤ x ∧ x ≤ 40) : Con l yJxe99ae_doubleToLongBits_ccdee cJxe99ae_doubleToLongBits_ccdee 2 (some .long) 2 w [.double (shr x)] F (QL w (fun z F' => z = shB x ∧ F = F')) := by
  refine Con.mk (lv := [(0, .double (shr x))]) (by decide) (Nat.le_of_ble_eq_true rfl) rfl ?_
  intro pg ev s0 mi be me co C hz
  refine q_dload_n C 0 dJxe99ae_doubleToLongBits_ccdee_0 rfl ?_
  refine q_cI (q_runS (As := [.double (shr x)]) (rest := []) C (k_Jxe99ae_isNaN_b9ae7 l hx) wd_1283 wd_1282 wd_88 wd_1281 nd_Jxe99ae_isNaN_b9ae7 rfl (by decide) ⟨Nat.zero_le _, Nat.zero_le _⟩ rfl (Nat.le_of_ble_eq_true rfl) dJxe99ae_doubleToLongBits_ccdee_1) ?_
  rintro z F' ⟨rfl, rfl⟩
  refine q_if_ne C 12 dJxe99ae_doubleToLongBits_ccdee_4 ⟨by decide, by decide⟩  (by decide) (fun h => absurd h (by decide)) (fun _ => ?_)
  refine q_dload_n C 0 dJxe99ae_doubleToLongBits_ccdee_7 rfl ?_
  refine q_d2raw C wd_1284 (by decide) dJxe99ae_doubleToLongBits_ccdee_8 ?_
  rw [d2raw_eq (shr x)]
  refine q_lret C dJxe99ae_doubleToLongBits_ccdee_11 ?_
  exact ⟨rfl, rfl⟩
