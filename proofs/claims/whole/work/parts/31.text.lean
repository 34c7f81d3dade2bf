/-! texts, poems, slots, the hash -/
def TX (F : FF) (P : PB) : Prop := F 0 6 = P.1 ∧ ∀ i, 0 ≤ i → i < P.1 → F 85 i = P.2 i
def FrT (F F' : FF) : Prop := ∀ k, k ≠ 0 → k ≠ 85 → F' k = F k
theorem FrT.refl {F : FF} : FrT F F := fun _ _ _ => rfl
theorem FrT.trans {F G H : FF} (h1 : FrT F G) (h2 : FrT G H) : FrT F H := fun k a b => (h2 k a b).trans (h1 k a b)
theorem FrT.up {F G : FF} {k : Nat} {i z : Int} (h : FrT F G) (h1 : k = 0 ∨ k = 85) : FrT F (up G k i z) := fun k' a b => by
  rw [up_k (by omega)]; exact h k' a b
theorem TX_em {F : FF} {P : PB} {c : Int} (h : TX F P) (h0 : 0 ≤ P.1) : TX (up (up F 85 P.1 c) 0 6 (P.1 + 1)) (em P c) := by
  refine ⟨up_eq, fun i a b => ?_⟩
  rw [em_1] at b
  rw [up_k (by omega)]
  show _ = if i = P.1 then c else P.2 i
  by_cases e : i = P.1
  · rw [if_pos e, e, up_eq]
  · rw [if_neg e, up_j e]; exact h.2 i a (by omega)
theorem emL_i {f : Int → Int} {P : PB} {k : Int} (h : 0 ≤ k) : emL f P (k + 1).toNat = emW (emL f P k.toNat) k (f k) := by
  rw [show (k + 1).toNat = k.toNat + 1 by omega]
  show emW _ (k.toNat : Int) (f (k.toNat : Int)) = _
  rw [Int.toNat_of_nonneg h]
theorem emL_a {f : Int → Int} {P : PB} {k : Int} (h : 0 ≤ k) (h1 : 0 < k) : emN (em (emL f P k.toNat) 44) (f k) = emL f P (k + 1).toNat := by
  rw [emL_i h]; unfold emW; rw [if_pos h1]
theorem emL_b {f : Int → Int} {P : PB} {k : Int} (h : 0 ≤ k) (h1 : ¬ 0 < k) (h2 : 0 < (emL f P k.toNat).1) : emN (em (emL f P k.toNat) 47) (f k) = emL f P (k + 1).toNat := by
  rw [emL_i h]; unfold emW; rw [if_neg h1, if_pos h2]
theorem emL_c {f : Int → Int} {P : PB} {k : Int} (h : 0 ≤ k) (h1 : ¬ 0 < k) (h2 : ¬ 0 < (emL f P k.toNat).1) : emN (emL f P k.toNat) (f k) = emL f P (k + 1).toNat := by
  rw [emL_i h]; unfold emW; rw [if_neg h1, if_neg h2]
theorem emL_si {f : Int → Int} {P : PB} {k : Int} (hP : 0 ≤ P.1) (h : 0 ≤ k) : (emL f P (k + 1).toNat).1 = (emL f P k.toNat).1 + (if (emL f P k.toNat).1 = 0 then 0 else 1) + (if f k < 10 then 1 else 2) := by
  have := emL_s (f := f) hP k.toNat
  rw [show (k + 1).toNat = k.toNat + 1 by omega, this, Int.toNat_of_nonneg h]
theorem emL_lt {f : Int → Int} {P : PB} {k : Int} (hP : 0 ≤ P.1) (h : 0 ≤ k) : (emL f P k.toNat).1 < (emL f P (k + 1).toNat).1 := by
  rw [emL_si hP h]
  split <;> split <;> omega
theorem emD_s {r : Rw} {d i : Int} (h : 0 ≤ i) : (emL (wa r (4 * d + i)) (emD r d i.toNat) (r (4 * d + i)).toNat).1 = (emD r d (i + 1).toNat).1 := by
  rw [show (i + 1).toNat = i.toNat + 1 by omega]
  show _ = (emL (wa r (4 * d + (i.toNat : Int))) _ (r (4 * d + (i.toNat : Int))).toNat).1
  rw [Int.toNat_of_nonneg h]
theorem emD_i {r : Rw} {d i : Int} (h : 0 ≤ i) : emL (wa r (4 * d + i)) (emD r d i.toNat) (r (4 * d + i)).toNat = emD r d (i + 1).toNat := by
  rw [show (i + 1).toNat = i.toNat + 1 by omega]
  show _ = emL (wa r (4 * d + (i.toNat : Int))) _ (r (4 * d + (i.toNat : Int))).toNat
  rw [Int.toNat_of_nonneg h]
theorem emD_le {r : Rw} {d : Int} (hI : Iv r) (hd : 0 ≤ d ∧ d < 4) : ∀ k : Nat, k ≤ 4 → (emD r d k).1 ≤ 18 * k
  | 0, _ => Int.le_refl _
  | k + 1, h => by
    have h1 := emD_le hI hd k (by omega)
    have h2 := (emL_1 (f := wa r (4 * d + k)) (emD_1 r d k) (r (4 * d + k)).toNat).2.1
    have h3 := hI.sz (l := 4 * d + k) (by omega) (by omega)
    show (emL _ _ _).1 ≤ _
    omega

set_option maxRecDepth 100000 in
set_option maxHeartbeats 4000000 in
theorem k_X3_addCode (l : Launch) {w : WP} {F : FF} {P : PB} {c : Int} (hT : TX F P) (hP : 0 ≤ P.1 ∧ P.1 < 60) : Con l yX3_addCode cX3_addCode 2 none 0 w [.ref (adr w 0), .int (iI c)] F (QV w (fun F' => TX F' (em P c) ∧ FrT F F')) := by
  refine Con.mk (lv := [(0, .ref (adr w 0)), (1, .int (iI c))]) (by decide) (Nat.le_of_ble_eq_true rfl) rfl ?_
  intro pg ev s0 mi be me co C hz
  obtain ⟨hP0, hP1⟩ := hP
  refine q_aload_n C 0 dX3_addCode_0 rfl ?_
  refine q_get (T := TX3) (i := 6) C kd0 (by decide) rfl uws3 (by decide) wd_210 rfl dX3_addCode_1 ?_
  rw [show F 0 6 = P.1 from hT.1]
  refine q_if_lt C 39 dX3_addCode_4 ⟨by omega, by omega⟩  (by decide) (fun h4 => ?_) (fun h4 => ?_)
  · refine q_vret C dX3_addCode_39 ?_
    first | exact ⟨TX_em hT hP0, (FrT.refl.up (by omega)).up (by omega)⟩ | (exfalso; omega)
  · refine q_aload_n C 0 dX3_addCode_7 rfl ?_
    refine q_get (T := TX3) (i := 6) C kd0 (by decide) rfl uws3 (by decide) wd_210 rfl dX3_addCode_8 ?_
    rw [show F 0 6 = P.1 from hT.1]
    refine q_aload_n C 0 dX3_addCode_11 rfl ?_
    refine q_get (T := TX3) (i := 5) C kd0 (by decide) rfl uws3 (by decide) wd_209 rfl dX3_addCode_12 ?_
    refine q_alen (N := 60) C (by rw [kd85]; decide) ln85 dX3_addCode_15 ?_
    refine q_icmp_ge C 39 dX3_addCode_16 ⟨by omega, by omega⟩ ⟨by decide, by decide⟩ (by decide) (fun h16 => ?_) (fun h16 => ?_)
    · refine q_vret C dX3_addCode_39 ?_
      first | exact ⟨TX_em hT hP0, (FrT.refl.up (by omega)).up (by omega)⟩ | (exfalso; omega)
    · refine q_aload_n C 0 dX3_addCode_19 rfl ?_
      refine q_get (T := TX3) (i := 5) C kd0 (by decide) rfl uws3 (by decide) wd_209 rfl dX3_addCode_20 ?_
      refine q_aload_n C 0 dX3_addCode_23 rfl ?_
      refine q_get (T := TX3) (i := 6) C kd0 (by decide) rfl uws3 (by decide) wd_210 rfl dX3_addCode_24 ?_
      rw [show F 0 6 = P.1 from hT.1]
      refine q_iload_n C 1 dX3_addCode_27 rfl ?_
      refine q_iast C kd85 ⟨by omega, by rw [ln85]; omega⟩ dX3_addCode_28 ?_
      refine q_aload_n C 0 dX3_addCode_29 rfl ?_
      refine q_dup C dX3_addCode_30 rfl ?_
      refine q_get (T := TX3) (i := 6) C kd0 (by decide) rfl uws3 (by decide) wd_210 rfl dX3_addCode_31 ?_
      refine q_top (z' := F 0 6) (by simp (disch := omega) only [up_k, up_j, up_eq]) ?_
      rw [show F 0 6 = P.1 from hT.1]
      refine q_iconst C 1 dX3_addCode_34 ?_
      refine q_iadd C dX3_addCode_35 ?_
      refine q_put (T := TX3) (tyX := tyX3) (i := 6) (j := 6) (z := (P.1 + 1)) (ty := .int) C rfl kd0 (by decide) rfl uws3 tyX3_ok nmX3 (by decide) (kd_ln.2.2.2.1 kd0) wd_210 rfl rfl rfl rfl (fsS_3_6 w _ _ _) (Nat.le_of_ble_eq_true rfl) dX3_addCode_36 ?_
      refine q_vret C dX3_addCode_39 ?_
      first | exact ⟨TX_em hT hP0, (FrT.refl.up (by omega)).up (by omega)⟩ | (exfalso; omega)

set_option maxRecDepth 100000 in
set_option maxHeartbeats 4000000 in
theorem k_X3_addNumber (l : Launch) {w : WP} {F : FF} {P : PB} {x : Int} (hT : TX F P) (hx : 0 ≤ x ∧ x < 40) (hP : 0 ≤ P.1 ∧ (emN P x).1 ≤ 60) : Con l yX3_addNumber cX3_addNumber 2 none 1 w [.ref (adr w 0), .int (iI x)] F (QV w (fun F' => TX F' (emN P x) ∧ FrT F F')) := by
  refine Con.mk (lv := [(0, .ref (adr w 0)), (1, .int (iI x))]) (by decide) (Nat.le_of_ble_eq_true rfl) rfl ?_
  intro pg ev s0 mi be me co C hz
  obtain ⟨hP0, hP1⟩ := hP
  rw [emN_1] at hP1
  refine q_iload_n C 1 dX3_addNumber_0 rfl ?_
  refine q_bipush C 10 dX3_addNumber_1 (by decide) ?_
  refine q_icmp_lt C 17 dX3_addNumber_3 ⟨by omega, by omega⟩ ⟨by decide, by decide⟩ (by decide) (fun h3 => ?_) (fun h3 => ?_)
  · have hP2 : P.1 + 1 ≤ 60 := by first | omega | (split at hP1 <;> omega)
    refine q_aload_n C 0 dX3_addNumber_17 rfl ?_
    refine q_bipush C 48 dX3_addNumber_18 (by decide) ?_
    refine q_iload_n C 1 dX3_addNumber_20 rfl ?_
    refine q_bipush C 10 dX3_addNumber_21 (by decide) ?_
    refine q_irem C dX3_addNumber_23 ⟨by omega, by omega⟩ ⟨by decide, by decide⟩ ?_
    refine q_iadd C dX3_addNumber_24 ?_
    refine q_cV (q_runV (As := [.int (iI (48 + (x % 10)))]) (rest := []) C (k_X3_addCode (F := F) (P := P) (c := 48 + (x % 10)) l hT ⟨by (try rw [em_1]); omega, by (try rw [em_1]); omega⟩) kd0 (by decide) rfl wd_718 wd_717 wd_18 wd_77 wd_715 nd_X3_addCode rfl (by decide) ⟨Nat.zero_le _, Nat.zero_le _⟩ rfl (Nat.le_of_ble_eq_true rfl) dX3_addNumber_25) ?_
    rintro G1 ⟨hTG1, hfG1⟩
    have hFG1 := FrT.trans FrT.refl hfG1
    refine q_vret C dX3_addNumber_28 ?_
    exact ⟨by unfold emN; first | (rw [if_pos (by omega)]; exact hTG1) | (rw [if_neg (by omega)]; exact hTG1), hFG1⟩
  · rw [if_neg (by omega)] at hP1
    refine q_aload_n C 0 dX3_addNumber_6 rfl ?_
    refine q_bipush C 48 dX3_addNumber_7 (by decide) ?_
    refine q_iload_n C 1 dX3_addNumber_9 rfl ?_
    refine q_bipush C 10 dX3_addNumber_10 (by decide) ?_
    refine q_idiv C dX3_addNumber_12 ⟨by omega, by omega⟩ ⟨by decide, by decide⟩ ?_
    refine q_iadd C dX3_addNumber_13 ?_
    refine q_cV (q_runV (As := [.int (iI (48 + (x / 10)))]) (rest := []) C (k_X3_addCode (F := F) (P := P) (c := 48 + (x / 10)) l hT ⟨by (try rw [em_1]); omega, by (try rw [em_1]); omega⟩) kd0 (by decide) rfl wd_718 wd_717 wd_18 wd_77 wd_715 nd_X3_addCode rfl (by decide) ⟨Nat.zero_le _, Nat.zero_le _⟩ rfl (Nat.le_of_ble_eq_true rfl) dX3_addNumber_14) ?_
    rintro G2 ⟨hTG2, hfG2⟩
    have hFG2 := FrT.trans FrT.refl hfG2
    have hP2 : P.1 + 1 ≤ 60 := by first | omega | (split at hP1 <;> omega)
    refine q_aload_n C 0 dX3_addNumber_17 rfl ?_
    refine q_bipush C 48 dX3_addNumber_18 (by decide) ?_
    refine q_iload_n C 1 dX3_addNumber_20 rfl ?_
    refine q_bipush C 10 dX3_addNumber_21 (by decide) ?_
    refine q_irem C dX3_addNumber_23 ⟨by omega, by omega⟩ ⟨by decide, by decide⟩ ?_
    refine q_iadd C dX3_addNumber_24 ?_
    refine q_cV (q_runV (As := [.int (iI (48 + (x % 10)))]) (rest := []) C (k_X3_addCode (F := G2) (P := (em P (48 + (x / 10)))) (c := 48 + (x % 10)) l hTG2 ⟨by (try rw [em_1]); omega, by (try rw [em_1]); omega⟩) kd0 (by decide) rfl wd_718 wd_717 wd_18 wd_77 wd_715 nd_X3_addCode rfl (by decide) ⟨Nat.zero_le _, Nat.zero_le _⟩ rfl (Nat.le_of_ble_eq_true rfl) dX3_addNumber_25) ?_
    rintro G3 ⟨hTG3, hfG3⟩
    have hFG3 := FrT.trans hFG2 hfG3
    refine q_vret C dX3_addNumber_28 ?_
    exact ⟨by unfold emN; first | (rw [if_pos (by omega)]; exact hTG3) | (rw [if_neg (by omega)]; exact hTG3), hFG3⟩

set_option maxRecDepth 100000 in
set_option maxHeartbeats 4000000 in
theorem k_X3_addLine (l : Launch) {w : WP} {F : FF} {P : PB} {r : Rw} {y : Int} (hB : BI F 1 r) (hT : TX F P) (hy : 0 ≤ y ∧ y < 16) (hP : 0 ≤ P.1) (hle : (emL (wa r y) P (r y).toNat).1 ≤ 60) : Con l yX3_addLine cX3_addLine 3 none 2 w [.ref (adr w 0), .int (iI y)] F (QV w (fun F' => TX F' (emL (wa r y) P (r y).toNat) ∧ FrT F F')) := by
  refine Con.mk (lv := [(0, .ref (adr w 0)), (1, .int (iI y))]) (by decide) (Nat.le_of_ble_eq_true rfl) rfl ?_
  intro pg ev s0 mi be me co C hz
  have hI := hB.iv
  have hBK : ∀ G, FrT F G → BI G 1 r := fun G h => hB.keep (fun k a c => h k (by omega) (by omega))
  refine q_iconst C 0 dX3_addLine_0 ?_
  refine q_istore_n (lv' := [(2, .int (iI 0)), (0, .ref (adr w 0)), (1, .int (iI y))]) C dX3_addLine_1 (by decide) rfl ?_
  refine q_lv (lv' := [(0, .ref (adr w 0)), (1, .int (iI y)), (2, .int (iI 0))]) [1, 2, 0] rfl ?_
  refine wf2 (P := fun (k : Int) (G : FF) => Wq pg l ev _ s0 mi _ be me co _ w _ _ _ 2 [(0, .ref (adr w 0)), (1, .int (iI y)), (2, .int (iI k))] [] G) (I := fun (k : Int) (G : FF) => 0 ≤ k ∧ k ≤ r y ∧ TX G (emL (wa r y) P k.toNat) ∧ FrT F G) (μ := fun (k : Int) (G : FF) => (r y - k).toNat) ?_ 0 F (⟨by omega, (hI.sz hy.1 hy.2).1, hT, FrT.refl⟩)
  intro k G hI' ih2
  (try dsimp only at hI'); (try dsimp only at ih2); (try dsimp only)
  obtain ⟨hi0, hi1, hTk, hfk⟩ := hI'
  refine q_iload_n C 2 dX3_addLine_2 rfl ?_
  refine q_aload_n C 0 dX3_addLine_3 rfl ?_
  refine q_get (T := TX3) (i := 0) C kd0 (by decide) rfl uws3 (by decide) wd_204 rfl dX3_addLine_4 ?_
  refine q_iload_n C 1 dX3_addLine_7 rfl ?_
  refine q_cI (q_runV (As := [.int (iI y)]) (rest := [.int (iI k)]) C (k_X0_sizeOf l hb1 (hBK G hfk) (x := y) ⟨by omega, by omega⟩) hb1.k0 (by decide) rfl wd_488 wd_486 wd_487 wd_78 wd_485 nd_X0_sizeOf rfl (by decide) ⟨Nat.zero_le _, Nat.zero_le _⟩ rfl (Nat.le_of_ble_eq_true rfl) dX3_addLine_8) ?_
  rintro z F' ⟨rfl, rfl⟩
  have q8 := hI.sz (l := y) (by omega) (by omega)
  refine q_icmp_ge C 59 dX3_addLine_11 ⟨by omega, by omega⟩ ⟨by omega, by omega⟩ (by decide) (fun h11 => ?_) (fun h11 => ?_)
  · refine q_vret C dX3_addLine_59 ?_
    exact ⟨by rw [show r y = k by omega]; exact hTk, hfk⟩
  · have hle1 : (emL (wa r y) P (k + 1).toNat).1 ≤ 60 := Int.le_trans (emL_mono hP (by omega)) hle
    have hle0 := emL_lt (f := wa r y) hP hi0
    have hp1 := emL_1 (f := wa r y) hP k.toNat
    refine q_iload_n C 2 dX3_addLine_14 rfl ?_
    refine q_if_le C 27 dX3_addLine_15 ⟨by omega, by omega⟩  (by decide) (fun h15 => ?_) (fun h15 => ?_)
    · refine q_aload_n C 0 dX3_addLine_27 rfl ?_
      refine q_get (T := TX3) (i := 6) C kd0 (by decide) rfl uws3 (by decide) wd_210 rfl dX3_addLine_28 ?_
      rw [show G 0 6 = (emL (wa r y) P k.toNat).1 from hTk.1]
      refine q_if_le C 40 dX3_addLine_31 ⟨by omega, by omega⟩  (by decide) (fun h31 => ?_) (fun h31 => ?_)
      · refine q_aload_n C 0 dX3_addLine_40 rfl ?_
        refine q_aload_n C 0 dX3_addLine_41 rfl ?_
        refine q_get (T := TX3) (i := 0) C kd0 (by decide) rfl uws3 (by decide) wd_204 rfl dX3_addLine_42 ?_
        refine q_iload_n C 1 dX3_addLine_45 rfl ?_
        refine q_iload_n C 2 dX3_addLine_46 rfl ?_
        refine q_cI (q_runV (As := [.int (iI y), .int (iI k)]) (rest := [.ref (adr w 0)]) C (k_wat_in l hb1 (hBK G hfk) (x := y) (p := k) ⟨by omega, by omega⟩ ⟨by omega, by omega⟩) hb1.k0 (by decide) rfl wd_307 wd_305 wd_306 wd_78 wd_419 nd_X0_wordAt rfl (by decide) ⟨Nat.zero_le _, Nat.zero_le _⟩ rfl (Nat.le_of_ble_eq_true rfl) dX3_addLine_47) ?_
        rintro z F' ⟨rfl, rfl⟩
        have q47 := hI.wd (l := y) (p := k) (by omega) (by omega) (by omega) (by omega)
        refine q_cV (q_runV (As := [.int (iI (wa r y k))]) (rest := []) C (k_X3_addNumber (F := G) (P := (emL (wa r y) P k.toNat)) (x := wa r y k) l hTk ⟨by omega, by omega⟩ ⟨by (try rw [em_1]); omega, by rw [emL_c hi0 (by omega) (by omega)]; exact hle1⟩) kd0 (by decide) rfl wd_759 wd_758 wd_22 wd_77 wd_756 nd_X3_addNumber rfl (by decide) ⟨Nat.zero_le _, Nat.zero_le _⟩ rfl (Nat.le_of_ble_eq_true rfl) dX3_addLine_50) ?_
        rintro G1 ⟨hTG1, hfG1⟩
        have hFG1 := FrT.trans hfk hfG1
        refine q_iinc (lv' := [(2, .int (iI (k + 1))), (0, .ref (adr w 0)), (1, .int (iI y))]) C 2 dX3_addLine_53 rfl (by decide) rfl ?_
        refine q_goto C 2 dX3_addLine_56 (by decide) ?_
        refine q_lv (lv' := [(0, .ref (adr w 0)), (1, .int (iI y)), (2, .int (iI (k + 1)))]) [1, 2, 0] rfl ?_
        exact ih2 (k + 1) G1 (⟨by omega, by omega, by rw [← emL_c hi0 (by omega) (by omega)]; exact hTG1, hFG1⟩) (by omega)
      · refine q_aload_n C 0 dX3_addLine_34 rfl ?_
        refine q_bipush C 47 dX3_addLine_35 (by decide) ?_
        refine q_cV (q_runV (As := [.int (iI 47)]) (rest := []) C (k_X3_addCode (F := G) (P := (emL (wa r y) P k.toNat)) (c := 47) l hTk ⟨by omega, by omega⟩) kd0 (by decide) rfl wd_718 wd_717 wd_18 wd_77 wd_715 nd_X3_addCode rfl (by decide) ⟨Nat.zero_le _, Nat.zero_le _⟩ rfl (Nat.le_of_ble_eq_true rfl) dX3_addLine_37) ?_
        rintro G2 ⟨hTG2, hfG2⟩
        have hFG2 := FrT.trans hfk hfG2
        refine q_aload_n C 0 dX3_addLine_40 rfl ?_
        refine q_aload_n C 0 dX3_addLine_41 rfl ?_
        refine q_get (T := TX3) (i := 0) C kd0 (by decide) rfl uws3 (by decide) wd_204 rfl dX3_addLine_42 ?_
        refine q_iload_n C 1 dX3_addLine_45 rfl ?_
        refine q_iload_n C 2 dX3_addLine_46 rfl ?_
        refine q_cI (q_runV (As := [.int (iI y), .int (iI k)]) (rest := [.ref (adr w 0)]) C (k_wat_in l hb1 (hBK G2 hFG2) (x := y) (p := k) ⟨by omega, by omega⟩ ⟨by omega, by omega⟩) hb1.k0 (by decide) rfl wd_307 wd_305 wd_306 wd_78 wd_419 nd_X0_wordAt rfl (by decide) ⟨Nat.zero_le _, Nat.zero_le _⟩ rfl (Nat.le_of_ble_eq_true rfl) dX3_addLine_47) ?_
        rintro z F' ⟨rfl, rfl⟩
        have q47 := hI.wd (l := y) (p := k) (by omega) (by omega) (by omega) (by omega)
        refine q_cV (q_runV (As := [.int (iI (wa r y k))]) (rest := []) C (k_X3_addNumber (F := G2) (P := (em (emL (wa r y) P k.toNat) 47)) (x := wa r y k) l hTG2 ⟨by omega, by omega⟩ ⟨by (try rw [em_1]); omega, by rw [emL_b hi0 (by omega) (by omega)]; exact hle1⟩) kd0 (by decide) rfl wd_759 wd_758 wd_22 wd_77 wd_756 nd_X3_addNumber rfl (by decide) ⟨Nat.zero_le _, Nat.zero_le _⟩ rfl (Nat.le_of_ble_eq_true rfl) dX3_addLine_50) ?_
        rintro G3 ⟨hTG3, hfG3⟩
        have hFG3 := FrT.trans hFG2 hfG3
        refine q_iinc (lv' := [(2, .int (iI (k + 1))), (0, .ref (adr w 0)), (1, .int (iI y))]) C 2 dX3_addLine_53 rfl (by decide) rfl ?_
        refine q_goto C 2 dX3_addLine_56 (by decide) ?_
        refine q_lv (lv' := [(0, .ref (adr w 0)), (1, .int (iI y)), (2, .int (iI (k + 1)))]) [1, 2, 0] rfl ?_
        exact ih2 (k + 1) G3 (⟨by omega, by omega, by rw [← emL_b hi0 (by omega) (by omega)]; exact hTG3, hFG3⟩) (by omega)
    · refine q_aload_n C 0 dX3_addLine_18 rfl ?_
      refine q_bipush C 44 dX3_addLine_19 (by decide) ?_
      refine q_cV (q_runV (As := [.int (iI 44)]) (rest := []) C (k_X3_addCode (F := G) (P := (emL (wa r y) P k.toNat)) (c := 44) l hTk ⟨by omega, by omega⟩) kd0 (by decide) rfl wd_718 wd_717 wd_18 wd_77 wd_715 nd_X3_addCode rfl (by decide) ⟨Nat.zero_le _, Nat.zero_le _⟩ rfl (Nat.le_of_ble_eq_true rfl) dX3_addLine_21) ?_
      rintro G4 ⟨hTG4, hfG4⟩
      have hFG4 := FrT.trans hfk hfG4
      refine q_goto C 40 dX3_addLine_24 (by decide) ?_
      refine q_aload_n C 0 dX3_addLine_40 rfl ?_
      refine q_aload_n C 0 dX3_addLine_41 rfl ?_
      refine q_get (T := TX3) (i := 0) C kd0 (by decide) rfl uws3 (by decide) wd_204 rfl dX3_addLine_42 ?_
      refine q_iload_n C 1 dX3_addLine_45 rfl ?_
      refine q_iload_n C 2 dX3_addLine_46 rfl ?_
      refine q_cI (q_runV (As := [.int (iI y), .int (iI k)]) (rest := [.ref (adr w 0)]) C (k_wat_in l hb1 (hBK G4 hFG4) (x := y) (p := k) ⟨by omega, by omega⟩ ⟨by omega, by omega⟩) hb1.k0 (by decide) rfl wd_307 wd_305 wd_306 wd_78 wd_419 nd_X0_wordAt rfl (by decide) ⟨Nat.zero_le _, Nat.zero_le _⟩ rfl (Nat.le_of_ble_eq_true rfl) dX3_addLine_47) ?_
      rintro z F' ⟨rfl, rfl⟩
      have q47 := hI.wd (l := y) (p := k) (by omega) (by omega) (by omega) (by omega)
      refine q_cV (q_runV (As := [.int (iI (wa r y k))]) (rest := []) C (k_X3_addNumber (F := G4) (P := (em (emL (wa r y) P k.toNat) 44)) (x := wa r y k) l hTG4 ⟨by omega, by omega⟩ ⟨by (try rw [em_1]); omega, by rw [emL_a hi0 (by omega)]; exact hle1⟩) kd0 (by decide) rfl wd_759 wd_758 wd_22 wd_77 wd_756 nd_X3_addNumber rfl (by decide) ⟨Nat.zero_le _, Nat.zero_le _⟩ rfl (Nat.le_of_ble_eq_true rfl) dX3_addLine_50) ?_
      rintro G5 ⟨hTG5, hfG5⟩
      have hFG5 := FrT.trans hFG4 hfG5
      refine q_iinc (lv' := [(2, .int (iI (k + 1))), (0, .ref (adr w 0)), (1, .int (iI y))]) C 2 dX3_addLine_53 rfl (by decide) rfl ?_
      refine q_goto C 2 dX3_addLine_56 (by decide) ?_
      refine q_lv (lv' := [(0, .ref (adr w 0)), (1, .int (iI y)), (2, .int (iI (k + 1)))]) [1, 2, 0] rfl ?_
      exact ih2 (k + 1) G5 (⟨by omega, by omega, by rw [← emL_a hi0 (by omega)]; exact hTG5, hFG5⟩) (by omega)

set_option maxRecDepth 100000 in
set_option maxHeartbeats 4000000 in
theorem k_X3_textLength (l : Launch) {w : WP} {F : FF} {r : Rw} {d : Int} (hB : BI F 1 r) (hd : 0 ≤ d ∧ d < 4) : Con l yX3_textLength cX3_textLength 7 (some .int) 2 w [.ref (adr w 0), .int (iI d)] F (QI w (fun z F' => z = (txD r d).1 ∧ F = F')) := by
  refine Con.mk (lv := [(0, .ref (adr w 0)), (1, .int (iI d))]) (by decide) (Nat.le_of_ble_eq_true rfl) rfl ?_
  intro pg ev s0 mi be me co C hz
  have hI := hB.iv
  refine q_iconst C 0 dX3_textLength_0 ?_
  refine q_istore_n (lv' := [(2, .int (iI 0)), (0, .ref (adr w 0)), (1, .int (iI d))]) C dX3_textLength_1 (by decide) rfl ?_
  refine q_iconst C 0 dX3_textLength_2 ?_
  refine q_istore_n (lv' := [(3, .int (iI 0)), (2, .int (iI 0)), (0, .ref (adr w 0)), (1, .int (iI d))]) C dX3_textLength_3 (by decide) rfl ?_
  refine q_lv (lv' := [(0, .ref (adr w 0)), (1, .int (iI d)), (2, .int (iI 0)), (3, .int (iI 0))]) [2, 3, 1, 0] rfl ?_
  refine wf2 (P := fun (i : Int) (n : Int) => Wq pg l ev _ s0 mi _ be me co _ w _ _ _ 4 [(0, .ref (adr w 0)), (1, .int (iI d)), (2, .int (iI n)), (3, .int (iI i))] [] F) (I := fun (i : Int) (n : Int) => 0 ≤ i ∧ i ≤ 4 ∧ n = (emD r d i.toNat).1) (μ := fun (i : Int) (n : Int) => (4 - i).toNat) ?_ 0 0 (⟨by omega, by omega, rfl⟩)
  intro i n hI' ih4
  (try dsimp only at hI'); (try dsimp only at ih4); (try dsimp only)
  obtain ⟨hi0, hi1, hn⟩ := hI'
  have hn0 := emD_1 r d i.toNat
  have hn9 := emD_le hI hd i.toNat (by omega)
  refine q_iload_n C 3 dX3_textLength_4 rfl ?_
  refine q_iconst C 4 dX3_textLength_5 ?_
  refine q_icmp_ge C 83 dX3_textLength_6 ⟨by omega, by omega⟩ ⟨by decide, by decide⟩ (by decide) (fun h6 => ?_) (fun h6 => ?_)
  · refine q_iload_n C 2 dX3_textLength_83 rfl ?_
    refine q_iret C dX3_textLength_84 ?_
    exact ⟨by rw [hn, show i = 4 by omega]; rfl, rfl⟩
  · refine q_iload_n C 1 dX3_textLength_9 rfl ?_
    refine q_iload_n C 3 dX3_textLength_10 rfl ?_
    refine q_cI (q_runS (As := [.int (iI d), .int (iI i)]) (rest := []) C (k_X3_lineNumber l) wd_288 wd_287 wd_77 wd_418 nd_X3_lineNumber rfl (by decide) ⟨Nat.zero_le _, Nat.zero_le _⟩ rfl (Nat.le_of_ble_eq_true rfl) dX3_textLength_11) ?_
    rintro z F' ⟨rfl, rfl⟩
    refine q_istore (lv' := [(4, .int (iI (4 * d + i))), (0, .ref (adr w 0)), (1, .int (iI d)), (2, .int (iI n)), (3, .int (iI i))]) C dX3_textLength_14 (by decide) rfl ?_
    refine q_iconst C 0 dX3_textLength_16 ?_
    refine q_istore (lv' := [(5, .int (iI 0)), (4, .int (iI (4 * d + i))), (0, .ref (adr w 0)), (1, .int (iI d)), (2, .int (iI n)), (3, .int (iI i))]) C dX3_textLength_17 (by decide) rfl ?_
    refine q_lv (lv' := [(0, .ref (adr w 0)), (1, .int (iI d)), (2, .int (iI n)), (3, .int (iI i)), (4, .int (iI (4 * d + i))), (5, .int (iI 0))]) [2, 3, 4, 5, 1, 0] rfl ?_
    refine wf2 (P := fun (k : Int) (m : Int) => Wq pg l ev _ s0 mi _ be me co _ w _ _ _ 19 [(0, .ref (adr w 0)), (1, .int (iI d)), (2, .int (iI m)), (3, .int (iI i)), (4, .int (iI (4 * d + i))), (5, .int (iI k))] [] F) (I := fun (k : Int) (m : Int) => 0 ≤ k ∧ k ≤ r (4 * d + i) ∧ m = (emL (wa r (4 * d + i)) (emD r d i.toNat) k.toNat).1) (μ := fun (k : Int) (m : Int) => (r (4 * d + i) - k).toNat) ?_ 0 n (⟨by omega, (hI.sz (by omega) (by omega)).1, hn⟩)
    intro k m hI' ih19
    (try dsimp only at hI'); (try dsimp only at ih19); (try dsimp only)
    obtain ⟨hk0, hk1, hm⟩ := hI'
    have hm0 := (emL_1 (f := wa r (4 * d + i)) hn0 k.toNat)
    refine q_iload C 5 dX3_textLength_19 rfl ?_
    refine q_aload_n C 0 dX3_textLength_21 rfl ?_
    refine q_get (T := TX3) (i := 0) C kd0 (by decide) rfl uws3 (by decide) wd_204 rfl dX3_textLength_22 ?_
    refine q_iload C 4 dX3_textLength_25 rfl ?_
    refine q_cI (q_runV (As := [.int (iI (4 * d + i))]) (rest := [.int (iI k)]) C (k_X0_sizeOf l hb1 hB (x := 4 * d + i) ⟨by omega, by omega⟩) hb1.k0 (by decide) rfl wd_488 wd_486 wd_487 wd_78 wd_485 nd_X0_sizeOf rfl (by decide) ⟨Nat.zero_le _, Nat.zero_le _⟩ rfl (Nat.le_of_ble_eq_true rfl) dX3_textLength_27) ?_
    rintro z F' ⟨rfl, rfl⟩
    have q27 := hI.sz (l := 4 * d + i) (by omega) (by omega)
    refine q_icmp_ge C 77 dX3_textLength_30 ⟨by omega, by omega⟩ ⟨by omega, by omega⟩ (by decide) (fun h30 => ?_) (fun h30 => ?_)
    · refine q_iinc (lv' := [(3, .int (iI (i + 1))), (0, .ref (adr w 0)), (1, .int (iI d)), (2, .int (iI m)), (4, .int (iI (4 * d + i))), (5, .int (iI k))]) C 3 dX3_textLength_77 rfl (by decide) rfl ?_
      refine q_goto C 4 dX3_textLength_80 (by decide) ?_
      refine q_lv (lv' := [(0, .ref (adr w 0)), (1, .int (iI d)), (2, .int (iI m)), (3, .int (iI (i + 1)))]) [1, 2, 3, 0] rfl ?_
      exact ih4 (i + 1) m (⟨by omega, by omega, by rw [hm, show k = r (4 * d + i) by omega]; exact emD_s hi0⟩) (by omega)
    · refine q_iload_n C 2 dX3_textLength_33 rfl ?_
      refine q_if_ne C 41 dX3_textLength_34 ⟨by omega, by omega⟩  (by decide) (fun h34 => ?_) (fun h34 => ?_)
      · refine q_iconst C 1 dX3_textLength_41 ?_
        refine q_istore (lv' := [(6, .int (iI 1)), (0, .ref (adr w 0)), (1, .int (iI d)), (2, .int (iI m)), (3, .int (iI i)), (4, .int (iI (4 * d + i))), (5, .int (iI k))]) C dX3_textLength_42 (by decide) rfl ?_
        refine q_iload_n C 3 dX3_textLength_44 rfl ?_
        refine q_iload C 0 dX3_textLength_45 rfl ?_
        refine q_aload_n C 1 dX3_textLength_47 rfl ?_
        refine q_get (T := TX3) (i := 0) C kd0 (by decide) rfl uws3 (by decide) wd_204 rfl dX3_textLength_48 ?_
        refine q_iload C 5 dX3_textLength_51 rfl ?_
        refine q_iload C 6 dX3_textLength_53 rfl ?_
        refine q_cI (q_runV (As := [.int (iI (4 * d + i)), .int (iI k)]) (rest := [.int (iI 1), .int (iI m)]) C (k_wat_in l hb1 hB (x := 4 * d + i) (p := k) ⟨by omega, by omega⟩ ⟨by omega, by omega⟩) hb1.k0 (by decide) rfl wd_307 wd_305 wd_306 wd_78 wd_419 nd_X0_wordAt rfl (by decide) ⟨Nat.zero_le _, Nat.zero_le _⟩ rfl (Nat.le_of_ble_eq_true rfl) dX3_textLength_55) ?_
        rintro z F' ⟨rfl, rfl⟩
        have q55 := hI.wd (l := 4 * d + i) (p := k) (by omega) (by omega) (by omega) (by omega)
        refine q_bipush C 10 dX3_textLength_58 (by decide) ?_
        refine q_icmp_ge C 67 dX3_textLength_60 ⟨by omega, by omega⟩ ⟨by decide, by decide⟩ (by decide) (fun h60 => ?_) (fun h60 => ?_)
        · refine q_iconst C 2 dX3_textLength_67 ?_
          refine q_iadd C dX3_textLength_68 ?_
          refine q_iadd C dX3_textLength_69 ?_
          refine q_istore_n (lv' := [(2, .int (iI (m + (1 + 2)))), (6, .int (iI 1)), (0, .ref (adr w 0)), (1, .int (iI d)), (3, .int (iI i)), (4, .int (iI (4 * d + i))), (5, .int (iI k))]) C dX3_textLength_70 (by decide) rfl ?_
          refine q_iinc (lv' := [(5, .int (iI (k + 1))), (2, .int (iI (m + (1 + 2)))), (6, .int (iI 1)), (0, .ref (adr w 0)), (1, .int (iI d)), (3, .int (iI i)), (4, .int (iI (4 * d + i)))]) C 6 dX3_textLength_71 rfl (by decide) rfl ?_
          refine q_goto C 19 dX3_textLength_74 (by decide) ?_
          refine q_lv (lv' := [(0, .ref (adr w 0)), (1, .int (iI d)), (2, .int (iI (m + (1 + 2)))), (3, .int (iI i)), (4, .int (iI (4 * d + i))), (5, .int (iI (k + 1)))]) [3, 4, 1, 5, 6, 0] rfl ?_
          exact ih19 (k + 1) (m + (1 + 2)) (⟨by omega, by omega, by rw [emL_si hn0 hk0, ← hm]; first | omega | (split <;> omega) | (split <;> split <;> omega)⟩) (by omega)
        · refine q_iconst C 1 dX3_textLength_63 ?_
          refine q_goto C 68 dX3_textLength_64 (by decide) ?_
          refine q_iadd C dX3_textLength_68 ?_
          refine q_iadd C dX3_textLength_69 ?_
          refine q_istore_n (lv' := [(2, .int (iI (m + (1 + 1)))), (6, .int (iI 1)), (0, .ref (adr w 0)), (1, .int (iI d)), (3, .int (iI i)), (4, .int (iI (4 * d + i))), (5, .int (iI k))]) C dX3_textLength_70 (by decide) rfl ?_
          refine q_iinc (lv' := [(5, .int (iI (k + 1))), (2, .int (iI (m + (1 + 1)))), (6, .int (iI 1)), (0, .ref (adr w 0)), (1, .int (iI d)), (3, .int (iI i)), (4, .int (iI (4 * d + i)))]) C 6 dX3_textLength_71 rfl (by decide) rfl ?_
          refine q_goto C 19 dX3_textLength_74 (by decide) ?_
          refine q_lv (lv' := [(0, .ref (adr w 0)), (1, .int (iI d)), (2, .int (iI (m + (1 + 1)))), (3, .int (iI i)), (4, .int (iI (4 * d + i))), (5, .int (iI (k + 1)))]) [3, 4, 1, 5, 6, 0] rfl ?_
          exact ih19 (k + 1) (m + (1 + 1)) (⟨by omega, by omega, by rw [emL_si hn0 hk0, ← hm]; first | omega | (split <;> omega) | (split <;> split <;> omega)⟩) (by omega)
      · refine q_iconst C 0 dX3_textLength_37 ?_
        refine q_goto C 42 dX3_textLength_38 (by decide) ?_
        refine q_istore (lv' := [(6, .int (iI 0)), (0, .ref (adr w 0)), (1, .int (iI d)), (2, .int (iI m)), (3, .int (iI i)), (4, .int (iI (4 * d + i))), (5, .int (iI k))]) C dX3_textLength_42 (by decide) rfl ?_
        refine q_iload_n C 3 dX3_textLength_44 rfl ?_
        refine q_iload C 0 dX3_textLength_45 rfl ?_
        refine q_aload_n C 1 dX3_textLength_47 rfl ?_
        refine q_get (T := TX3) (i := 0) C kd0 (by decide) rfl uws3 (by decide) wd_204 rfl dX3_textLength_48 ?_
        refine q_iload C 5 dX3_textLength_51 rfl ?_
        refine q_iload C 6 dX3_textLength_53 rfl ?_
        refine q_cI (q_runV (As := [.int (iI (4 * d + i)), .int (iI k)]) (rest := [.int (iI 0), .int (iI m)]) C (k_wat_in l hb1 hB (x := 4 * d + i) (p := k) ⟨by omega, by omega⟩ ⟨by omega, by omega⟩) hb1.k0 (by decide) rfl wd_307 wd_305 wd_306 wd_78 wd_419 nd_X0_wordAt rfl (by decide) ⟨Nat.zero_le _, Nat.zero_le _⟩ rfl (Nat.le_of_ble_eq_true rfl) dX3_textLength_55) ?_
        rintro z F' ⟨rfl, rfl⟩
        have q55 := hI.wd (l := 4 * d + i) (p := k) (by omega) (by omega) (by omega) (by omega)
        refine q_bipush C 10 dX3_textLength_58 (by decide) ?_
        refine q_icmp_ge C 67 dX3_textLength_60 ⟨by omega, by omega⟩ ⟨by decide, by decide⟩ (by decide) (fun h60 => ?_) (fun h60 => ?_)
        · refine q_iconst C 2 dX3_textLength_67 ?_
          refine q_iadd C dX3_textLength_68 ?_
          refine q_iadd C dX3_textLength_69 ?_
          refine q_istore_n (lv' := [(2, .int (iI (m + (0 + 2)))), (6, .int (iI 0)), (0, .ref (adr w 0)), (1, .int (iI d)), (3, .int (iI i)), (4, .int (iI (4 * d + i))), (5, .int (iI k))]) C dX3_textLength_70 (by decide) rfl ?_
          refine q_iinc (lv' := [(5, .int (iI (k + 1))), (2, .int (iI (m + (0 + 2)))), (6, .int (iI 0)), (0, .ref (adr w 0)), (1, .int (iI d)), (3, .int (iI i)), (4, .int (iI (4 * d + i)))]) C 6 dX3_textLength_71 rfl (by decide) rfl ?_
          refine q_goto C 19 dX3_textLength_74 (by decide) ?_
          refine q_lv (lv' := [(0, .ref (adr w 0)), (1, .int (iI d)), (2, .int (iI (m + (0 + 2)))), (3, .int (iI i)), (4, .int (iI (4 * d + i))), (5, .int (iI (k + 1)))]) [3, 4, 1, 5, 6, 0] rfl ?_
          exact ih19 (k + 1) (m + (0 + 2)) (⟨by omega, by omega, by rw [emL_si hn0 hk0, ← hm]; first | omega | (split <;> omega) | (split <;> split <;> omega)⟩) (by omega)
        · refine q_iconst C 1 dX3_textLength_63 ?_
          refine q_goto C 68 dX3_textLength_64 (by decide) ?_
          refine q_iadd C dX3_textLength_68 ?_
          refine q_iadd C dX3_textLength_69 ?_
          refine q_istore_n (lv' := [(2, .int (iI (m + (0 + 1)))), (6, .int (iI 0)), (0, .ref (adr w 0)), (1, .int (iI d)), (3, .int (iI i)), (4, .int (iI (4 * d + i))), (5, .int (iI k))]) C dX3_textLength_70 (by decide) rfl ?_
          refine q_iinc (lv' := [(5, .int (iI (k + 1))), (2, .int (iI (m + (0 + 1)))), (6, .int (iI 0)), (0, .ref (adr w 0)), (1, .int (iI d)), (3, .int (iI i)), (4, .int (iI (4 * d + i)))]) C 6 dX3_textLength_71 rfl (by decide) rfl ?_
          refine q_goto C 19 dX3_textLength_74 (by decide) ?_
          refine q_lv (lv' := [(0, .ref (adr w 0)), (1, .int (iI d)), (2, .int (iI (m + (0 + 1)))), (3, .int (iI i)), (4, .int (iI (4 * d + i))), (5, .int (iI (k + 1)))]) [3, 4, 1, 5, 6, 0] rfl ?_
          exact ih19 (k + 1) (m + (0 + 1)) (⟨by omega, by omega, by rw [emL_si hn0 hk0, ← hm]; first | omega | (split <;> omega) | (split <;> split <;> omega)⟩) (by omega)
