/-! the law's calls -/
theorem pt_179 {s : Rw} : pt s 179 = s 179 := if_neg (by decide)
theorem rf_179 {s : Rw} : rf s 179 = s 179 := if_neg (by decide)
theorem clr_179 {r : Rw} {d : Int} (hd : 0 ≤ d ∧ d < 4) : clr r d 179 = r 179 := by unfold clr; rw [if_neg (by omega), if_neg (by omega), if_neg (by omega), if_neg (by omega)]
theorem lnd_179 {r : Rw} {x y : Int} (hx : 0 ≤ x ∧ x < 16) : lnd r x y 179 = r 179 := if_neg (by omega)
theorem brb_179 {r : Rw} {x : Int} (hx : 0 ≤ x ∧ x < 16) : brb r x 179 = r 179 := if_neg (by omega)
theorem setr_179 {r : Rw} {k v : Int} (hk : 0 ≤ k ∧ k < 3) : setr r k v 179 = r 179 := if_neg (by omega)

set_option maxRecDepth 100000 in
set_option maxHeartbeats 4000000 in
theorem k_L_puts (l : Launch) {w : WP} {F : FF} {a b nn t : Nat} {A : AS} (hLa : LwP w a 40) (hLb : LwP w b 16) (hLn : LwP w nn 14) (hLt : LwP w t 40) (hTA : TA F a b nn t A.r) (hA : CI F A) {x y : Int} (hd : a ≠ b ∧ a ≠ nn ∧ a ≠ t ∧ b ≠ nn ∧ b ≠ t ∧ nn ≠ t)  : Con l yL_puts cL_puts 11 (some .boolean) 7 w [.ref (adr w 0), .ref (adr w a), .ref (adr w b), .ref (adr w nn), .int (iI x), .int (iI y)] F (QI w (fun z F' => z = 1 ∧ ActQ F' a b nn t A)) := by
  refine Con.mk (lv := [(0, .ref (adr w 0)), (1, .ref (adr w a)), (2, .ref (adr w b)), (3, .ref (adr w nn)), (4, .int (iI x)), (5, .int (iI y))]) (by decide) (Nat.le_of_ble_eq_true rfl) rfl ?_
  intro pg ev s0 mi be me co C hz
  obtain ⟨hW, hL, hN, hT, hI⟩ := id hTA
  have ha9 := hLa.ge
  have hb9 := hLb.ge
  have hn9 := hLn.ge
  have ht9 := hLt.ge
  refine q_aload_n C 1 dL_puts_0 rfl ?_
  refine q_iload C 4 dL_puts_1 rfl ?_
  refine q_bipush C 40 dL_puts_3 (by decide) ?_
  refine q_cI (q_runS (As := [.int (iI x), .int (iI 40)]) (rest := [.ref (adr w a)]) C (k_L_low (F := F) l (x := x) (n := 40) ⟨by decide, by decide⟩) wd_163 wd_162 wd_12 wd_161 nd_L_low rfl (by decide) ⟨Nat.zero_le _, Nat.zero_le _⟩ rfl (Nat.le_of_ble_eq_true rfl) dL_puts_5) ?_
  rintro z F' ⟨rfl, rfl⟩
  have qlo5 := lo_range x 40 (by omega)
  refine q_iconst C 1 dL_puts_8 ?_
  refine q_cI (q_runS (As := [.ref (adr w a), .int (iI (lo x 40)), .int (iI 1)]) (rest := []) C (k_L_some (F := F) (r := A.r) l hLa hW hI (f := lo x 40) (ib := 1) ⟨by omega, by omega⟩ (by decide)) wd_573 wd_572 wd_12 wd_571 nd_L_some rfl (by decide) ⟨Nat.zero_le _, Nat.zero_le _⟩ rfl (Nat.le_of_ble_eq_true rfl) dL_puts_9) ?_
  rintro wd F' ⟨hwd, rfl⟩
  refine q_istore (lv' := [(6, .int (iI wd)), (0, .ref (adr w 0)), (1, .ref (adr w a)), (2, .ref (adr w b)), (3, .ref (adr w nn)), (4, .int (iI x)), (5, .int (iI y))]) C dL_puts_12 (by decide) rfl ?_
  refine q_iload C 5 dL_puts_14 rfl ?_
  refine q_bipush C 6 dL_puts_16 (by decide) ?_
  refine q_ishr C (srI x 6) (srI_e _ _) dL_puts_18 ?_
  refine q_iload C 5 dL_puts_19 rfl ?_
  refine q_bipush C 12 dL_puts_21 (by decide) ?_
  refine q_ishr C (srI x 12) (srI_e _ _) dL_puts_23 ?_
  refine q_iconst C 3 dL_puts_24 ?_
  refine q_cI (q_runS (As := [.int (iI (srI x 12)), .int (iI 3)]) (rest := [.int (iI (srI x 6))]) C (k_L_low (F := F) l (x := srI x 12) (n := 3) ⟨by decide, by decide⟩) wd_163 wd_162 wd_12 wd_161 nd_L_low rfl (by decide) ⟨Nat.zero_le _, Nat.zero_le _⟩ rfl (Nat.le_of_ble_eq_true rfl) dL_puts_25) ?_
  rintro z F' ⟨rfl, rfl⟩
  have qlo25 := lo_range (srI x 12) 3 (by omega)
  refine q_if_ne C 36 dL_puts_28 ⟨by omega, by omega⟩  (by decide) (fun h28 => ?_) (fun h28 => ?_)
  · refine q_iconst C 5 dL_puts_36 ?_
    refine q_cI (q_runS (As := [.int (iI (srI x 6)), .int (iI 5)]) (rest := []) C (k_L_low (F := F) l (x := srI x 6) (n := 5) ⟨by decide, by decide⟩) wd_163 wd_162 wd_12 wd_161 nd_L_low rfl (by decide) ⟨Nat.zero_le _, Nat.zero_le _⟩ rfl (Nat.le_of_ble_eq_true rfl) dL_puts_37) ?_
    rintro z F' ⟨rfl, rfl⟩
    have qlo37 := lo_range (srI x 6) 5 (by omega)
    refine q_istore (lv' := [(7, .int (iI (lo (srI x 6) 5))), (6, .int (iI wd)), (0, .ref (adr w 0)), (1, .ref (adr w a)), (2, .ref (adr w b)), (3, .ref (adr w nn)), (4, .int (iI x)), (5, .int (iI y))]) C dL_puts_40 (by decide) rfl ?_
    refine q_aload_n C 3 dL_puts_42 rfl ?_
    refine q_iload C 0 dL_puts_43 rfl ?_
    refine q_cI (q_runS (As := [.ref (adr w a), .int (iI (lo (srI x 6) 5))]) (rest := []) C (k_L_many (F := F) (r := A.r) l hLa hW hI (y := lo (srI x 6) 5) ⟨by omega, by omega⟩) wd_350 wd_349 wd_12 wd_348 nd_L_many rfl (by decide) ⟨Nat.zero_le _, Nat.zero_le _⟩ rfl (Nat.le_of_ble_eq_true rfl) dL_puts_45) ?_
    rintro z F' ⟨rfl, rfl⟩
    have qs45 := hI.sz (l := lo (srI x 6) 5) (by omega) (by omega)
    refine q_istore (lv' := [(8, .int (iI (A.r (lo (srI x 6) 5)))), (7, .int (iI (lo (srI x 6) 5))), (6, .int (iI wd)), (0, .ref (adr w 0)), (1, .ref (adr w a)), (2, .ref (adr w b)), (3, .ref (adr w nn)), (4, .int (iI x)), (5, .int (iI y))]) C dL_puts_48 (by decide) rfl ?_
    refine q_iload C 8 dL_puts_50 rfl ?_
    refine q_iconst C 3 dL_puts_52 ?_
    refine q_cI (q_runS (As := [.int (iI y), .int (iI 3)]) (rest := []) C (k_L_low (F := F) l (x := y) (n := 3) ⟨by decide, by decide⟩) wd_163 wd_162 wd_12 wd_161 nd_L_low rfl (by decide) ⟨Nat.zero_le _, Nat.zero_le _⟩ rfl (Nat.le_of_ble_eq_true rfl) dL_puts_53) ?_
    rintro z F' ⟨rfl, rfl⟩
    have qlo53 := lo_range y 3 (by omega)
    refine q_if_ne C 73 dL_puts_56 ⟨by omega, by omega⟩  (by decide) (fun h56 => ?_) (fun h56 => ?_)
    · refine q_iload C 0 dL_puts_73 rfl ?_
      refine q_istore (lv' := [(9, .int (iI (A.r (lo (srI x 6) 5)))), (8, .int (iI (A.r (lo (srI x 6) 5)))), (7, .int (iI (lo (srI x 6) 5))), (6, .int (iI wd)), (0, .ref (adr w 0)), (1, .ref (adr w a)), (2, .ref (adr w b)), (3, .ref (adr w nn)), (4, .int (iI x)), (5, .int (iI y))]) C dL_puts_75 (by decide) rfl ?_
      refine q_iload C 3 dL_puts_77 rfl ?_
      refine q_if_ge C 96 dL_puts_79 ⟨by omega, by omega⟩  (by decide) (fun h79 => ?_) (fun h79 => ?_)
      · obtain ⟨hw0, hw1⟩ := hwd.resolve_left (fun q => by have := q.1; omega)
        have hwh : home A.r wd = -1 := hw1.mpr rfl
        refine q_aload_n C 5 dL_puts_96 rfl ?_
        refine q_aload_n C 7 dL_puts_97 rfl ?_
        refine q_iload C 3 dL_puts_98 rfl ?_
        refine q_iload C 2 dL_puts_100 rfl ?_
        refine q_iload C 0 dL_puts_102 rfl ?_
        refine q_cI (q_runS (As := [.ref (adr w a), .ref (adr w nn), .int (iI wd), .int (iI (lo (srI x 6) 5)), .int (iI (A.r (lo (srI x 6) 5)))]) (rest := []) C (k_L_reason (F := F) (r := A.r) l hLa hW hI hLn hN (x := wd) (y := lo (srI x 6) 5) (p := A.r (lo (srI x 6) 5)) ⟨by omega, by omega⟩ ⟨by omega, by omega⟩ ⟨by omega, by omega⟩) wd_449 wd_448 wd_12 wd_447 nd_L_reason rfl (by decide) ⟨Nat.zero_le _, Nat.zero_le _⟩ rfl (Nat.le_of_ble_eq_true rfl) dL_puts_104) ?_
        rintro z F' ⟨rfl, rfl⟩
        have qq104 := rea_range A.r wd (lo (srI x 6) 5) (A.r (lo (srI x 6) 5))
        refine q_istore (lv' := [(10, .int (iI (rea A.r wd (lo (srI x 6) 5) (A.r (lo (srI x 6) 5))))), (9, .int (iI (A.r (lo (srI x 6) 5)))), (8, .int (iI (A.r (lo (srI x 6) 5)))), (7, .int (iI (lo (srI x 6) 5))), (6, .int (iI wd)), (0, .ref (adr w 0)), (1, .ref (adr w a)), (2, .ref (adr w b)), (3, .ref (adr w nn)), (4, .int (iI x)), (5, .int (iI y))]) C dL_puts_107 (by decide) rfl ?_
        refine q_iload C 0 dL_puts_109 rfl ?_
        refine q_if_ne C 125 dL_puts_111 ⟨by omega, by omega⟩  (by decide) (fun h111 => ?_) (fun h111 => ?_)
        · refine q_aload_n C 8 dL_puts_125 rfl ?_
          refine q_iload C 0 dL_puts_126 rfl ?_
          refine q_if_ne C 135 dL_puts_128 ⟨by omega, by omega⟩  (by decide) (fun h128 => ?_) (fun h128 => (h111 h128).elim)
          refine q_iconst C 5 dL_puts_135 ?_
          refine q_dup2 C dL_puts_136 rfl rfl ?_
          refine q_iald9 C hLn ⟨by omega, by omega⟩ dL_puts_137 ?_
          rw [show F nn 5 = A.r 181 from hN.1.2.2.2.2.2]
          refine q_iconst C 1 dL_puts_138 ?_
          refine q_iadd C dL_puts_139 ?_
          refine q_iast9 C hLn ⟨by omega, by omega⟩ dL_puts_140 ?_
          generalize hgG1 : up F nn 5 ((A.r 181) + 1) = G1
          have h4G1 : T4 G1 a b nn t (rf A.r) := by rw [← hgG1]; exact T4_rf hTA.t4 hI hd.2.1 hd.2.2.2.1 hd.2.2.2.2.2.symm rfl
          have hAG1 : CI G1 A := hA.law (fun k hk => by rw [← hgG1, up_k (by omega)])
          refine q_aload_n C 5 dL_puts_141 rfl ?_
          refine q_iload C 4 dL_puts_142 rfl ?_
          refine q_iload C 3 dL_puts_144 rfl ?_
          refine q_iconst C 4 dL_puts_146 ?_
          refine q_idiv C dL_puts_147 ⟨by omega, by omega⟩ ⟨by decide, by decide⟩ ?_
          refine q_iload C 3 dL_puts_148 rfl ?_
          refine q_iconst C 4 dL_puts_150 ?_
          refine q_irem C dL_puts_151 ⟨by omega, by omega⟩ ⟨by decide, by decide⟩ ?_
          refine q_iload C 1 dL_puts_152 rfl ?_
          refine q_cI (q_runV (As := [.int (iI wd), .int (iI ((lo (srI x 6) 5) / 4)), .int (iI ((lo (srI x 6) 5) % 4)), .int (iI (A.r (lo (srI x 6) 5)))]) (rest := []) C (k_X3_put (F := G1) l hAG1 (x := wd) (d := (lo (srI x 6) 5) / 4) (y := (lo (srI x 6) 5) % 4) (p := A.r (lo (srI x 6) 5)) ⟨by omega, by omega⟩ ⟨by omega, by omega⟩ ⟨by omega, by omega⟩ ⟨by omega, by omega⟩ (by unfold putT; rw [show 4 * ((lo (srI x 6) 5) / 4) + (lo (srI x 6) 5) % 4 = lo (srI x 6) 5 by omega, if_neg (by omega), if_neg (by omega)])) kd0 (by decide) rfl wd_577 wd_575 wd_576 wd_13 wd_574 nd_X3_put rfl (by decide) ⟨Nat.zero_le _, Nat.zero_le _⟩ rfl (Nat.le_of_ble_eq_true rfl) dL_puts_154) ?_
          rintro z G9 ⟨-, rfl, hJ9⟩
          refine q_iload C 0 dL_puts_157 rfl ?_
          refine q_eqn C 166 dL_puts_159 (by decide) (by show rea A.r wd (4 * ((lo (srI x 6) 5) / 4) + (lo (srI x 6) 5) % 4) (A.r (lo (srI x 6) 5)) = _; rw [show 4 * ((lo (srI x 6) 5) / 4) + (lo (srI x 6) 5) % 4 = lo (srI x 6) 5 by omega]) ?_
          refine q_iconst C 1 dL_puts_162 ?_
          refine q_goto C 167 dL_puts_163 (by decide) ?_
          refine q_zret C dL_puts_167 (by decide) ?_
          have hN9 : (putN A wd ((lo (srI x 6) 5) / 4) ((lo (srI x 6) 5) % 4) (A.r (lo (srI x 6) 5))).r = (rf A.r) := by unfold putN; rw [show 4 * ((lo (srI x 6) 5) / 4) + (lo (srI x 6) 5) % 4 = lo (srI x 6) 5 by omega]; (first | rw [if_pos (by omega)] | rw [if_neg (by omega)]) <;> rfl
          exact ⟨rfl, ActQ.mk (by rw [hN9]; exact h4G1) ha9 hb9 hn9 ht9 hJ9 (by rw [hN9]; rw [rf_179]; omega)⟩
        · have qlt := rea_lt hI (l := lo (srI x 6) 5) ⟨by omega, by omega⟩ h111
          refine q_aload_n C 6 dL_puts_114 rfl ?_
          refine q_aload_n C 7 dL_puts_115 rfl ?_
          refine q_iload C 4 dL_puts_116 rfl ?_
          refine q_iload C 3 dL_puts_118 rfl ?_
          refine q_iload C 1 dL_puts_120 rfl ?_
          refine q_cV (q_runS (As := [.ref (adr w a), .ref (adr w b), .int (iI wd), .int (iI (lo (srI x 6) 5)), .int (iI (A.r (lo (srI x 6) 5)))]) (rest := []) C (k_L_comes (F := F) (r := A.r) l hLa hW hI hLb hL hd.1 (x := wd) (y := lo (srI x 6) 5) (p := A.r (lo (srI x 6) 5)) ⟨by omega, by omega⟩ (by omega) ⟨by omega, by omega⟩ ⟨by omega, by omega⟩ (by omega)) wd_511 wd_510 wd_12 wd_509 nd_L_comes rfl (by decide) ⟨Nat.zero_le _, Nat.zero_le _⟩ rfl (Nat.le_of_ble_eq_true rfl) dL_puts_122) ?_
          rintro G2 ⟨hWG2, hLG2, hfG2⟩
          have hsG2 : ∀ j, ¬ (0 ≤ j ∧ j < 128) → (ins A.r wd (lo (srI x 6) 5) (A.r (lo (srI x 6) 5))) j = A.r j := fun j hj => ins_hi ⟨by omega, by omega⟩ ⟨by omega, by omega⟩ (by omega) hj
          have hIG2 : Iv (ins A.r wd (lo (srI x 6) 5) (A.r (lo (srI x 6) 5))) := ins_iv hI ⟨by omega, by omega⟩ hwh ⟨by omega, by omega⟩ ⟨by omega, by omega⟩ (by omega)
          have h4G2 : T4 G2 a b nn t (ins A.r wd (lo (srI x 6) 5) (A.r (lo (srI x 6) 5))) := T4_ch hWG2 hLG2 (hN.k (hfG2 nn hd.2.1.symm hd.2.2.2.1.symm)) (hT.k (hfG2 t hd.2.2.1.symm hd.2.2.2.2.1.symm)) hsG2
          have hAG2 : CI G2 A := hA.law (fun k hk => hfG2 k (by omega) (by omega))
          refine q_aload_n C 8 dL_puts_125 rfl ?_
          refine q_iload C 0 dL_puts_126 rfl ?_
          refine q_if_ne C 135 dL_puts_128 ⟨by omega, by omega⟩  (by decide) (fun h128 => (h128 h111).elim) (fun h128 => ?_)
          refine q_iconst C 4 dL_puts_131 ?_
          refine q_goto C 136 dL_puts_132 (by decide) ?_
          refine q_dup2 C dL_puts_136 rfl rfl ?_
          refine q_iald9 C hLn ⟨by omega, by omega⟩ dL_puts_137 ?_
          rw [show G2 nn 4 = (ins A.r wd (lo (srI x 6) 5) (A.r (lo (srI x 6) 5))) 180 from h4G2.2.2.1.1.2.2.2.2.1]
          refine q_iconst C 1 dL_puts_138 ?_
          refine q_iadd C dL_puts_139 ?_
          refine q_iast9 C hLn ⟨by omega, by omega⟩ dL_puts_140 ?_
          generalize hgG3 : up G2 nn 4 (((ins A.r wd (lo (srI x 6) 5) (A.r (lo (srI x 6) 5))) 180) + 1) = G3
          have h4G3 : T4 G3 a b nn t (pt (ins A.r wd (lo (srI x 6) 5) (A.r (lo (srI x 6) 5)))) := by rw [← hgG3]; exact T4_pt h4G2 hIG2 hd.2.1 hd.2.2.2.1 hd.2.2.2.2.2.symm rfl
          have hAG3 : CI G3 A := hAG2.law (fun k hk => by rw [← hgG3, up_k (by omega)])
          refine q_aload_n C 5 dL_puts_141 rfl ?_
          refine q_iload C 4 dL_puts_142 rfl ?_
          refine q_iload C 3 dL_puts_144 rfl ?_
          refine q_iconst C 4 dL_puts_146 ?_
          refine q_idiv C dL_puts_147 ⟨by omega, by omega⟩ ⟨by decide, by decide⟩ ?_
          refine q_iload C 3 dL_puts_148 rfl ?_
          refine q_iconst C 4 dL_puts_150 ?_
          refine q_irem C dL_puts_151 ⟨by omega, by omega⟩ ⟨by decide, by decide⟩ ?_
          refine q_iload C 1 dL_puts_152 rfl ?_
          refine q_cI (q_runV (As := [.int (iI wd), .int (iI ((lo (srI x 6) 5) / 4)), .int (iI ((lo (srI x 6) 5) % 4)), .int (iI (A.r (lo (srI x 6) 5)))]) (rest := []) C (k_X3_put (F := G3) l hAG3 (x := wd) (d := (lo (srI x 6) 5) / 4) (y := (lo (srI x 6) 5) % 4) (p := A.r (lo (srI x 6) 5)) ⟨by omega, by omega⟩ ⟨by omega, by omega⟩ ⟨by omega, by omega⟩ ⟨by omega, by omega⟩ (by unfold putT; rw [show 4 * ((lo (srI x 6) 5) / 4) + (lo (srI x 6) 5) % 4 = lo (srI x 6) 5 by omega, if_neg (by omega), if_neg (by omega)])) kd0 (by decide) rfl wd_577 wd_575 wd_576 wd_13 wd_574 nd_X3_put rfl (by decide) ⟨Nat.zero_le _, Nat.zero_le _⟩ rfl (Nat.le_of_ble_eq_true rfl) dL_puts_154) ?_
          rintro z G9 ⟨-, rfl, hJ9⟩
          refine q_iload C 0 dL_puts_157 rfl ?_
          refine q_eqn C 166 dL_puts_159 (by decide) (by show rea A.r wd (4 * ((lo (srI x 6) 5) / 4) + (lo (srI x 6) 5) % 4) (A.r (lo (srI x 6) 5)) = _; rw [show 4 * ((lo (srI x 6) 5) / 4) + (lo (srI x 6) 5) % 4 = lo (srI x 6) 5 by omega]) ?_
          refine q_iconst C 1 dL_puts_162 ?_
          refine q_goto C 167 dL_puts_163 (by decide) ?_
          refine q_zret C dL_puts_167 (by decide) ?_
          have hN9 : (putN A wd ((lo (srI x 6) 5) / 4) ((lo (srI x 6) 5) % 4) (A.r (lo (srI x 6) 5))).r = (pt (ins A.r wd (lo (srI x 6) 5) (A.r (lo (srI x 6) 5)))) := by unfold putN; rw [show 4 * ((lo (srI x 6) 5) / 4) + (lo (srI x 6) 5) % 4 = lo (srI x 6) 5 by omega]; (first | rw [if_pos (by omega)] | rw [if_neg (by omega)]) <;> rfl
          exact ⟨rfl, ActQ.mk (by rw [hN9]; exact h4G3) ha9 hb9 hn9 ht9 hJ9 (by rw [hN9]; rw [pt_179, hsG2 _ (by omega)]; omega)⟩
      · have hb0 : bg A.r = 0 := bag_0 hI (hwd.resolve_right (fun q => by omega)).2
        have hcv := cntv_c A
        refine q_aload_n C 4 dL_puts_82 rfl ?_
        refine q_iconst C 0 dL_puts_83 ?_
        refine q_cI (q_runV (As := [.int (iI 0)]) (rest := []) C ((k_X3_count (F := F) l hA (k := 0) ⟨by decide, by decide⟩ (by unfold countT; rw [if_neg (by omega)])).post (fun z F' h => (⟨h.1.trans (rfl), h.2⟩ : z = cntv A 0 ∧ F = F'))) kd0 (by decide) rfl wd_400 wd_398 wd_399 wd_13 wd_397 nd_X3_count rfl (by decide) ⟨Nat.zero_le _, Nat.zero_le _⟩ rfl (Nat.le_of_ble_eq_true rfl) dL_puts_84) ?_
        rintro z F' ⟨rfl, rfl⟩
        refine q_if_ne C 94 dL_puts_87 ⟨by omega, by omega⟩  (by decide) (fun h87 => (h87 (by omega)).elim) (fun h87 => ?_)
        refine q_iconst C 1 dL_puts_90 ?_
        refine q_goto C 95 dL_puts_91 (by decide) ?_
        refine q_zret C dL_puts_95 (by decide) ?_
        exact ⟨rfl, ActQ.refl hTA hA⟩
    · refine q_iload C 8 dL_puts_59 rfl ?_
      refine q_iconst C 2 dL_puts_61 ?_
      refine q_ishr C (srI y 2) (srI_e _ _) dL_puts_62 ?_
      refine q_iload C 0 dL_puts_63 rfl ?_
      refine q_iconst C 1 dL_puts_65 ?_
      refine q_iadd C dL_puts_66 ?_
      refine q_cI (q_runS (As := [.int (iI (srI y 2)), .int (iI ((A.r (lo (srI x 6) 5)) + 1))]) (rest := []) C (k_L_low (F := F) l (x := srI y 2) (n := (A.r (lo (srI x 6) 5)) + 1) ⟨by omega, by omega⟩) wd_163 wd_162 wd_12 wd_161 nd_L_low rfl (by decide) ⟨Nat.zero_le _, Nat.zero_le _⟩ rfl (Nat.le_of_ble_eq_true rfl) dL_puts_67) ?_
      rintro z F' ⟨rfl, rfl⟩
      have qlo67 := lo_range (srI y 2) ((A.r (lo (srI x 6) 5)) + 1) (by omega)
      refine q_goto C 75 dL_puts_70 (by decide) ?_
      refine q_istore (lv' := [(9, .int (iI (lo (srI y 2) ((A.r (lo (srI x 6) 5)) + 1)))), (8, .int (iI (A.r (lo (srI x 6) 5)))), (7, .int (iI (lo (srI x 6) 5))), (6, .int (iI wd)), (0, .ref (adr w 0)), (1, .ref (adr w a)), (2, .ref (adr w b)), (3, .ref (adr w nn)), (4, .int (iI x)), (5, .int (iI y))]) C dL_puts_75 (by decide) rfl ?_
      refine q_iload C 3 dL_puts_77 rfl ?_
      refine q_if_ge C 96 dL_puts_79 ⟨by omega, by omega⟩  (by decide) (fun h79 => ?_) (fun h79 => ?_)
      · obtain ⟨hw0, hw1⟩ := hwd.resolve_left (fun q => by have := q.1; omega)
        have hwh : home A.r wd = -1 := hw1.mpr rfl
        refine q_aload_n C 5 dL_puts_96 rfl ?_
        refine q_aload_n C 7 dL_puts_97 rfl ?_
        refine q_iload C 3 dL_puts_98 rfl ?_
        refine q_iload C 2 dL_puts_100 rfl ?_
        refine q_iload C 0 dL_puts_102 rfl ?_
        refine q_cI (q_runS (As := [.ref (adr w a), .ref (adr w nn), .int (iI wd), .int (iI (lo (srI x 6) 5)), .int (iI (lo (srI y 2) ((A.r (lo (srI x 6) 5)) + 1)))]) (rest := []) C (k_L_reason (F := F) (r := A.r) l hLa hW hI hLn hN (x := wd) (y := lo (srI x 6) 5) (p := lo (srI y 2) ((A.r (lo (srI x 6) 5)) + 1)) ⟨by omega, by omega⟩ ⟨by omega, by omega⟩ ⟨by omega, by omega⟩) wd_449 wd_448 wd_12 wd_447 nd_L_reason rfl (by decide) ⟨Nat.zero_le _, Nat.zero_le _⟩ rfl (Nat.le_of_ble_eq_true rfl) dL_puts_104) ?_
        rintro z F' ⟨rfl, rfl⟩
        have qq104 := rea_range A.r wd (lo (srI x 6) 5) (lo (srI y 2) ((A.r (lo (srI x 6) 5)) + 1))
        refine q_istore (lv' := [(10, .int (iI (rea A.r wd (lo (srI x 6) 5) (lo (srI y 2) ((A.r (lo (srI x 6) 5)) + 1))))), (9, .int (iI (lo (srI y 2) ((A.r (lo (srI x 6) 5)) + 1)))), (8, .int (iI (A.r (lo (srI x 6) 5)))), (7, .int (iI (lo (srI x 6) 5))), (6, .int (iI wd)), (0, .ref (adr w 0)), (1, .ref (adr w a)), (2, .ref (adr w b)), (3, .ref (adr w nn)), (4, .int (iI x)), (5, .int (iI y))]) C dL_puts_107 (by decide) rfl ?_
        refine q_iload C 0 dL_puts_109 rfl ?_
        refine q_if_ne C 125 dL_puts_111 ⟨by omega, by omega⟩  (by decide) (fun h111 => ?_) (fun h111 => ?_)
        · refine q_aload_n C 8 dL_puts_125 rfl ?_
          refine q_iload C 0 dL_puts_126 rfl ?_
          refine q_if_ne C 135 dL_puts_128 ⟨by omega, by omega⟩  (by decide) (fun h128 => ?_) (fun h128 => (h111 h128).elim)
          refine q_iconst C 5 dL_puts_135 ?_
          refine q_dup2 C dL_puts_136 rfl rfl ?_
          refine q_iald9 C hLn ⟨by omega, by omega⟩ dL_puts_137 ?_
          rw [show F nn 5 = A.r 181 from hN.1.2.2.2.2.2]
          refine q_iconst C 1 dL_puts_138 ?_
          refine q_iadd C dL_puts_139 ?_
          refine q_iast9 C hLn ⟨by omega, by omega⟩ dL_puts_140 ?_
          generalize hgG4 : up F nn 5 ((A.r 181) + 1) = G4
          have h4G4 : T4 G4 a b nn t (rf A.r) := by rw [← hgG4]; exact T4_rf hTA.t4 hI hd.2.1 hd.2.2.2.1 hd.2.2.2.2.2.symm rfl
          have hAG4 : CI G4 A := hA.law (fun k hk => by rw [← hgG4, up_k (by omega)])
          refine q_aload_n C 5 dL_puts_141 rfl ?_
          refine q_iload C 4 dL_puts_142 rfl ?_
          refine q_iload C 3 dL_puts_144 rfl ?_
          refine q_iconst C 4 dL_puts_146 ?_
          refine q_idiv C dL_puts_147 ⟨by omega, by omega⟩ ⟨by decide, by decide⟩ ?_
          refine q_iload C 3 dL_puts_148 rfl ?_
          refine q_iconst C 4 dL_puts_150 ?_
          refine q_irem C dL_puts_151 ⟨by omega, by omega⟩ ⟨by decide, by decide⟩ ?_
          refine q_iload C 1 dL_puts_152 rfl ?_
          refine q_cI (q_runV (As := [.int (iI wd), .int (iI ((lo (srI x 6) 5) / 4)), .int (iI ((lo (srI x 6) 5) % 4)), .int (iI (lo (srI y 2) ((A.r (lo (srI x 6) 5)) + 1)))]) (rest := []) C (k_X3_put (F := G4) l hAG4 (x := wd) (d := (lo (srI x 6) 5) / 4) (y := (lo (srI x 6) 5) % 4) (p := lo (srI y 2) ((A.r (lo (srI x 6) 5)) + 1)) ⟨by omega, by omega⟩ ⟨by omega, by omega⟩ ⟨by omega, by omega⟩ ⟨by omega, by omega⟩ (by unfold putT; rw [show 4 * ((lo (srI x 6) 5) / 4) + (lo (srI x 6) 5) % 4 = lo (srI x 6) 5 by omega, if_neg (by omega), if_neg (by omega)])) kd0 (by decide) rfl wd_577 wd_575 wd_576 wd_13 wd_574 nd_X3_put rfl (by decide) ⟨Nat.zero_le _, Nat.zero_le _⟩ rfl (Nat.le_of_ble_eq_true rfl) dL_puts_154) ?_
          rintro z G9 ⟨-, rfl, hJ9⟩
          refine q_iload C 0 dL_puts_157 rfl ?_
          refine q_eqn C 166 dL_puts_159 (by decide) (by show rea A.r wd (4 * ((lo (srI x 6) 5) / 4) + (lo (srI x 6) 5) % 4) (lo (srI y 2) ((A.r (lo (srI x 6) 5)) + 1)) = _; rw [show 4 * ((lo (srI x 6) 5) / 4) + (lo (srI x 6) 5) % 4 = lo (srI x 6) 5 by omega]) ?_
          refine q_iconst C 1 dL_puts_162 ?_
          refine q_goto C 167 dL_puts_163 (by decide) ?_
          refine q_zret C dL_puts_167 (by decide) ?_
          have hN9 : (putN A wd ((lo (srI x 6) 5) / 4) ((lo (srI x 6) 5) % 4) (lo (srI y 2) ((A.r (lo (srI x 6) 5)) + 1))).r = (rf A.r) := by unfold putN; rw [show 4 * ((lo (srI x 6) 5) / 4) + (lo (srI x 6) 5) % 4 = lo (srI x 6) 5 by omega]; (first | rw [if_pos (by omega)] | rw [if_neg (by omega)]) <;> rfl
          exact ⟨rfl, ActQ.mk (by rw [hN9]; exact h4G4) ha9 hb9 hn9 ht9 hJ9 (by rw [hN9]; rw [rf_179]; omega)⟩
        · have qlt := rea_lt hI (l := lo (srI x 6) 5) ⟨by omega, by omega⟩ h111
          refine q_aload_n C 6 dL_puts_114 rfl ?_
          refine q_aload_n C 7 dL_puts_115 rfl ?_
          refine q_iload C 4 dL_puts_116 rfl ?_
          refine q_iload C 3 dL_puts_118 rfl ?_
          refine q_iload C 1 dL_puts_120 rfl ?_
          refine q_cV (q_runS (As := [.ref (adr w a), .ref (adr w b), .int (iI wd), .int (iI (lo (srI x 6) 5)), .int (iI (lo (srI y 2) ((A.r (lo (srI x 6) 5)) + 1)))]) (rest := []) C (k_L_comes (F := F) (r := A.r) l hLa hW hI hLb hL hd.1 (x := wd) (y := lo (srI x 6) 5) (p := lo (srI y 2) ((A.r (lo (srI x 6) 5)) + 1)) ⟨by omega, by omega⟩ (by omega) ⟨by omega, by omega⟩ ⟨by omega, by omega⟩ (by omega)) wd_511 wd_510 wd_12 wd_509 nd_L_comes rfl (by decide) ⟨Nat.zero_le _, Nat.zero_le _⟩ rfl (Nat.le_of_ble_eq_true rfl) dL_puts_122) ?_
          rintro G5 ⟨hWG5, hLG5, hfG5⟩
          have hsG5 : ∀ j, ¬ (0 ≤ j ∧ j < 128) → (ins A.r wd (lo (srI x 6) 5) (lo (srI y 2) ((A.r (lo (srI x 6) 5)) + 1))) j = A.r j := fun j hj => ins_hi ⟨by omega, by omega⟩ ⟨by omega, by omega⟩ (by omega) hj
          have hIG5 : Iv (ins A.r wd (lo (srI x 6) 5) (lo (srI y 2) ((A.r (lo (srI x 6) 5)) + 1))) := ins_iv hI ⟨by omega, by omega⟩ hwh ⟨by omega, by omega⟩ ⟨by omega, by omega⟩ (by omega)
          have h4G5 : T4 G5 a b nn t (ins A.r wd (lo (srI x 6) 5) (lo (srI y 2) ((A.r (lo (srI x 6) 5)) + 1))) := T4_ch hWG5 hLG5 (hN.k (hfG5 nn hd.2.1.symm hd.2.2.2.1.symm)) (hT.k (hfG5 t hd.2.2.1.symm hd.2.2.2.2.1.symm)) hsG5
          have hAG5 : CI G5 A := hA.law (fun k hk => hfG5 k (by omega) (by omega))
          refine q_aload_n C 8 dL_puts_125 rfl ?_
          refine q_iload C 0 dL_puts_126 rfl ?_
          refine q_if_ne C 135 dL_puts_128 ⟨by omega, by omega⟩  (by decide) (fun h128 => (h128 h111).elim) (fun h128 => ?_)
          refine q_iconst C 4 dL_puts_131 ?_
          refine q_goto C 136 dL_puts_132 (by decide) ?_
          refine q_dup2 C dL_puts_136 rfl rfl ?_
          refine q_iald9 C hLn ⟨by omega, by omega⟩ dL_puts_137 ?_
          rw [show G5 nn 4 = (ins A.r wd (lo (srI x 6) 5) (lo (srI y 2) ((A.r (lo (srI x 6) 5)) + 1))) 180 from h4G5.2.2.1.1.2.2.2.2.1]
          refine q_iconst C 1 dL_puts_138 ?_
          refine q_iadd C dL_puts_139 ?_
          refine q_iast9 C hLn ⟨by omega, by omega⟩ dL_puts_140 ?_
          generalize hgG6 : up G5 nn 4 (((ins A.r wd (lo (srI x 6) 5) (lo (srI y 2) ((A.r (lo (srI x 6) 5)) + 1))) 180) + 1) = G6
          have h4G6 : T4 G6 a b nn t (pt (ins A.r wd (lo (srI x 6) 5) (lo (srI y 2) ((A.r (lo (srI x 6) 5)) + 1)))) := by rw [← hgG6]; exact T4_pt h4G5 hIG5 hd.2.1 hd.2.2.2.1 hd.2.2.2.2.2.symm rfl
          have hAG6 : CI G6 A := hAG5.law (fun k hk => by rw [← hgG6, up_k (by omega)])
          refine q_aload_n C 5 dL_puts_141 rfl ?_
          refine q_iload C 4 dL_puts_142 rfl ?_
          refine q_iload C 3 dL_puts_144 rfl ?_
          refine q_iconst C 4 dL_puts_146 ?_
          refine q_idiv C dL_puts_147 ⟨by omega, by omega⟩ ⟨by decide, by decide⟩ ?_
          refine q_iload C 3 dL_puts_148 rfl ?_
          refine q_iconst C 4 dL_puts_150 ?_
          refine q_irem C dL_puts_151 ⟨by omega, by omega⟩ ⟨by decide, by decide⟩ ?_
          refine q_iload C 1 dL_puts_152 rfl ?_
          refine q_cI (q_runV (As := [.int (iI wd), .int (iI ((lo (srI x 6) 5) / 4)), .int (iI ((lo (srI x 6) 5) % 4)), .int (iI (lo (srI y 2) ((A.r (lo (srI x 6) 5)) + 1)))]) (rest := []) C (k_X3_put (F := G6) l hAG6 (x := wd) (d := (lo (srI x 6) 5) / 4) (y := (lo (srI x 6) 5) % 4) (p := lo (srI y 2) ((A.r (lo (srI x 6) 5)) + 1)) ⟨by omega, by omega⟩ ⟨by omega, by omega⟩ ⟨by omega, by omega⟩ ⟨by omega, by omega⟩ (by unfold putT; rw [show 4 * ((lo (srI x 6) 5) / 4) + (lo (srI x 6) 5) % 4 = lo (srI x 6) 5 by omega, if_neg (by omega), if_neg (by omega)])) kd0 (by decide) rfl wd_577 wd_575 wd_576 wd_13 wd_574 nd_X3_put rfl (by decide) ⟨Nat.zero_le _, Nat.zero_le _⟩ rfl (Nat.le_of_ble_eq_true rfl) dL_puts_154) ?_
          rintro z G9 ⟨-, rfl, hJ9⟩
          refine q_iload C 0 dL_puts_157 rfl ?_
          refine q_eqn C 166 dL_puts_159 (by decide) (by show rea A.r wd (4 * ((lo (srI x 6) 5) / 4) + (lo (srI x 6) 5) % 4) (lo (srI y 2) ((A.r (lo (srI x 6) 5)) + 1)) = _; rw [show 4 * ((lo (srI x 6) 5) / 4) + (lo (srI x 6) 5) % 4 = lo (srI x 6) 5 by omega]) ?_
          refine q_iconst C 1 dL_puts_162 ?_
          refine q_goto C 167 dL_puts_163 (by decide) ?_
          refine q_zret C dL_puts_167 (by decide) ?_
          have hN9 : (putN A wd ((lo (srI x 6) 5) / 4) ((lo (srI x 6) 5) % 4) (lo (srI y 2) ((A.r (lo (srI x 6) 5)) + 1))).r = (pt (ins A.r wd (lo (srI x 6) 5) (lo (srI y 2) ((A.r (lo (srI x 6) 5)) + 1)))) := by unfold putN; rw [show 4 * ((lo (srI x 6) 5) / 4) + (lo (srI x 6) 5) % 4 = lo (srI x 6) 5 by omega]; (first | rw [if_pos (by omega)] | rw [if_neg (by omega)]) <;> rfl
          exact ⟨rfl, ActQ.mk (by rw [hN9]; exact h4G6) ha9 hb9 hn9 ht9 hJ9 (by rw [hN9]; rw [pt_179, hsG5 _ (by omega)]; omega)⟩
      · have hb0 : bg A.r = 0 := bag_0 hI (hwd.resolve_right (fun q => by omega)).2
        have hcv := cntv_c A
        refine q_aload_n C 4 dL_puts_82 rfl ?_
        refine q_iconst C 0 dL_puts_83 ?_
        refine q_cI (q_runV (As := [.int (iI 0)]) (rest := []) C ((k_X3_count (F := F) l hA (k := 0) ⟨by decide, by decide⟩ (by unfold countT; rw [if_neg (by omega)])).post (fun z F' h => (⟨h.1.trans (rfl), h.2⟩ : z = cntv A 0 ∧ F = F'))) kd0 (by decide) rfl wd_400 wd_398 wd_399 wd_13 wd_397 nd_X3_count rfl (by decide) ⟨Nat.zero_le _, Nat.zero_le _⟩ rfl (Nat.le_of_ble_eq_true rfl) dL_puts_84) ?_
        rintro z F' ⟨rfl, rfl⟩
        refine q_if_ne C 94 dL_puts_87 ⟨by omega, by omega⟩  (by decide) (fun h87 => (h87 (by omega)).elim) (fun h87 => ?_)
        refine q_iconst C 1 dL_puts_90 ?_
        refine q_goto C 95 dL_puts_91 (by decide) ?_
        refine q_zret C dL_puts_95 (by decide) ?_
        exact ⟨rfl, ActQ.refl hTA hA⟩
  · refine q_bipush C 16 dL_puts_31 (by decide) ?_
    refine q_goto C 37 dL_puts_33 (by decide) ?_
    refine q_cI (q_runS (As := [.int (iI (srI x 6)), .int (iI 16)]) (rest := []) C (k_L_low (F := F) l (x := srI x 6) (n := 16) ⟨by decide, by decide⟩) wd_163 wd_162 wd_12 wd_161 nd_L_low rfl (by decide) ⟨Nat.zero_le _, Nat.zero_le _⟩ rfl (Nat.le_of_ble_eq_true rfl) dL_puts_37) ?_
    rintro z F' ⟨rfl, rfl⟩
    have qlo37 := lo_range (srI x 6) 16 (by omega)
    refine q_istore (lv' := [(7, .int (iI (lo (srI x 6) 16))), (6, .int (iI wd)), (0, .ref (adr w 0)), (1, .ref (adr w a)), (2, .ref (adr w b)), (3, .ref (adr w nn)), (4, .int (iI x)), (5, .int (iI y))]) C dL_puts_40 (by decide) rfl ?_
    refine q_aload_n C 3 dL_puts_42 rfl ?_
    refine q_iload C 0 dL_puts_43 rfl ?_
    refine q_cI (q_runS (As := [.ref (adr w a), .int (iI (lo (srI x 6) 16))]) (rest := []) C (k_L_many (F := F) (r := A.r) l hLa hW hI (y := lo (srI x 6) 16) ⟨by omega, by omega⟩) wd_350 wd_349 wd_12 wd_348 nd_L_many rfl (by decide) ⟨Nat.zero_le _, Nat.zero_le _⟩ rfl (Nat.le_of_ble_eq_true rfl) dL_puts_45) ?_
    rintro z F' ⟨rfl, rfl⟩
    have qs45 := hI.sz (l := lo (srI x 6) 16) (by omega) (by omega)
    refine q_istore (lv' := [(8, .int (iI (A.r (lo (srI x 6) 16)))), (7, .int (iI (lo (srI x 6) 16))), (6, .int (iI wd)), (0, .ref (adr w 0)), (1, .ref (adr w a)), (2, .ref (adr w b)), (3, .ref (adr w nn)), (4, .int (iI x)), (5, .int (iI y))]) C dL_puts_48 (by decide) rfl ?_
    refine q_iload C 8 dL_puts_50 rfl ?_
    refine q_iconst C 3 dL_puts_52 ?_
    refine q_cI (q_runS (As := [.int (iI y), .int (iI 3)]) (rest := []) C (k_L_low (F := F) l (x := y) (n := 3) ⟨by decide, by decide⟩) wd_163 wd_162 wd_12 wd_161 nd_L_low rfl (by decide) ⟨Nat.zero_le _, Nat.zero_le _⟩ rfl (Nat.le_of_ble_eq_true rfl) dL_puts_53) ?_
    rintro z F' ⟨rfl, rfl⟩
    have qlo53 := lo_range y 3 (by omega)
    refine q_if_ne C 73 dL_puts_56 ⟨by omega, by omega⟩  (by decide) (fun h56 => ?_) (fun h56 => ?_)
    · refine q_iload C 0 dL_puts_73 rfl ?_
      refine q_istore (lv' := [(9, .int (iI (A.r (lo (srI x 6) 16)))), (8, .int (iI (A.r (lo (srI x 6) 16)))), (7, .int (iI (lo (srI x 6) 16))), (6, .int (iI wd)), (0, .ref (adr w 0)), (1, .ref (adr w a)), (2, .ref (adr w b)), (3, .ref (adr w nn)), (4, .int (iI x)), (5, .int (iI y))]) C dL_puts_75 (by decide) rfl ?_
      refine q_iload C 3 dL_puts_77 rfl ?_
      refine q_if_ge C 96 dL_puts_79 ⟨by omega, by omega⟩  (by decide) (fun h79 => ?_) (fun h79 => ?_)
      · obtain ⟨hw0, hw1⟩ := hwd.resolve_left (fun q => by have := q.1; omega)
        have hwh : home A.r wd = -1 := hw1.mpr rfl
        refine q_aload_n C 5 dL_puts_96 rfl ?_
        refine q_aload_n C 7 dL_puts_97 rfl ?_
        refine q_iload C 3 dL_puts_98 rfl ?_
        refine q_iload C 2 dL_puts_100 rfl ?_
        refine q_iload C 0 dL_puts_102 rfl ?_
        refine q_cI (q_runS (As := [.ref (adr w a), .ref (adr w nn), .int (iI wd), .int (iI (lo (srI x 6) 16)), .int (iI (A.r (lo (srI x 6) 16)))]) (rest := []) C (k_L_reason (F := F) (r := A.r) l hLa hW hI hLn hN (x := wd) (y := lo (srI x 6) 16) (p := A.r (lo (srI x 6) 16)) ⟨by omega, by omega⟩ ⟨by omega, by omega⟩ ⟨by omega, by omega⟩) wd_449 wd_448 wd_12 wd_447 nd_L_reason rfl (by decide) ⟨Nat.zero_le _, Nat.zero_le _⟩ rfl (Nat.le_of_ble_eq_true rfl) dL_puts_104) ?_
        rintro z F' ⟨rfl, rfl⟩
        have qq104 := rea_range A.r wd (lo (srI x 6) 16) (A.r (lo (srI x 6) 16))
        refine q_istore (lv' := [(10, .int (iI (rea A.r wd (lo (srI x 6) 16) (A.r (lo (srI x 6) 16))))), (9, .int (iI (A.r (lo (srI x 6) 16)))), (8, .int (iI (A.r (lo (srI x 6) 16)))), (7, .int (iI (lo (srI x 6) 16))), (6, .int (iI wd)), (0, .ref (adr w 0)), (1, .ref (adr w a)), (2, .ref (adr w b)), (3, .ref (adr w nn)), (4, .int (iI x)), (5, .int (iI y))]) C dL_puts_107 (by decide) rfl ?_
        refine q_iload C 0 dL_puts_109 rfl ?_
        refine q_if_ne C 125 dL_puts_111 ⟨by omega, by omega⟩  (by decide) (fun h111 => ?_) (fun h111 => ?_)
        · refine q_aload_n C 8 dL_puts_125 rfl ?_
          refine q_iload C 0 dL_puts_126 rfl ?_
          refine q_if_ne C 135 dL_puts_128 ⟨by omega, by omega⟩  (by decide) (fun h128 => ?_) (fun h128 => (h111 h128).elim)
          refine q_iconst C 5 dL_puts_135 ?_
          refine q_dup2 C dL_puts_136 rfl rfl ?_
          refine q_iald9 C hLn ⟨by omega, by omega⟩ dL_puts_137 ?_
          rw [show F nn 5 = A.r 181 from hN.1.2.2.2.2.2]
          refine q_iconst C 1 dL_puts_138 ?_
          refine q_iadd C dL_puts_139 ?_
          refine q_iast9 C hLn ⟨by omega, by omega⟩ dL_puts_140 ?_
          generalize hgG7 : up F nn 5 ((A.r 181) + 1) = G7
          have h4G7 : T4 G7 a b nn t (rf A.r) := by rw [← hgG7]; exact T4_rf hTA.t4 hI hd.2.1 hd.2.2.2.1 hd.2.2.2.2.2.symm rfl
          have hAG7 : CI G7 A := hA.law (fun k hk => by rw [← hgG7, up_k (by omega)])
          refine q_aload_n C 5 dL_puts_141 rfl ?_
          refine q_iload C 4 dL_puts_142 rfl ?_
          refine q_iload C 3 dL_puts_144 rfl ?_
          refine q_iconst C 4 dL_puts_146 ?_
          refine q_idiv C dL_puts_147 ⟨by omega, by omega⟩ ⟨by decide, by decide⟩ ?_
          refine q_iload C 3 dL_puts_148 rfl ?_
          refine q_iconst C 4 dL_puts_150 ?_
          refine q_irem C dL_puts_151 ⟨by omega, by omega⟩ ⟨by decide, by decide⟩ ?_
          refine q_iload C 1 dL_puts_152 rfl ?_
          refine q_cI (q_runV (As := [.int (iI wd), .int (iI ((lo (srI x 6) 16) / 4)), .int (iI ((lo (srI x 6) 16) % 4)), .int (iI (A.r (lo (srI x 6) 16)))]) (rest := []) C (k_X3_put (F := G7) l hAG7 (x := wd) (d := (lo (srI x 6) 16) / 4) (y := (lo (srI x 6) 16) % 4) (p := A.r (lo (srI x 6) 16)) ⟨by omega, by omega⟩ ⟨by omega, by omega⟩ ⟨by omega, by omega⟩ ⟨by omega, by omega⟩ (by unfold putT; rw [show 4 * ((lo (srI x 6) 16) / 4) + (lo (srI x 6) 16) % 4 = lo (srI x 6) 16 by omega, if_neg (by omega), if_neg (by omega)])) kd0 (by decide) rfl wd_577 wd_575 wd_576 wd_13 wd_574 nd_X3_put rfl (by decide) ⟨Nat.zero_le _, Nat.zero_le _⟩ rfl (Nat.le_of_ble_eq_true rfl) dL_puts_154) ?_
          rintro z G9 ⟨-, rfl, hJ9⟩
          refine q_iload C 0 dL_puts_157 rfl ?_
          refine q_eqn C 166 dL_puts_159 (by decide) (by show rea A.r wd (4 * ((lo (srI x 6) 16) / 4) + (lo (srI x 6) 16) % 4) (A.r (lo (srI x 6) 16)) = _; rw [show 4 * ((lo (srI x 6) 16) / 4) + (lo (srI x 6) 16) % 4 = lo (srI x 6) 16 by omega]) ?_
          refine q_iconst C 1 dL_puts_162 ?_
          refine q_goto C 167 dL_puts_163 (by decide) ?_
          refine q_zret C dL_puts_167 (by decide) ?_
          have hN9 : (putN A wd ((lo (srI x 6) 16) / 4) ((lo (srI x 6) 16) % 4) (A.r (lo (srI x 6) 16))).r = (rf A.r) := by unfold putN; rw [show 4 * ((lo (srI x 6) 16) / 4) + (lo (srI x 6) 16) % 4 = lo (srI x 6) 16 by omega]; (first | rw [if_pos (by omega)] | rw [if_neg (by omega)]) <;> rfl
          exact ⟨rfl, ActQ.mk (by rw [hN9]; exact h4G7) ha9 hb9 hn9 ht9 hJ9 (by rw [hN9]; rw [rf_179]; omega)⟩
        · have qlt := rea_lt hI (l := lo (srI x 6) 16) ⟨by omega, by omega⟩ h111
          refine q_aload_n C 6 dL_puts_114 rfl ?_
          refine q_aload_n C 7 dL_puts_115 rfl ?_
          refine q_iload C 4 dL_puts_116 rfl ?_
          refine q_iload C 3 dL_puts_118 rfl ?_
          refine q_iload C 1 dL_puts_120 rfl ?_
          refine q_cV (q_runS (As := [.ref (adr w a), .ref (adr w b), .int (iI wd), .int (iI (lo (srI x 6) 16)), .int (iI (A.r (lo (srI x 6) 16)))]) (rest := []) C (k_L_comes (F := F) (r := A.r) l hLa hW hI hLb hL hd.1 (x := wd) (y := lo (srI x 6) 16) (p := A.r (lo (srI x 6) 16)) ⟨by omega, by omega⟩ (by omega) ⟨by omega, by omega⟩ ⟨by omega, by omega⟩ (by omega)) wd_511 wd_510 wd_12 wd_509 nd_L_comes rfl (by decide) ⟨Nat.zero_le _, Nat.zero_le _⟩ rfl (Nat.le_of_ble_eq_true rfl) dL_puts_122) ?_
          rintro G8 ⟨hWG8, hLG8, hfG8⟩
          have hsG8 : ∀ j, ¬ (0 ≤ j ∧ j < 128) → (ins A.r wd (lo (srI x 6) 16) (A.r (lo (srI x 6) 16))) j = A.r j := fun j hj => ins_hi ⟨by omega, by omega⟩ ⟨by omega, by omega⟩ (by omega) hj
          have hIG8 : Iv (ins A.r wd (lo (srI x 6) 16) (A.r (lo (srI x 6) 16))) := ins_iv hI ⟨by omega, by omega⟩ hwh ⟨by omega, by omega⟩ ⟨by omega, by omega⟩ (by omega)
          have h4G8 : T4 G8 a b nn t (ins A.r wd (lo (srI x 6) 16) (A.r (lo (srI x 6) 16))) := T4_ch hWG8 hLG8 (hN.k (hfG8 nn hd.2.1.symm hd.2.2.2.1.symm)) (hT.k (hfG8 t hd.2.2.1.symm hd.2.2.2.2.1.symm)) hsG8
          have hAG8 : CI G8 A := hA.law (fun k hk => hfG8 k (by omega) (by omega))
          refine q_aload_n C 8 dL_puts_125 rfl ?_
          refine q_iload C 0 dL_puts_126 rfl ?_
          refine q_if_ne C 135 dL_puts_128 ⟨by omega, by omega⟩  (by decide) (fun h128 => (h128 h111).elim) (fun h128 => ?_)
          refine q_iconst C 4 dL_puts_131 ?_
          refine q_goto C 136 dL_puts_132 (by decide) ?_
          refine q_dup2 C dL_puts_136 rfl rfl ?_
          refine q_iald9 C hLn ⟨by omega, by omega⟩ dL_puts_137 ?_
          rw [show G8 nn 4 = (ins A.r wd (lo (srI x 6) 16) (A.r (lo (srI x 6) 16))) 180 from h4G8.2.2.1.1.2.2.2.2.1]
          refine q_iconst C 1 dL_puts_138 ?_
          refine q_iadd C dL_puts_139 ?_
          refine q_iast9 C hLn ⟨by omega, by omega⟩ dL_puts_140 ?_
          generalize hgG9 : up G8 nn 4 (((ins A.r wd (lo (srI x 6) 16) (A.r (lo (srI x 6) 16))) 180) + 1) = G9
          have h4G9 : T4 G9 a b nn t (pt (ins A.r wd (lo (srI x 6) 16) (A.r (lo (srI x 6) 16)))) := by rw [← hgG9]; exact T4_pt h4G8 hIG8 hd.2.1 hd.2.2.2.1 hd.2.2.2.2.2.symm rfl
          have hAG9 : CI G9 A := hAG8.law (fun k hk => by rw [← hgG9, up_k (by omega)])
          refine q_aload_n C 5 dL_puts_141 rfl ?_
          refine q_iload C 4 dL_puts_142 rfl ?_
          refine q_iload C 3 dL_puts_144 rfl ?_
          refine q_iconst C 4 dL_puts_146 ?_
          refine q_idiv C dL_puts_147 ⟨by omega, by omega⟩ ⟨by decide, by decide⟩ ?_
          refine q_iload C 3 dL_puts_148 rfl ?_
          refine q_iconst C 4 dL_puts_150 ?_
          refine q_irem C dL_puts_151 ⟨by omega, by omega⟩ ⟨by decide, by decide⟩ ?_
          refine q_iload C 1 dL_puts_152 rfl ?_
          refine q_cI (q_runV (As := [.int (iI wd), .int (iI ((lo (srI x 6) 16) / 4)), .int (iI ((lo (srI x 6) 16) % 4)), .int (iI (A.r (lo (srI x 6) 16)))]) (rest := []) C (k_X3_put (F := G9) l hAG9 (x := wd) (d := (lo (srI x 6) 16) / 4) (y := (lo (srI x 6) 16) % 4) (p := A.r (lo (srI x 6) 16)) ⟨by omega, by omega⟩ ⟨by omega, by omega⟩ ⟨by omega, by omega⟩ ⟨by omega, by omega⟩ (by unfold putT; rw [show 4 * ((lo (srI x 6) 16) / 4) + (lo (srI x 6) 16) % 4 = lo (srI x 6) 16 by omega, if_neg (by omega), if_neg (by omega)])) kd0 (by decide) rfl wd_577 wd_575 wd_576 wd_13 wd_574 nd_X3_put rfl (by decide) ⟨Nat.zero_le _, Nat.zero_le _⟩ rfl (Nat.le_of_ble_eq_true rfl) dL_puts_154) ?_
          rintro z G9 ⟨-, rfl, hJ9⟩
          refine q_iload C 0 dL_puts_157 rfl ?_
          refine q_eqn C 166 dL_puts_159 (by decide) (by show rea A.r wd (4 * ((lo (srI x 6) 16) / 4) + (lo (srI x 6) 16) % 4) (A.r (lo (srI x 6) 16)) = _; rw [show 4 * ((lo (srI x 6) 16) / 4) + (lo (srI x 6) 16) % 4 = lo (srI x 6) 16 by omega]) ?_
          refine q_iconst C 1 dL_puts_162 ?_
          refine q_goto C 167 dL_puts_163 (by decide) ?_
          refine q_zret C dL_puts_167 (by decide) ?_
          have hN9 : (putN A wd ((lo (srI x 6) 16) / 4) ((lo (srI x 6) 16) % 4) (A.r (lo (srI x 6) 16))).r = (pt (ins A.r wd (lo (srI x 6) 16) (A.r (lo (srI x 6) 16)))) := by unfold putN; rw [show 4 * ((lo (srI x 6) 16) / 4) + (lo (srI x 6) 16) % 4 = lo (srI x 6) 16 by omega]; (first | rw [if_pos (by omega)] | rw [if_neg (by omega)]) <;> rfl
          exact ⟨rfl, ActQ.mk (by rw [hN9]; exact h4G9) ha9 hb9 hn9 ht9 hJ9 (by rw [hN9]; rw [pt_179, hsG8 _ (by omega)]; omega)⟩
      · have hb0 : bg A.r = 0 := bag_0 hI (hwd.resolve_right (fun q => by omega)).2
        have hcv := cntv_c A
        refine q_aload_n C 4 dL_puts_82 rfl ?_
        refine q_iconst C 0 dL_puts_83 ?_
        refine q_cI (q_runV (As := [.int (iI 0)]) (rest := []) C ((k_X3_count (F := F) l hA (k := 0) ⟨by decide, by decide⟩ (by unfold countT; rw [if_neg (by omega)])).post (fun z F' h => (⟨h.1.trans (rfl), h.2⟩ : z = cntv A 0 ∧ F = F'))) kd0 (by decide) rfl wd_400 wd_398 wd_399 wd_13 wd_397 nd_X3_count rfl (by decide) ⟨Nat.zero_le _, Nat.zero_le _⟩ rfl (Nat.le_of_ble_eq_true rfl) dL_puts_84) ?_
        rintro z F' ⟨rfl, rfl⟩
        refine q_if_ne C 94 dL_puts_87 ⟨by omega, by omega⟩  (by decide) (fun h87 => (h87 (by omega)).elim) (fun h87 => ?_)
        refine q_iconst C 1 dL_puts_90 ?_
        refine q_goto C 95 dL_puts_91 (by decide) ?_
        refine q_zret C dL_puts_95 (by decide) ?_
        exact ⟨rfl, ActQ.refl hTA hA⟩
    · refine q_iload C 8 dL_puts_59 rfl ?_
      refine q_iconst C 2 dL_puts_61 ?_
      refine q_ishr C (srI y 2) (srI_e _ _) dL_puts_62 ?_
      refine q_iload C 0 dL_puts_63 rfl ?_
      refine q_iconst C 1 dL_puts_65 ?_
      refine q_iadd C dL_puts_66 ?_
      refine q_cI (q_runS (As := [.int (iI (srI y 2)), .int (iI ((A.r (lo (srI x 6) 16)) + 1))]) (rest := []) C (k_L_low (F := F) l (x := srI y 2) (n := (A.r (lo (srI x 6) 16)) + 1) ⟨by omega, by omega⟩) wd_163 wd_162 wd_12 wd_161 nd_L_low rfl (by decide) ⟨Nat.zero_le _, Nat.zero_le _⟩ rfl (Nat.le_of_ble_eq_true rfl) dL_puts_67) ?_
      rintro z F' ⟨rfl, rfl⟩
      have qlo67 := lo_range (srI y 2) ((A.r (lo (srI x 6) 16)) + 1) (by omega)
      refine q_goto C 75 dL_puts_70 (by decide) ?_
      refine q_istore (lv' := [(9, .int (iI (lo (srI y 2) ((A.r (lo (srI x 6) 16)) + 1)))), (8, .int (iI (A.r (lo (srI x 6) 16)))), (7, .int (iI (lo (srI x 6) 16))), (6, .int (iI wd)), (0, .ref (adr w 0)), (1, .ref (adr w a)), (2, .ref (adr w b)), (3, .ref (adr w nn)), (4, .int (iI x)), (5, .int (iI y))]) C dL_puts_75 (by decide) rfl ?_
      refine q_iload C 3 dL_puts_77 rfl ?_
      refine q_if_ge C 96 dL_puts_79 ⟨by omega, by omega⟩  (by decide) (fun h79 => ?_) (fun h79 => ?_)
      · obtain ⟨hw0, hw1⟩ := hwd.resolve_left (fun q => by have := q.1; omega)
        have hwh : home A.r wd = -1 := hw1.mpr rfl
        refine q_aload_n C 5 dL_puts_96 rfl ?_
        refine q_aload_n C 7 dL_puts_97 rfl ?_
        refine q_iload C 3 dL_puts_98 rfl ?_
        refine q_iload C 2 dL_puts_100 rfl ?_
        refine q_iload C 0 dL_puts_102 rfl ?_
        refine q_cI (q_runS (As := [.ref (adr w a), .ref (adr w nn), .int (iI wd), .int (iI (lo (srI x 6) 16)), .int (iI (lo (srI y 2) ((A.r (lo (srI x 6) 16)) + 1)))]) (rest := []) C (k_L_reason (F := F) (r := A.r) l hLa hW hI hLn hN (x := wd) (y := lo (srI x 6) 16) (p := lo (srI y 2) ((A.r (lo (srI x 6) 16)) + 1)) ⟨by omega, by omega⟩ ⟨by omega, by omega⟩ ⟨by omega, by omega⟩) wd_449 wd_448 wd_12 wd_447 nd_L_reason rfl (by decide) ⟨Nat.zero_le _, Nat.zero_le _⟩ rfl (Nat.le_of_ble_eq_true rfl) dL_puts_104) ?_
        rintro z F' ⟨rfl, rfl⟩
        have qq104 := rea_range A.r wd (lo (srI x 6) 16) (lo (srI y 2) ((A.r (lo (srI x 6) 16)) + 1))
        refine q_istore (lv' := [(10, .int (iI (rea A.r wd (lo (srI x 6) 16) (lo (srI y 2) ((A.r (lo (srI x 6) 16)) + 1))))), (9, .int (iI (lo (srI y 2) ((A.r (lo (srI x 6) 16)) + 1)))), (8, .int (iI (A.r (lo (srI x 6) 16)))), (7, .int (iI (lo (srI x 6) 16))), (6, .int (iI wd)), (0, .ref (adr w 0)), (1, .ref (adr w a)), (2, .ref (adr w b)), (3, .ref (adr w nn)), (4, .int (iI x)), (5, .int (iI y))]) C dL_puts_107 (by decide) rfl ?_
        refine q_iload C 0 dL_puts_109 rfl ?_
        refine q_if_ne C 125 dL_puts_111 ⟨by omega, by omega⟩  (by decide) (fun h111 => ?_) (fun h111 => ?_)
        · refine q_aload_n C 8 dL_puts_125 rfl ?_
          refine q_iload C 0 dL_puts_126 rfl ?_
          refine q_if_ne C 135 dL_puts_128 ⟨by omega, by omega⟩  (by decide) (fun h128 => ?_) (fun h128 => (h111 h128).elim)
          refine q_iconst C 5 dL_puts_135 ?_
          refine q_dup2 C dL_puts_136 rfl rfl ?_
          refine q_iald9 C hLn ⟨by omega, by omega⟩ dL_puts_137 ?_
          rw [show F nn 5 = A.r 181 from hN.1.2.2.2.2.2]
          refine q_iconst C 1 dL_puts_138 ?_
          refine q_iadd C dL_puts_139 ?_
          refine q_iast9 C hLn ⟨by omega, by omega⟩ dL_puts_140 ?_
          generalize hgG10 : up F nn 5 ((A.r 181) + 1) = G10
          have h4G10 : T4 G10 a b nn t (rf A.r) := by rw [← hgG10]; exact T4_rf hTA.t4 hI hd.2.1 hd.2.2.2.1 hd.2.2.2.2.2.symm rfl
          have hAG10 : CI G10 A := hA.law (fun k hk => by rw [← hgG10, up_k (by omega)])
          refine q_aload_n C 5 dL_puts_141 rfl ?_
          refine q_iload C 4 dL_puts_142 rfl ?_
          refine q_iload C 3 dL_puts_144 rfl ?_
          refine q_iconst C 4 dL_puts_146 ?_
          refine q_idiv C dL_puts_147 ⟨by omega, by omega⟩ ⟨by decide, by decide⟩ ?_
          refine q_iload C 3 dL_puts_148 rfl ?_
          refine q_iconst C 4 dL_puts_150 ?_
          refine q_irem C dL_puts_151 ⟨by omega, by omega⟩ ⟨by decide, by decide⟩ ?_
          refine q_iload C 1 dL_puts_152 rfl ?_
          refine q_cI (q_runV (As := [.int (iI wd), .int (iI ((lo (srI x 6) 16) / 4)), .int (iI ((lo (srI x 6) 16) % 4)), .int (iI (lo (srI y 2) ((A.r (lo (srI x 6) 16)) + 1)))]) (rest := []) C (k_X3_put (F := G10) l hAG10 (x := wd) (d := (lo (srI x 6) 16) / 4) (y := (lo (srI x 6) 16) % 4) (p := lo (srI y 2) ((A.r (lo (srI x 6) 16)) + 1)) ⟨by omega, by omega⟩ ⟨by omega, by omega⟩ ⟨by omega, by omega⟩ ⟨by omega, by omega⟩ (by unfold putT; rw [show 4 * ((lo (srI x 6) 16) / 4) + (lo (srI x 6) 16) % 4 = lo (srI x 6) 16 by omega, if_neg (by omega), if_neg (by omega)])) kd0 (by decide) rfl wd_577 wd_575 wd_576 wd_13 wd_574 nd_X3_put rfl (by decide) ⟨Nat.zero_le _, Nat.zero_le _⟩ rfl (Nat.le_of_ble_eq_true rfl) dL_puts_154) ?_
          rintro z G9 ⟨-, rfl, hJ9⟩
          refine q_iload C 0 dL_puts_157 rfl ?_
          refine q_eqn C 166 dL_puts_159 (by decide) (by show rea A.r wd (4 * ((lo (srI x 6) 16) / 4) + (lo (srI x 6) 16) % 4) (lo (srI y 2) ((A.r (lo (srI x 6) 16)) + 1)) = _; rw [show 4 * ((lo (srI x 6) 16) / 4) + (lo (srI x 6) 16) % 4 = lo (srI x 6) 16 by omega]) ?_
          refine q_iconst C 1 dL_puts_162 ?_
          refine q_goto C 167 dL_puts_163 (by decide) ?_
          refine q_zret C dL_puts_167 (by decide) ?_
          have hN9 : (putN A wd ((lo (srI x 6) 16) / 4) ((lo (srI x 6) 16) % 4) (lo (srI y 2) ((A.r (lo (srI x 6) 16)) + 1))).r = (rf A.r) := by unfold putN; rw [show 4 * ((lo (srI x 6) 16) / 4) + (lo (srI x 6) 16) % 4 = lo (srI x 6) 16 by omega]; (first | rw [if_pos (by omega)] | rw [if_neg (by omega)]) <;> rfl
          exact ⟨rfl, ActQ.mk (by rw [hN9]; exact h4G10) ha9 hb9 hn9 ht9 hJ9 (by rw [hN9]; rw [rf_179]; omega)⟩
        · have qlt := rea_lt hI (l := lo (srI x 6) 16) ⟨by omega, by omega⟩ h111
          refine q_aload_n C 6 dL_puts_114 rfl ?_
          refine q_aload_n C 7 dL_puts_115 rfl ?_
          refine q_iload C 4 dL_puts_116 rfl ?_
          refine q_iload C 3 dL_puts_118 rfl ?_
          refine q_iload C 1 dL_puts_120 rfl ?_
          refine q_cV (q_runS (As := [.ref (adr w a), .ref (adr w b), .int (iI wd), .int (iI (lo (srI x 6) 16)), .int (iI (lo (srI y 2) ((A.r (lo (srI x 6) 16)) + 1)))]) (rest := []) C (k_L_comes (F := F) (r := A.r) l hLa hW hI hLb hL hd.1 (x := wd) (y := lo (srI x 6) 16) (p := lo (srI y 2) ((A.r (lo (srI x 6) 16)) + 1)) ⟨by omega, by omega⟩ (by omega) ⟨by omega, by omega⟩ ⟨by omega, by omega⟩ (by omega)) wd_511 wd_510 wd_12 wd_509 nd_L_comes rfl (by decide) ⟨Nat.zero_le _, Nat.zero_le _⟩ rfl (Nat.le_of_ble_eq_true rfl) dL_puts_122) ?_
          rintro G11 ⟨hWG11, hLG11, hfG11⟩
          have hsG11 : ∀ j, ¬ (0 ≤ j ∧ j < 128) → (ins A.r wd (lo (srI x 6) 16) (lo (srI y 2) ((A.r (lo (srI x 6) 16)) + 1))) j = A.r j := fun j hj => ins_hi ⟨by omega, by omega⟩ ⟨by omega, by omega⟩ (by omega) hj
          have hIG11 : Iv (ins A.r wd (lo (srI x 6) 16) (lo (srI y 2) ((A.r (lo (srI x 6) 16)) + 1))) := ins_iv hI ⟨by omega, by omega⟩ hwh ⟨by omega, by omega⟩ ⟨by omega, by omega⟩ (by omega)
          have h4G11 : T4 G11 a b nn t (ins A.r wd (lo (srI x 6) 16) (lo (srI y 2) ((A.r (lo (srI x 6) 16)) + 1))) := T4_ch hWG11 hLG11 (hN.k (hfG11 nn hd.2.1.symm hd.2.2.2.1.symm)) (hT.k (hfG11 t hd.2.2.1.symm hd.2.2.2.2.1.symm)) hsG11
          have hAG11 : CI G11 A := hA.law (fun k hk => hfG11 k (by omega) (by omega))
          refine q_aload_n C 8 dL_puts_125 rfl ?_
          refine q_iload C 0 dL_puts_126 rfl ?_
          refine q_if_ne C 135 dL_puts_128 ⟨by omega, by omega⟩  (by decide) (fun h128 => (h128 h111).elim) (fun h128 => ?_)
          refine q_iconst C 4 dL_puts_131 ?_
          refine q_goto C 136 dL_puts_132 (by decide) ?_
          refine q_dup2 C dL_puts_136 rfl rfl ?_
          refine q_iald9 C hLn ⟨by omega, by omega⟩ dL_puts_137 ?_
          rw [show G11 nn 4 = (ins A.r wd (lo (srI x 6) 16) (lo (srI y 2) ((A.r (lo (srI x 6) 16)) + 1))) 180 from h4G11.2.2.1.1.2.2.2.2.1]
          refine q_iconst C 1 dL_puts_138 ?_
          refine q_iadd C dL_puts_139 ?_
          refine q_iast9 C hLn ⟨by omega, by omega⟩ dL_puts_140 ?_
          generalize hgG12 : up G11 nn 4 (((ins A.r wd (lo (srI x 6) 16) (lo (srI y 2) ((A.r (lo (srI x 6) 16)) + 1))) 180) + 1) = G12
          have h4G12 : T4 G12 a b nn t (pt (ins A.r wd (lo (srI x 6) 16) (lo (srI y 2) ((A.r (lo (srI x 6) 16)) + 1)))) := by rw [← hgG12]; exact T4_pt h4G11 hIG11 hd.2.1 hd.2.2.2.1 hd.2.2.2.2.2.symm rfl
          have hAG12 : CI G12 A := hAG11.law (fun k hk => by rw [← hgG12, up_k (by omega)])
          refine q_aload_n C 5 dL_puts_141 rfl ?_
          refine q_iload C 4 dL_puts_142 rfl ?_
          refine q_iload C 3 dL_puts_144 rfl ?_
          refine q_iconst C 4 dL_puts_146 ?_
          refine q_idiv C dL_puts_147 ⟨by omega, by omega⟩ ⟨by decide, by decide⟩ ?_
          refine q_iload C 3 dL_puts_148 rfl ?_
          refine q_iconst C 4 dL_puts_150 ?_
          refine q_irem C dL_puts_151 ⟨by omega, by omega⟩ ⟨by decide, by decide⟩ ?_
          refine q_iload C 1 dL_puts_152 rfl ?_
          refine q_cI (q_runV (As := [.int (iI wd), .int (iI ((lo (srI x 6) 16) / 4)), .int (iI ((lo (srI x 6) 16) % 4)), .int (iI (lo (srI y 2) ((A.r (lo (srI x 6) 16)) + 1)))]) (rest := []) C (k_X3_put (F := G12) l hAG12 (x := wd) (d := (lo (srI x 6) 16) / 4) (y := (lo (srI x 6) 16) % 4) (p := lo (srI y 2) ((A.r (lo (srI x 6) 16)) + 1)) ⟨by omega, by omega⟩ ⟨by omega, by omega⟩ ⟨by omega, by omega⟩ ⟨by omega, by omega⟩ (by unfold putT; rw [show 4 * ((lo (srI x 6) 16) / 4) + (lo (srI x 6) 16) % 4 = lo (srI x 6) 16 by omega, if_neg (by omega), if_neg (by omega)])) kd0 (by decide) rfl wd_577 wd_575 wd_576 wd_13 wd_574 nd_X3_put rfl (by decide) ⟨Nat.zero_le _, Nat.zero_le _⟩ rfl (Nat.le_of_ble_eq_true rfl) dL_puts_154) ?_
          rintro z G9 ⟨-, rfl, hJ9⟩
          refine q_iload C 0 dL_puts_157 rfl ?_
          refine q_eqn C 166 dL_puts_159 (by decide) (by show rea A.r wd (4 * ((lo (srI x 6) 16) / 4) + (lo (srI x 6) 16) % 4) (lo (srI y 2) ((A.r (lo (srI x 6) 16)) + 1)) = _; rw [show 4 * ((lo (srI x 6) 16) / 4) + (lo (srI x 6) 16) % 4 = lo (srI x 6) 16 by omega]) ?_
          refine q_iconst C 1 dL_puts_162 ?_
          refine q_goto C 167 dL_puts_163 (by decide) ?_
          refine q_zret C dL_puts_167 (by decide) ?_
          have hN9 : (putN A wd ((lo (srI x 6) 16) / 4) ((lo (srI x 6) 16) % 4) (lo (srI y 2) ((A.r (lo (srI x 6) 16)) + 1))).r = (pt (ins A.r wd (lo (srI x 6) 16) (lo (srI y 2) ((A.r (lo (srI x 6) 16)) + 1)))) := by unfold putN; rw [show 4 * ((lo (srI x 6) 16) / 4) + (lo (srI x 6) 16) % 4 = lo (srI x 6) 16 by omega]; (first | rw [if_pos (by omega)] | rw [if_neg (by omega)]) <;> rfl
          exact ⟨rfl, ActQ.mk (by rw [hN9]; exact h4G12) ha9 hb9 hn9 ht9 hJ9 (by rw [hN9]; rw [pt_179, hsG11 _ (by omega)]; omega)⟩
      · have hb0 : bg A.r = 0 := bag_0 hI (hwd.resolve_right (fun q => by omega)).2
        have hcv := cntv_c A
        refine q_aload_n C 4 dL_puts_82 rfl ?_
        refine q_iconst C 0 dL_puts_83 ?_
        refine q_cI (q_runV (As := [.int (iI 0)]) (rest := []) C ((k_X3_count (F := F) l hA (k := 0) ⟨by decide, by decide⟩ (by unfold countT; rw [if_neg (by omega)])).post (fun z F' h => (⟨h.1.trans (rfl), h.2⟩ : z = cntv A 0 ∧ F = F'))) kd0 (by decide) rfl wd_400 wd_398 wd_399 wd_13 wd_397 nd_X3_count rfl (by decide) ⟨Nat.zero_le _, Nat.zero_le _⟩ rfl (Nat.le_of_ble_eq_true rfl) dL_puts_84) ?_
        rintro z F' ⟨rfl, rfl⟩
        refine q_if_ne C 94 dL_puts_87 ⟨by omega, by omega⟩  (by decide) (fun h87 => (h87 (by omega)).elim) (fun h87 => ?_)
        refine q_iconst C 1 dL_puts_90 ?_
        refine q_goto C 95 dL_puts_91 (by decide) ?_
        refine q_zret C dL_puts_95 (by decide) ?_
        exact ⟨rfl, ActQ.refl hTA hA⟩

set_option maxRecDepth 100000 in
set_option maxHeartbeats 4000000 in
theorem k_L_moves (l : Launch) {w : WP} {F : FF} {a b nn t : Nat} {A : AS} (hLa : LwP w a 40) (hLb : LwP w b 16) (hLn : LwP w nn 14) (hLt : LwP w t 40) (hTA : TA F a b nn t A.r) (hA : CI F A) {x : Int} (hd : a ≠ b ∧ a ≠ nn ∧ a ≠ t ∧ b ≠ nn ∧ b ≠ t ∧ nn ≠ t)  : Con l yL_moves cL_moves 8 (some .boolean) 5 w [.ref (adr w 0), .ref (adr w a), .ref (adr w b), .ref (adr w nn), .int (iI x)] F (QI w (fun z F' => z = 1 ∧ ActQ F' a b nn t A)) := by
  refine Con.mk (lv := [(0, .ref (adr w 0)), (1, .ref (adr w a)), (2, .ref (adr w b)), (3, .ref (adr w nn)), (4, .int (iI x))]) (by decide) (Nat.le_of_ble_eq_true rfl) rfl ?_
  intro pg ev s0 mi be me co C hz
  obtain ⟨hW, hL, hN, hT, hI⟩ := id hTA
  have ha9 := hLa.ge
  have hb9 := hLb.ge
  have hn9 := hLn.ge
  have ht9 := hLt.ge
  refine q_aload_n C 1 dL_moves_0 rfl ?_
  refine q_iload C 4 dL_moves_1 rfl ?_
  refine q_bipush C 40 dL_moves_3 (by decide) ?_
  refine q_cI (q_runS (As := [.int (iI x), .int (iI 40)]) (rest := [.ref (adr w a)]) C (k_L_low (F := F) l (x := x) (n := 40) ⟨by decide, by decide⟩) wd_163 wd_162 wd_12 wd_161 nd_L_low rfl (by decide) ⟨Nat.zero_le _, Nat.zero_le _⟩ rfl (Nat.le_of_ble_eq_true rfl) dL_moves_5) ?_
  rintro z F' ⟨rfl, rfl⟩
  have qlo5 := lo_range x 40 (by omega)
  refine q_iconst C 0 dL_moves_8 ?_
  refine q_cI (q_runS (As := [.ref (adr w a), .int (iI (lo x 40)), .int (iI 0)]) (rest := []) C (k_L_some (F := F) (r := A.r) l hLa hW hI (f := lo x 40) (ib := 0) ⟨by omega, by omega⟩ (by decide)) wd_573 wd_572 wd_12 wd_571 nd_L_some rfl (by decide) ⟨Nat.zero_le _, Nat.zero_le _⟩ rfl (Nat.le_of_ble_eq_true rfl) dL_moves_9) ?_
  rintro wd F' ⟨hwd, rfl⟩
  refine q_istore (lv' := [(5, .int (iI wd)), (0, .ref (adr w 0)), (1, .ref (adr w a)), (2, .ref (adr w b)), (3, .ref (adr w nn)), (4, .int (iI x))]) C dL_moves_12 (by decide) rfl ?_
  refine q_iload C 5 dL_moves_14 rfl ?_
  refine q_bipush C 6 dL_moves_16 (by decide) ?_
  refine q_ishr C (srI x 6) (srI_e _ _) dL_moves_18 ?_
  refine q_bipush C 16 dL_moves_19 (by decide) ?_
  refine q_cI (q_runS (As := [.int (iI (srI x 6)), .int (iI 16)]) (rest := []) C (k_L_low (F := F) l (x := srI x 6) (n := 16) ⟨by decide, by decide⟩) wd_163 wd_162 wd_12 wd_161 nd_L_low rfl (by decide) ⟨Nat.zero_le _, Nat.zero_le _⟩ rfl (Nat.le_of_ble_eq_true rfl) dL_moves_21) ?_
  rintro z F' ⟨rfl, rfl⟩
  have qlo21 := lo_range (srI x 6) 16 (by omega)
  refine q_istore (lv' := [(6, .int (iI (lo (srI x 6) 16))), (5, .int (iI wd)), (0, .ref (adr w 0)), (1, .ref (adr w a)), (2, .ref (adr w b)), (3, .ref (adr w nn)), (4, .int (iI x))]) C dL_moves_24 (by decide) rfl ?_
  refine q_iload C 1 dL_moves_26 rfl ?_
  refine q_if_lt C 42 dL_moves_28 ⟨by omega, by omega⟩  (by decide) (fun h28 => ?_) (fun h28 => ?_)
  · refine q_iconst C 1 dL_moves_42 ?_
    refine q_zret C dL_moves_43 (by decide) ?_
    exact ⟨rfl, ActQ.refl hTA hA⟩
  · obtain ⟨hw0, hw1⟩ := hwd.resolve_left (fun q => by have := q.1; omega)
    have hwh : ¬ home A.r wd = -1 := fun e => absurd (hw1.mp e) (by decide)
    have hf := hW wd (by omega) (by omega)
    have hc := whv_c hI wd
    refine q_aload_n C 3 dL_moves_31 rfl ?_
    refine q_iload C 1 dL_moves_32 rfl ?_
    refine q_iload C 0 dL_moves_34 rfl ?_
    refine q_cI (q_runS (As := [.ref (adr w a), .int (iI wd), .int (iI (lo (srI x 6) 16))]) (rest := []) C (k_L_isOn (F := F) l hLa (x := wd) (y := lo (srI x 6) 16) ⟨by omega, by omega⟩ ⟨by omega, by omega⟩ ⟨by omega, by omega⟩) wd_294 wd_293 wd_12 wd_292 nd_L_isOn rfl (by decide) ⟨Nat.zero_le _, Nat.zero_le _⟩ rfl (Nat.le_of_ble_eq_true rfl) dL_moves_36) ?_
    rintro z F' ⟨⟨rfl, hq36⟩ | ⟨rfl, hq36⟩, rfl⟩
    · refine q_if_eq C 44 dL_moves_39 ⟨by decide, by decide⟩  (by decide) (fun h => absurd h (by decide)) (fun _ => ?_)
      refine q_iconst C 1 dL_moves_42 ?_
      refine q_zret C dL_moves_43 (by decide) ?_
      exact ⟨rfl, ActQ.refl hTA hA⟩
    · refine q_if_eq C 44 dL_moves_39 ⟨by decide, by decide⟩  (by decide) (fun _ => ?_) (fun h => absurd h (by decide))
      refine q_aload_n C 3 dL_moves_44 rfl ?_
      refine q_aload_n C 5 dL_moves_45 rfl ?_
      refine q_iload C 1 dL_moves_46 rfl ?_
      refine q_iload C 0 dL_moves_48 rfl ?_
      refine q_aload_n C 3 dL_moves_50 rfl ?_
      refine q_iload C 0 dL_moves_51 rfl ?_
      refine q_cI (q_runS (As := [.ref (adr w a), .int (iI (lo (srI x 6) 16))]) (rest := [.int (iI (lo (srI x 6) 16)), .int (iI wd), .ref (adr w nn), .ref (adr w a)]) C (k_L_many (F := F) (r := A.r) l hLa hW hI (y := lo (srI x 6) 16) ⟨by omega, by omega⟩) wd_350 wd_349 wd_12 wd_348 nd_L_many rfl (by decide) ⟨Nat.zero_le _, Nat.zero_le _⟩ rfl (Nat.le_of_ble_eq_true rfl) dL_moves_53) ?_
      rintro z F' ⟨rfl, rfl⟩
      have qs53 := hI.sz (l := lo (srI x 6) 16) (by omega) (by omega)
      refine q_cI (q_runS (As := [.ref (adr w a), .ref (adr w nn), .int (iI wd), .int (iI (lo (srI x 6) 16)), .int (iI (A.r (lo (srI x 6) 16)))]) (rest := []) C (k_L_reason (F := F) (r := A.r) l hLa hW hI hLn hN (x := wd) (y := lo (srI x 6) 16) (p := A.r (lo (srI x 6) 16)) ⟨by omega, by omega⟩ ⟨by omega, by omega⟩ ⟨by omega, by omega⟩) wd_449 wd_448 wd_12 wd_447 nd_L_reason rfl (by decide) ⟨Nat.zero_le _, Nat.zero_le _⟩ rfl (Nat.le_of_ble_eq_true rfl) dL_moves_56) ?_
      rintro z F' ⟨rfl, rfl⟩
      have qq56 := rea_range A.r wd (lo (srI x 6) 16) (A.r (lo (srI x 6) 16))
      refine q_istore (lv' := [(7, .int (iI (rea A.r wd (lo (srI x 6) 16) (A.r (lo (srI x 6) 16))))), (6, .int (iI (lo (srI x 6) 16))), (5, .int (iI wd)), (0, .ref (adr w 0)), (1, .ref (adr w a)), (2, .ref (adr w b)), (3, .ref (adr w nn)), (4, .int (iI x))]) C dL_moves_59 (by decide) rfl ?_
      refine q_iload C 0 dL_moves_61 rfl ?_
      refine q_if_ne C 88 dL_moves_63 ⟨by omega, by omega⟩  (by decide) (fun h63 => ?_) (fun h63 => ?_)
      · refine q_aload_n C 6 dL_moves_88 rfl ?_
        refine q_iload C 0 dL_moves_89 rfl ?_
        refine q_if_ne C 98 dL_moves_91 ⟨by omega, by omega⟩  (by decide) (fun h91 => ?_) (fun h91 => (h63 h91).elim)
        refine q_iconst C 5 dL_moves_98 ?_
        refine q_dup2 C dL_moves_99 rfl rfl ?_
        refine q_iald9 C hLn ⟨by omega, by omega⟩ dL_moves_100 ?_
        rw [show F nn 5 = A.r 181 from hN.1.2.2.2.2.2]
        refine q_iconst C 1 dL_moves_101 ?_
        refine q_iadd C dL_moves_102 ?_
        refine q_iast9 C hLn ⟨by omega, by omega⟩ dL_moves_103 ?_
        generalize hgG1 : up F nn 5 ((A.r 181) + 1) = G1
        have h4G1 : T4 G1 a b nn t (rf A.r) := by rw [← hgG1]; exact T4_rf hTA.t4 hI hd.2.1 hd.2.2.2.1 hd.2.2.2.2.2.symm rfl
        have hAG1 : CI G1 A := hA.law (fun k hk => by rw [← hgG1, up_k (by omega)])
        refine q_aload_n C 3 dL_moves_104 rfl ?_
        refine q_iload C 2 dL_moves_105 rfl ?_
        refine q_iload C 1 dL_moves_107 rfl ?_
        refine q_iconst C 4 dL_moves_109 ?_
        refine q_idiv C dL_moves_110 ⟨by omega, by omega⟩ ⟨by decide, by decide⟩ ?_
        refine q_iload C 1 dL_moves_111 rfl ?_
        refine q_iconst C 4 dL_moves_113 ?_
        refine q_irem C dL_moves_114 ⟨by omega, by omega⟩ ⟨by decide, by decide⟩ ?_
        refine q_cI (q_runV (As := [.int (iI wd), .int (iI ((lo (srI x 6) 16) / 4)), .int (iI ((lo (srI x 6) 16) % 4))]) (rest := []) C (k_X3_move (F := G1) l hAG1 (x := wd) (d := (lo (srI x 6) 16) / 4) (y := (lo (srI x 6) 16) % 4) ⟨by omega, by omega⟩ ⟨by omega, by omega⟩ ⟨by omega, by omega⟩ (by unfold moveT; rw [show 4 * ((lo (srI x 6) 16) / 4) + (lo (srI x 6) 16) % 4 = lo (srI x 6) 16 by omega, if_neg (by omega), if_neg (by omega)])) kd0 (by decide) rfl wd_627 wd_625 wd_626 wd_13 wd_624 nd_X3_move rfl (by decide) ⟨Nat.zero_le _, Nat.zero_le _⟩ rfl (Nat.le_of_ble_eq_true rfl) dL_moves_115) ?_
        rintro z G9 ⟨-, rfl, hJ9⟩
        refine q_iload C 0 dL_moves_118 rfl ?_
        refine q_eqn C 127 dL_moves_120 (by decide) (by show rea A.r wd (4 * ((lo (srI x 6) 16) / 4) + (lo (srI x 6) 16) % 4) (A.r (4 * ((lo (srI x 6) 16) / 4) + (lo (srI x 6) 16) % 4)) = _; rw [show 4 * ((lo (srI x 6) 16) / 4) + (lo (srI x 6) 16) % 4 = lo (srI x 6) 16 by omega]) ?_
        refine q_iconst C 1 dL_moves_123 ?_
        refine q_goto C 128 dL_moves_124 (by decide) ?_
        refine q_zret C dL_moves_128 (by decide) ?_
        have hN9 : (moveN A wd ((lo (srI x 6) 16) / 4) ((lo (srI x 6) 16) % 4)).r = (rf A.r) := by unfold moveN; rw [show 4 * ((lo (srI x 6) 16) / 4) + (lo (srI x 6) 16) % 4 = lo (srI x 6) 16 by omega]; (rw [if_neg (by omega)]) <;> rfl
        exact ⟨rfl, ActQ.mk (by rw [hN9]; exact h4G1) ha9 hb9 hn9 ht9 hJ9 (by rw [hN9]; rw [rf_179]; omega)⟩
      · have qlt := rea_lt hI (l := lo (srI x 6) 16) ⟨by omega, by omega⟩ h63
        refine q_aload_n C 4 dL_moves_66 rfl ?_
        refine q_aload_n C 5 dL_moves_67 rfl ?_
        refine q_iload C 2 dL_moves_68 rfl ?_
        refine q_cV (q_runS (As := [.ref (adr w a), .ref (adr w b), .int (iI wd)]) (rest := []) C (k_L_leaves (F := F) (r := A.r) l hLa hW hI hLb hL hd.1 (x := wd) ⟨by omega, by omega⟩ (by omega)) wd_520 wd_519 wd_12 wd_518 nd_L_leaves rfl (by decide) ⟨Nat.zero_le _, Nat.zero_le _⟩ rfl (Nat.le_of_ble_eq_true rfl) dL_moves_70) ?_
        rintro G2 ⟨hWG2, hLG2, hfG2⟩
        obtain ⟨y0, y1, q0, q1, hw9⟩ := home_at hI (x := wd) hwh
        have hsG2 : ∀ j, ¬ (0 ≤ j ∧ j < 128) → (rem A.r (home A.r wd) (plc A.r wd)) j = A.r j := fun j hj => rem_hi hI ⟨y0, y1⟩ ⟨q0, q1⟩ hj
        have hIG2 : Iv (rem A.r (home A.r wd) (plc A.r wd)) := rem_iv hI ⟨y0, y1⟩ ⟨q0, q1⟩
        have h4G2 : T4 G2 a b nn t (rem A.r (home A.r wd) (plc A.r wd)) := T4_ch hWG2 hLG2 (hN.k (hfG2 nn hd.2.1.symm hd.2.2.2.1.symm)) (hT.k (hfG2 t hd.2.2.1.symm hd.2.2.2.2.1.symm)) hsG2
        have hAG2 : CI G2 A := hA.law (fun k hk => hfG2 k (by omega) (by omega))
        have hro := rem_other hI (x := wd) hwh (l := lo (srI x 6) 16) (by omega) (by omega) (by omega)
        have hrh := rem_home_x hI hwh
        refine q_aload_n C 4 dL_moves_73 rfl ?_
        refine q_aload_n C 5 dL_moves_74 rfl ?_
        refine q_iload C 2 dL_moves_75 rfl ?_
        refine q_iload C 1 dL_moves_77 rfl ?_
        refine q_aload_n C 4 dL_moves_79 rfl ?_
        refine q_iload C 1 dL_moves_80 rfl ?_
        refine q_cI (q_runS (As := [.ref (adr w a), .int (iI (lo (srI x 6) 16))]) (rest := [.int (iI (lo (srI x 6) 16)), .int (iI wd), .ref (adr w b), .ref (adr w a)]) C (k_L_many (F := G2) (r := (rem A.r (home A.r wd) (plc A.r wd))) l hLa hWG2 hIG2 (y := lo (srI x 6) 16) ⟨by omega, by omega⟩) wd_350 wd_349 wd_12 wd_348 nd_L_many rfl (by decide) ⟨Nat.zero_le _, Nat.zero_le _⟩ rfl (Nat.le_of_ble_eq_true rfl) dL_moves_82) ?_
        rintro z F' ⟨rfl, rfl⟩
        have qs82 := hIG2.sz (l := lo (srI x 6) 16) (by omega) (by omega)
        refine q_cV (q_runS (As := [.ref (adr w a), .ref (adr w b), .int (iI wd), .int (iI (lo (srI x 6) 16)), .int (iI ((rem A.r (home A.r wd) (plc A.r wd)) (lo (srI x 6) 16)))]) (rest := []) C (k_L_comes (F := G2) (r := (rem A.r (home A.r wd) (plc A.r wd))) l hLa hWG2 hIG2 hLb hLG2 hd.1 (x := wd) (y := lo (srI x 6) 16) (p := (rem A.r (home A.r wd) (plc A.r wd)) (lo (srI x 6) 16)) ⟨by omega, by omega⟩ (by omega) ⟨by omega, by omega⟩ ⟨by omega, by omega⟩ (by omega)) wd_511 wd_510 wd_12 wd_509 nd_L_comes rfl (by decide) ⟨Nat.zero_le _, Nat.zero_le _⟩ rfl (Nat.le_of_ble_eq_true rfl) dL_moves_85) ?_
        rintro G3 ⟨hWG3, hLG3, hfG3⟩
        have hsG3 : ∀ j, ¬ (0 ≤ j ∧ j < 128) → (ins (rem A.r (home A.r wd) (plc A.r wd)) wd (lo (srI x 6) 16) ((rem A.r (home A.r wd) (plc A.r wd)) (lo (srI x 6) 16))) j = (rem A.r (home A.r wd) (plc A.r wd)) j := fun j hj => ins_hi ⟨by omega, by omega⟩ ⟨by omega, by omega⟩ (by omega) hj
        have hIG3 : Iv (ins (rem A.r (home A.r wd) (plc A.r wd)) wd (lo (srI x 6) 16) ((rem A.r (home A.r wd) (plc A.r wd)) (lo (srI x 6) 16))) := ins_iv hIG2 ⟨by omega, by omega⟩ hrh ⟨by omega, by omega⟩ ⟨by omega, by omega⟩ (by omega)
        have h4G3 : T4 G3 a b nn t (ins (rem A.r (home A.r wd) (plc A.r wd)) wd (lo (srI x 6) 16) ((rem A.r (home A.r wd) (plc A.r wd)) (lo (srI x 6) 16))) := T4_ch hWG3 hLG3 (h4G2.2.2.1.k (hfG3 nn hd.2.1.symm hd.2.2.2.1.symm)) (h4G2.2.2.2.k (hfG3 t hd.2.2.1.symm hd.2.2.2.2.1.symm)) hsG3
        have hAG3 : CI G3 A := hAG2.law (fun k hk => hfG3 k (by omega) (by omega))
        refine q_aload_n C 6 dL_moves_88 rfl ?_
        refine q_iload C 0 dL_moves_89 rfl ?_
        refine q_if_ne C 98 dL_moves_91 ⟨by omega, by omega⟩  (by decide) (fun h91 => (h91 h63).elim) (fun h91 => ?_)
        refine q_iconst C 4 dL_moves_94 ?_
        refine q_goto C 99 dL_moves_95 (by decide) ?_
        refine q_dup2 C dL_moves_99 rfl rfl ?_
        refine q_iald9 C hLn ⟨by omega, by omega⟩ dL_moves_100 ?_
        rw [show G3 nn 4 = (ins (rem A.r (home A.r wd) (plc A.r wd)) wd (lo (srI x 6) 16) ((rem A.r (home A.r wd) (plc A.r wd)) (lo (srI x 6) 16))) 180 from h4G3.2.2.1.1.2.2.2.2.1]
        refine q_iconst C 1 dL_moves_101 ?_
        refine q_iadd C dL_moves_102 ?_
        refine q_iast9 C hLn ⟨by omega, by omega⟩ dL_moves_103 ?_
        generalize hgG4 : up G3 nn 4 (((ins (rem A.r (home A.r wd) (plc A.r wd)) wd (lo (srI x 6) 16) ((rem A.r (home A.r wd) (plc A.r wd)) (lo (srI x 6) 16))) 180) + 1) = G4
        have h4G4 : T4 G4 a b nn t (pt (ins (rem A.r (home A.r wd) (plc A.r wd)) wd (lo (srI x 6) 16) ((rem A.r (home A.r wd) (plc A.r wd)) (lo (srI x 6) 16)))) := by rw [← hgG4]; exact T4_pt h4G3 hIG3 hd.2.1 hd.2.2.2.1 hd.2.2.2.2.2.symm rfl
        have hAG4 : CI G4 A := hAG3.law (fun k hk => by rw [← hgG4, up_k (by omega)])
        refine q_aload_n C 3 dL_moves_104 rfl ?_
        refine q_iload C 2 dL_moves_105 rfl ?_
        refine q_iload C 1 dL_moves_107 rfl ?_
        refine q_iconst C 4 dL_moves_109 ?_
        refine q_idiv C dL_moves_110 ⟨by omega, by omega⟩ ⟨by decide, by decide⟩ ?_
        refine q_iload C 1 dL_moves_111 rfl ?_
        refine q_iconst C 4 dL_moves_113 ?_
        refine q_irem C dL_moves_114 ⟨by omega, by omega⟩ ⟨by decide, by decide⟩ ?_
        refine q_cI (q_runV (As := [.int (iI wd), .int (iI ((lo (srI x 6) 16) / 4)), .int (iI ((lo (srI x 6) 16) % 4))]) (rest := []) C (k_X3_move (F := G4) l hAG4 (x := wd) (d := (lo (srI x 6) 16) / 4) (y := (lo (srI x 6) 16) % 4) ⟨by omega, by omega⟩ ⟨by omega, by omega⟩ ⟨by omega, by omega⟩ (by unfold moveT; rw [show 4 * ((lo (srI x 6) 16) / 4) + (lo (srI x 6) 16) % 4 = lo (srI x 6) 16 by omega, if_neg (by omega), if_neg (by omega)])) kd0 (by decide) rfl wd_627 wd_625 wd_626 wd_13 wd_624 nd_X3_move rfl (by decide) ⟨Nat.zero_le _, Nat.zero_le _⟩ rfl (Nat.le_of_ble_eq_true rfl) dL_moves_115) ?_
        rintro z G9 ⟨-, rfl, hJ9⟩
        refine q_iload C 0 dL_moves_118 rfl ?_
        refine q_eqn C 127 dL_moves_120 (by decide) (by show rea A.r wd (4 * ((lo (srI x 6) 16) / 4) + (lo (srI x 6) 16) % 4) (A.r (4 * ((lo (srI x 6) 16) / 4) + (lo (srI x 6) 16) % 4)) = _; rw [show 4 * ((lo (srI x 6) 16) / 4) + (lo (srI x 6) 16) % 4 = lo (srI x 6) 16 by omega]) ?_
        refine q_iconst C 1 dL_moves_123 ?_
        refine q_goto C 128 dL_moves_124 (by decide) ?_
        refine q_zret C dL_moves_128 (by decide) ?_
        have hN9 : (moveN A wd ((lo (srI x 6) 16) / 4) ((lo (srI x 6) 16) % 4)).r = (pt (ins (rem A.r (home A.r wd) (plc A.r wd)) wd (lo (srI x 6) 16) ((rem A.r (home A.r wd) (plc A.r wd)) (lo (srI x 6) 16)))) := by unfold moveN; rw [show 4 * ((lo (srI x 6) 16) / 4) + (lo (srI x 6) 16) % 4 = lo (srI x 6) 16 by omega]; (rw [if_pos (by omega), hro]) <;> rfl
        exact ⟨rfl, ActQ.mk (by rw [hN9]; exact h4G4) ha9 hb9 hn9 ht9 hJ9 (by rw [hN9]; rw [pt_179, hsG3 _ (by omega), hsG2 _ (by omega)]; omega)⟩

set_option maxRecDepth 100000 in
set_option maxHeartbeats 4000000 in
theorem k_L_takesOff (l : Launch) {w : WP} {F : FF} {a b nn t : Nat} {A : AS} (hLa : LwP w a 40) (hLb : LwP w b 16) (hLn : LwP w nn 14) (hLt : LwP w t 40) (hTA : TA F a b nn t A.r) (hA : CI F A) {x : Int} (hd : a ≠ b ∧ a ≠ nn ∧ a ≠ t ∧ b ≠ nn ∧ b ≠ t ∧ nn ≠ t)  : Con l yL_takesOff cL_takesOff 6 (some .boolean) 7 w [.ref (adr w 0), .ref (adr w a), .ref (adr w b), .int (iI x)] F (QI w (fun z F' => z = 1 ∧ ActQ F' a b nn t A)) := by
  refine Con.mk (lv := [(0, .ref (adr w 0)), (1, .ref (adr w a)), (2, .ref (adr w b)), (3, .int (iI x))]) (by decide) (Nat.le_of_ble_eq_true rfl) rfl ?_
  intro pg ev s0 mi be me co C hz
  obtain ⟨hW, hL, hN, hT, hI⟩ := id hTA
  have ha9 := hLa.ge
  have hb9 := hLb.ge
  have hn9 := hLn.ge
  have ht9 := hLt.ge
  refine q_aload_n C 1 dL_takesOff_0 rfl ?_
  refine q_iload_n C 3 dL_takesOff_1 rfl ?_
  refine q_bipush C 40 dL_takesOff_2 (by decide) ?_
  refine q_cI (q_runS (As := [.int (iI x), .int (iI 40)]) (rest := [.ref (adr w a)]) C (k_L_low (F := F) l (x := x) (n := 40) ⟨by decide, by decide⟩) wd_163 wd_162 wd_12 wd_161 nd_L_low rfl (by decide) ⟨Nat.zero_le _, Nat.zero_le _⟩ rfl (Nat.le_of_ble_eq_true rfl) dL_takesOff_4) ?_
  rintro z F' ⟨rfl, rfl⟩
  have qlo4 := lo_range x 40 (by omega)
  refine q_iconst C 0 dL_takesOff_7 ?_
  refine q_cI (q_runS (As := [.ref (adr w a), .int (iI (lo x 40)), .int (iI 0)]) (rest := []) C (k_L_some (F := F) (r := A.r) l hLa hW hI (f := lo x 40) (ib := 0) ⟨by omega, by omega⟩ (by decide)) wd_573 wd_572 wd_12 wd_571 nd_L_some rfl (by decide) ⟨Nat.zero_le _, Nat.zero_le _⟩ rfl (Nat.le_of_ble_eq_true rfl) dL_takesOff_8) ?_
  rintro wd F' ⟨hwd, rfl⟩
  refine q_istore (lv' := [(4, .int (iI wd)), (0, .ref (adr w 0)), (1, .ref (adr w a)), (2, .ref (adr w b)), (3, .int (iI x))]) C dL_takesOff_11 (by decide) rfl ?_
  refine q_iload C 0 dL_takesOff_13 rfl ?_
  refine q_if_ge C 34 dL_takesOff_15 ⟨by omega, by omega⟩  (by decide) (fun h15 => ?_) (fun h15 => ?_)
  · obtain ⟨hw0, hw1⟩ := hwd.resolve_left (fun q => by have := q.1; omega)
    have hwh : ¬ home A.r wd = -1 := fun e => absurd (hw1.mp e) (by decide)
    have hf := hW wd (by omega) (by omega)
    have hc := whv_c hI wd
    refine q_aload_n C 2 dL_takesOff_34 rfl ?_
    refine q_iload C 0 dL_takesOff_35 rfl ?_
    refine q_iald9 C hLa ⟨by omega, by omega⟩ dL_takesOff_37 ?_
    refine q_bipush C 8 dL_takesOff_38 (by decide) ?_
    refine q_idiv C dL_takesOff_40 ⟨by omega, by omega⟩ ⟨by decide, by decide⟩ ?_
    refine q_top (z' := home A.r wd) (by omega) ?_
    refine q_istore (lv' := [(5, .int (iI (home A.r wd))), (4, .int (iI wd)), (0, .ref (adr w 0)), (1, .ref (adr w a)), (2, .ref (adr w b)), (3, .int (iI x))]) C dL_takesOff_41 (by decide) rfl ?_
    refine q_aload_n C 3 dL_takesOff_43 rfl ?_
    refine q_aload_n C 4 dL_takesOff_44 rfl ?_
    refine q_iload C 1 dL_takesOff_45 rfl ?_
    refine q_cV (q_runS (As := [.ref (adr w a), .ref (adr w b), .int (iI wd)]) (rest := []) C (k_L_leaves (F := F) (r := A.r) l hLa hW hI hLb hL hd.1 (x := wd) ⟨by omega, by omega⟩ (by omega)) wd_520 wd_519 wd_12 wd_518 nd_L_leaves rfl (by decide) ⟨Nat.zero_le _, Nat.zero_le _⟩ rfl (Nat.le_of_ble_eq_true rfl) dL_takesOff_47) ?_
    rintro G1 ⟨hWG1, hLG1, hfG1⟩
    obtain ⟨y0, y1, q0, q1, hw9⟩ := home_at hI (x := wd) hwh
    have hsG1 : ∀ j, ¬ (0 ≤ j ∧ j < 128) → (rem A.r (home A.r wd) (plc A.r wd)) j = A.r j := fun j hj => rem_hi hI ⟨y0, y1⟩ ⟨q0, q1⟩ hj
    have hIG1 : Iv (rem A.r (home A.r wd) (plc A.r wd)) := rem_iv hI ⟨y0, y1⟩ ⟨q0, q1⟩
    have h4G1 : T4 G1 a b nn t (rem A.r (home A.r wd) (plc A.r wd)) := T4_ch hWG1 hLG1 (hN.k (hfG1 nn hd.2.1.symm hd.2.2.2.1.symm)) (hT.k (hfG1 t hd.2.2.1.symm hd.2.2.2.2.1.symm)) hsG1
    have hAG1 : CI G1 A := hA.law (fun k hk => hfG1 k (by omega) (by omega))
    refine q_aload_n C 2 dL_takesOff_50 rfl ?_
    refine q_iload C 1 dL_takesOff_51 rfl ?_
    refine q_cI (q_runV (As := [.int (iI wd)]) (rest := []) C (k_X3_takeOff (F := G1) l hAG1 (x := wd) ⟨by omega, by omega⟩ (by unfold takeOffT; rw [if_neg (by omega), if_neg (by omega)])) kd0 (by decide) rfl wd_617 wd_615 wd_616 wd_13 wd_614 nd_X3_takeOff rfl (by decide) ⟨Nat.zero_le _, Nat.zero_le _⟩ rfl (Nat.le_of_ble_eq_true rfl) dL_takesOff_53) ?_
    rintro z G9 ⟨-, rfl, hJ9⟩
    refine q_iload C 0 dL_takesOff_56 rfl ?_
    refine q_cI (q_runS (As := [.int (iI (home A.r wd))]) (rest := [.int (iI (takeOffZ A wd))]) C (k_L_told (F := G9) l (y := home A.r wd) ⟨by omega, by omega⟩) wd_365 wd_364 wd_12 wd_363 nd_L_told rfl (by decide) ⟨Nat.zero_le _, Nat.zero_le _⟩ rfl (Nat.le_of_ble_eq_true rfl) dL_takesOff_58) ?_
    rintro z F' ⟨rfl, rfl⟩
    have qt58 := lc_range (home A.r wd)
    refine q_eqn C 68 dL_takesOff_61 (by decide) (rfl) ?_
    refine q_iconst C 1 dL_takesOff_64 ?_
    refine q_goto C 69 dL_takesOff_65 (by decide) ?_
    refine q_zret C dL_takesOff_69 (by decide) ?_
    have hN9 : (takeOffN A wd).r = (rem A.r (home A.r wd) (plc A.r wd)) := rfl
    exact ⟨rfl, ActQ.mk (by rw [hN9]; exact h4G1) ha9 hb9 hn9 ht9 hJ9 (by rw [hN9]; rw [hsG1 _ (by omega)]; omega)⟩
  · have hb40 : bg A.r = 40 := bag_40 hI (hwd.resolve_right (fun q => by omega)).2
    have hcv := cntv_c A
    refine q_aload_n C 1 dL_takesOff_18 rfl ?_
    refine q_iconst C 0 dL_takesOff_19 ?_
    refine q_cI (q_runV (As := [.int (iI 0)]) (rest := []) C ((k_X3_count (F := F) l hA (k := 0) ⟨by decide, by decide⟩ (by unfold countT; rw [if_neg (by omega)])).post (fun z F' h => (⟨h.1.trans (rfl), h.2⟩ : z = cntv A 0 ∧ F = F'))) kd0 (by decide) rfl wd_400 wd_398 wd_399 wd_13 wd_397 nd_X3_count rfl (by decide) ⟨Nat.zero_le _, Nat.zero_le _⟩ rfl (Nat.le_of_ble_eq_true rfl) dL_takesOff_20) ?_
    rintro z F' ⟨rfl, rfl⟩
    refine q_bipush C 40 dL_takesOff_23 (by decide) ?_
    refine q_eqn C 32 dL_takesOff_25 (by decide) (by omega) ?_
    refine q_iconst C 1 dL_takesOff_28 ?_
    refine q_goto C 33 dL_takesOff_29 (by decide) ?_
    refine q_zret C dL_takesOff_33 (by decide) ?_
    exact ⟨rfl, ActQ.refl hTA hA⟩

set_option maxRecDepth 100000 in
set_option maxHeartbeats 4000000 in
theorem k_L_clears (l : Launch) {w : WP} {F : FF} {a b nn t : Nat} {A : AS} (hLa : LwP w a 40) (hLb : LwP w b 16) (hLn : LwP w nn 14) (hLt : LwP w t 40) (hTA : TA F a b nn t A.r) (hA : CI F A) {d : Int} (hd9 : 0 ≤ d ∧ d < 4) (hd : a ≠ b ∧ a ≠ nn ∧ a ≠ t ∧ b ≠ nn ∧ b ≠ t ∧ nn ≠ t)  : Con l yL_clears cL_clears 6 (some .boolean) 6 w [.ref (adr w 0), .ref (adr w a), .ref (adr w b), .int (iI d)] F (QI w (fun z F' => z = 1 ∧ ActQ F' a b nn t A)) := by
  refine Con.mk (lv := [(0, .ref (adr w 0)), (1, .ref (adr w a)), (2, .ref (adr w b)), (3, .int (iI d))]) (by decide) (Nat.le_of_ble_eq_true rfl) rfl ?_
  intro pg ev s0 mi be me co C hz
  obtain ⟨hW, hL, hN, hT, hI⟩ := id hTA
  have ha9 := hLa.ge
  have hb9 := hLb.ge
  have hn9 := hLn.ge
  have ht9 := hLt.ge
  refine q_iconst C 0 dL_clears_0 ?_
  refine q_istore (lv' := [(4, .int (iI 0)), (0, .ref (adr w 0)), (1, .ref (adr w a)), (2, .ref (adr w b)), (3, .int (iI d))]) C dL_clears_1 (by decide) rfl ?_
  refine q_iconst C 0 dL_clears_3 ?_
  refine q_istore (lv' := [(5, .int (iI 0)), (4, .int (iI 0)), (0, .ref (adr w 0)), (1, .ref (adr w a)), (2, .ref (adr w b)), (3, .int (iI d))]) C dL_clears_4 (by decide) rfl ?_
  refine q_lv (lv' := [(0, .ref (adr w 0)), (1, .ref (adr w a)), (2, .ref (adr w b)), (3, .int (iI d)), (4, .int (iI 0)), (5, .int (iI 0))]) [2, 3, 4, 5, 1, 0] rfl ?_
  refine wf4 (P := fun (i : Int) (m : Int) (s : Rw) (G : FF) => Wq pg l ev _ s0 mi _ be me co _ w _ _ _ 6 [(0, .ref (adr w 0)), (1, .ref (adr w a)), (2, .ref (adr w b)), (3, .int (iI d)), (4, .int (iI m)), (5, .int (iI i))] [] G) (I := fun (i : Int) (m : Int) (s : Rw) (G : FF) => 0 ≤ i ∧ i ≤ 40 ∧ T4 G a b nn t s ∧ Iv s ∧ clr s d = clr A.r d ∧ m = dwo A.r d - dwo s d ∧ (∀ x, 0 ≤ x → x < i → home s x = -1 ∨ home s x / 4 ≠ d) ∧ ∀ k, k < 110 → G k = F k) (μ := fun (i : Int) (m : Int) (s : Rw) (G : FF) => (40 - i).toNat) ?_ 0 0 A.r F (⟨by omega, by omega, hTA.t4, hI, rfl, by omega, fun x x0 x1 => by omega, fun k hk => rfl⟩)
  intro i m s G hI' ih6
  (try dsimp only at hI'); (try dsimp only at ih6); (try dsimp only)
  obtain ⟨hi0, hi1, h4, hIs, hcl, hm, hno, hfr⟩ := hI'
  refine q_iload C 5 dL_clears_6 rfl ?_
  refine q_bipush C 40 dL_clears_8 (by decide) ?_
  refine q_icmp_ge C 47 dL_clears_10 ⟨by omega, by omega⟩ ⟨by decide, by decide⟩ (by decide) (fun h10 => ?_) (fun h10 => ?_)
  · obtain ⟨hse, hme⟩ := clr_end hIs hd9 hcl hm (by omega) hno
    have hAG : CI G A := hA.law hfr
    refine q_aload_n C 0 dL_clears_47 rfl ?_
    refine q_iload_n C 3 dL_clears_48 rfl ?_
    refine q_cI (q_runV (As := [.int (iI d)]) (rest := []) C (k_X3_clearDoor (F := G) l hAG (d := d) ⟨by omega, by omega⟩ (by unfold clearDoorT; rw [if_neg (by omega)])) kd0 (by decide) rfl wd_636 wd_634 wd_635 wd_13 wd_633 nd_X3_clearDoor rfl (by decide) ⟨Nat.zero_le _, Nat.zero_le _⟩ rfl (Nat.le_of_ble_eq_true rfl) dL_clears_49) ?_
    rintro z G9 ⟨-, rfl, hJ9⟩
    refine q_iload C 4 dL_clears_52 rfl ?_
    refine q_eqn C 61 dL_clears_54 (by decide) (hme.symm) ?_
    refine q_iconst C 1 dL_clears_57 ?_
    refine q_goto C 62 dL_clears_58 (by decide) ?_
    refine q_zret C dL_clears_62 (by decide) ?_
    have hN9 : (clearDoorN A d).r = s := hse.symm
    exact ⟨rfl, ActQ.mk (by rw [hN9]; exact h4) ha9 hb9 hn9 ht9 hJ9 (by rw [hN9]; rw [hse, clr_179 hd9]; omega)⟩
  · have hf := h4.1 i (by omega) (by omega)
    have hc := whv_c hIs i
    refine q_aload_n C 1 dL_clears_13 rfl ?_
    refine q_iload C 5 dL_clears_14 rfl ?_
    refine q_iald9 C hLa ⟨by omega, by omega⟩ dL_clears_16 ?_
    refine q_if_lt C 41 dL_clears_17 ⟨by omega, by omega⟩  (by decide) (fun h17 => ?_) (fun h17 => ?_)
    · refine q_iinc (lv' := [(5, .int (iI (i + 1))), (0, .ref (adr w 0)), (1, .ref (adr w a)), (2, .ref (adr w b)), (3, .int (iI d)), (4, .int (iI m))]) C 5 dL_clears_41 rfl (by decide) rfl ?_
      refine q_goto C 6 dL_clears_44 (by decide) ?_
      refine q_lv (lv' := [(0, .ref (adr w 0)), (1, .ref (adr w a)), (2, .ref (adr w b)), (3, .int (iI d)), (4, .int (iI m)), (5, .int (iI (i + 1)))]) [1, 2, 3, 4, 5, 0] rfl ?_
      exact ih6 (i + 1) m s G (⟨by omega, by omega, by first | exact ⟨h41, e1, e2, e3, e4, hfr1⟩ | exact ⟨h4, hIs, hcl, hm, clr_skip (by omega) hno, hfr⟩⟩) (by omega)
    · refine q_aload_n C 1 dL_clears_20 rfl ?_
      refine q_iload C 5 dL_clears_21 rfl ?_
      refine q_iald9 C hLa ⟨by omega, by omega⟩ dL_clears_23 ?_
      refine q_bipush C 32 dL_clears_24 (by decide) ?_
      refine q_idiv C dL_clears_26 ⟨by omega, by omega⟩ ⟨by decide, by decide⟩ ?_
      refine q_iload_n C 3 dL_clears_27 rfl ?_
      refine q_icmp_ne C 41 dL_clears_28 ⟨by omega, by omega⟩ ⟨by omega, by omega⟩ (by decide) (fun h28 => ?_) (fun h28 => ?_)
      · refine q_iinc (lv' := [(5, .int (iI (i + 1))), (0, .ref (adr w 0)), (1, .ref (adr w a)), (2, .ref (adr w b)), (3, .int (iI d)), (4, .int (iI m))]) C 5 dL_clears_41 rfl (by decide) rfl ?_
        refine q_goto C 6 dL_clears_44 (by decide) ?_
        refine q_lv (lv' := [(0, .ref (adr w 0)), (1, .ref (adr w a)), (2, .ref (adr w b)), (3, .int (iI d)), (4, .int (iI m)), (5, .int (iI (i + 1)))]) [1, 2, 3, 4, 5, 0] rfl ?_
        exact ih6 (i + 1) m s G (⟨by omega, by omega, by first | exact ⟨h41, e1, e2, e3, e4, hfr1⟩ | exact ⟨h4, hIs, hcl, hm, clr_skip (by omega) hno, hfr⟩⟩) (by omega)
      · refine q_aload_n C 1 dL_clears_31 rfl ?_
        refine q_aload_n C 2 dL_clears_32 rfl ?_
        refine q_iload C 5 dL_clears_33 rfl ?_
        refine q_cV (q_runS (As := [.ref (adr w a), .ref (adr w b), .int (iI i)]) (rest := []) C (k_L_leaves (F := G) (r := s) l hLa h4.1 hIs hLb h4.2.1 hd.1 (x := i) ⟨by omega, by omega⟩ (by omega)) wd_520 wd_519 wd_12 wd_518 nd_L_leaves rfl (by decide) ⟨Nat.zero_le _, Nat.zero_le _⟩ rfl (Nat.le_of_ble_eq_true rfl) dL_clears_35) ?_
        rintro G1 ⟨hWG1, hLG1, hfG1⟩
        obtain ⟨e1, e2, e3, e4, e5⟩ := clr_step hIs (i := i) ⟨by omega, by omega⟩ ⟨by omega, by omega⟩ hcl hm hno
        have h41 : T4 G1 a b nn t (rem s (home s i) (plc s i)) := T4_ch hWG1 hLG1 (h4.2.2.1.k (hfG1 nn hd.2.1.symm hd.2.2.2.1.symm)) (h4.2.2.2.k (hfG1 t hd.2.2.1.symm hd.2.2.2.2.1.symm)) e5
        have hfr1 : ∀ k, k < 110 → G1 k = F k := fun k hk => (hfG1 k (by omega) (by omega)).trans (hfr k hk)
        refine q_iinc (lv' := [(4, .int (iI (m + 1))), (0, .ref (adr w 0)), (1, .ref (adr w a)), (2, .ref (adr w b)), (3, .int (iI d)), (5, .int (iI i))]) C 4 dL_clears_38 rfl (by decide) rfl ?_
        refine q_iinc (lv' := [(5, .int (iI (i + 1))), (4, .int (iI (m + 1))), (0, .ref (adr w 0)), (1, .ref (adr w a)), (2, .ref (adr w b)), (3, .int (iI d))]) C 5 dL_clears_41 rfl (by decide) rfl ?_
        refine q_goto C 6 dL_clears_44 (by decide) ?_
        refine q_lv (lv' := [(0, .ref (adr w 0)), (1, .ref (adr w a)), (2, .ref (adr w b)), (3, .int (iI d)), (4, .int (iI (m + 1))), (5, .int (iI (i + 1)))]) [2, 3, 4, 5, 1, 0] rfl ?_
        exact ih6 (i + 1) (m + 1) (rem s (home s i) (plc s i)) G1 (⟨by omega, by omega, by first | exact ⟨h41, e1, e2, e3, e4, hfr1⟩ | exact ⟨h4, hIs, hcl, hm, clr_skip (by omega) hno, hfr⟩⟩) (by omega)

set_option maxRecDepth 100000 in
set_option maxHeartbeats 4000000 in
theorem k_L_lends (l : Launch) {w : WP} {F : FF} {a b nn t : Nat} {A : AS} (hLa : LwP w a 40) (hLb : LwP w b 16) (hLn : LwP w nn 14) (hLt : LwP w t 40) (hTA : TA F a b nn t A.r) (hA : CI F A) {x : Int} (hd : a ≠ b ∧ a ≠ nn ∧ a ≠ t ∧ b ≠ nn ∧ b ≠ t ∧ nn ≠ t)  : Con l yL_lends cL_lends 6 (some .boolean) 4 w [.ref (adr w 0), .ref (adr w a), .ref (adr w b), .int (iI x)] F (QI w (fun z F' => z = 1 ∧ ActQ F' a b nn t A)) := by
  refine Con.mk (lv := [(0, .ref (adr w 0)), (1, .ref (adr w a)), (2, .ref (adr w b)), (3, .int (iI x))]) (by decide) (Nat.le_of_ble_eq_true rfl) rfl ?_
  intro pg ev s0 mi be me co C hz
  obtain ⟨hW, hL, hN, hT, hI⟩ := id hTA
  have ha9 := hLa.ge
  have hb9 := hLb.ge
  have hn9 := hLn.ge
  have ht9 := hLt.ge
  refine q_aload_n C 1 dL_lends_0 rfl ?_
  refine q_aload_n C 2 dL_lends_1 rfl ?_
  refine q_iload_n C 3 dL_lends_2 rfl ?_
  refine q_bipush C 16 dL_lends_3 (by decide) ?_
  refine q_cI (q_runS (As := [.int (iI x), .int (iI 16)]) (rest := [.ref (adr w b), .ref (adr w a)]) C (k_L_low (F := F) l (x := x) (n := 16) ⟨by decide, by decide⟩) wd_163 wd_162 wd_12 wd_161 nd_L_low rfl (by decide) ⟨Nat.zero_le _, Nat.zero_le _⟩ rfl (Nat.le_of_ble_eq_true rfl) dL_lends_5) ?_
  rintro z F' ⟨rfl, rfl⟩
  have qlo5 := lo_range x 16 (by omega)
  refine q_iload_n C 3 dL_lends_8 rfl ?_
  refine q_iconst C 4 dL_lends_9 ?_
  refine q_cI (q_runS (As := [.int (iI x), .int (iI 4)]) (rest := [.int (iI (lo x 16)), .ref (adr w b), .ref (adr w a)]) C (k_L_low (F := F) l (x := x) (n := 4) ⟨by decide, by decide⟩) wd_163 wd_162 wd_12 wd_161 nd_L_low rfl (by decide) ⟨Nat.zero_le _, Nat.zero_le _⟩ rfl (Nat.le_of_ble_eq_true rfl) dL_lends_10) ?_
  rintro z F' ⟨rfl, rfl⟩
  have qlo10 := lo_range x 4 (by omega)
  refine q_iconst C 1 dL_lends_13 ?_
  refine q_cI (q_runS (As := [.ref (adr w a), .ref (adr w b), .int (iI (lo x 16)), .int (iI (lo x 4)), .int (iI 1)]) (rest := []) C (k_L_freeLine (F := F) (r := A.r) l hLa hW hI hLb hL (f := lo x 16) (d := lo x 4) (o := 1) ⟨by omega, by omega⟩ ⟨by omega, by omega⟩ (by decide)) wd_646 wd_645 wd_12 wd_644 nd_L_freeLine rfl (by decide) ⟨Nat.zero_le _, Nat.zero_le _⟩ rfl (Nat.le_of_ble_eq_true rfl) dL_lends_14) ?_
  rintro to F' ⟨hto, rfl⟩
  have htor : -1 ≤ to ∧ to < 16 := by rcases hto with q | q <;> omega
  refine q_istore (lv' := [(4, .int (iI to)), (0, .ref (adr w 0)), (1, .ref (adr w a)), (2, .ref (adr w b)), (3, .int (iI x))]) C dL_lends_17 (by decide) rfl ?_
  refine q_aload_n C 2 dL_lends_19 rfl ?_
  refine q_aload_n C 3 dL_lends_20 rfl ?_
  refine q_iload_n C 4 dL_lends_21 rfl ?_
  refine q_iconst C 4 dL_lends_22 ?_
  refine q_ishr C (srI x 4) (srI_e _ _) dL_lends_23 ?_
  refine q_bipush C 16 dL_lends_24 (by decide) ?_
  refine q_cI (q_runS (As := [.int (iI (srI x 4)), .int (iI 16)]) (rest := [.ref (adr w b), .ref (adr w a)]) C (k_L_low (F := F) l (x := srI x 4) (n := 16) ⟨by decide, by decide⟩) wd_163 wd_162 wd_12 wd_161 nd_L_low rfl (by decide) ⟨Nat.zero_le _, Nat.zero_le _⟩ rfl (Nat.le_of_ble_eq_true rfl) dL_lends_26) ?_
  rintro z F' ⟨rfl, rfl⟩
  have qlo26 := lo_range (srI x 4) 16 (by omega)
  refine q_iload_n C 4 dL_lends_29 rfl ?_
  refine q_iconst C 4 dL_lends_30 ?_
  refine q_cI (q_runS (As := [.int (iI x), .int (iI 4)]) (rest := [.int (iI (lo (srI x 4) 16)), .ref (adr w b), .ref (adr w a)]) C (k_L_low (F := F) l (x := x) (n := 4) ⟨by decide, by decide⟩) wd_163 wd_162 wd_12 wd_161 nd_L_low rfl (by decide) ⟨Nat.zero_le _, Nat.zero_le _⟩ rfl (Nat.le_of_ble_eq_true rfl) dL_lends_31) ?_
  rintro z F' ⟨rfl, rfl⟩
  have qlo31 := lo_range x 4 (by omega)
  refine q_iconst C 0 dL_lends_34 ?_
  refine q_cI (q_runS (As := [.ref (adr w a), .ref (adr w b), .int (iI (lo (srI x 4) 16)), .int (iI (lo x 4)), .int (iI 0)]) (rest := []) C (k_L_freeLine (F := F) (r := A.r) l hLa hW hI hLb hL (f := lo (srI x 4) 16) (d := lo x 4) (o := 0) ⟨by omega, by omega⟩ ⟨by omega, by omega⟩ (by decide)) wd_646 wd_645 wd_12 wd_644 nd_L_freeLine rfl (by decide) ⟨Nat.zero_le _, Nat.zero_le _⟩ rfl (Nat.le_of_ble_eq_true rfl) dL_lends_35) ?_
  rintro fm F' ⟨hfm, rfl⟩
  have hfmr : -1 ≤ fm ∧ fm < 16 := by rcases hfm with q | q <;> omega
  refine q_istore (lv' := [(5, .int (iI fm)), (4, .int (iI to)), (0, .ref (adr w 0)), (1, .ref (adr w a)), (2, .ref (adr w b)), (3, .int (iI x))]) C dL_lends_38 (by decide) rfl ?_
  refine q_iload C 1 dL_lends_40 rfl ?_
  refine q_if_lt C 50 dL_lends_42 ⟨by omega, by omega⟩  (by decide) (fun h42 => ?_) (fun h42 => ?_)
  · refine q_iconst C 1 dL_lends_50 ?_
    refine q_zret C dL_lends_51 (by decide) ?_
    exact ⟨rfl, ActQ.refl hTA hA⟩
  · refine q_iload C 0 dL_lends_45 rfl ?_
    refine q_if_ge C 52 dL_lends_47 ⟨by omega, by omega⟩  (by decide) (fun h47 => ?_) (fun h47 => ?_)
    · obtain ⟨ht0, ht1, ht2⟩ := hto.resolve_left (by omega)
      obtain ⟨hg0, hg1, hg2⟩ := hfm.resolve_left (by omega)
      obtain ⟨f1, f2, f3⟩ := id ht1
      obtain ⟨f4, f5, f6⟩ := id hg1
      have qn := la_nn hI hg0 f4
      have qsz := hI.sz hg0.1 hg0.2
      refine q_aload_n C 4 dL_lends_52 rfl ?_
      refine q_iload C 1 dL_lends_53 rfl ?_
      refine q_iload C 0 dL_lends_55 rfl ?_
      refine q_iast9 C hLb ⟨by omega, by omega⟩ dL_lends_57 ?_
      generalize hgG1 : up F b to (fm) = G1
      have h4G1 : T4 G1 a b nn t (lnd A.r to fm) := by rw [← hgG1]; exact T4_lnd hTA.t4 hI hd.1 hd.2.2.2.1.symm hd.2.2.2.2.1.symm ⟨by omega, by omega⟩
      have hAG1 : CI G1 A := hA.law (fun k hk => by rw [← hgG1, up_k (by omega)])
      refine q_aload_n C 2 dL_lends_58 rfl ?_
      refine q_iload C 1 dL_lends_59 rfl ?_
      refine q_iconst C 4 dL_lends_61 ?_
      refine q_idiv C dL_lends_62 ⟨by omega, by omega⟩ ⟨by decide, by decide⟩ ?_
      refine q_iload C 1 dL_lends_63 rfl ?_
      refine q_iconst C 4 dL_lends_65 ?_
      refine q_irem C dL_lends_66 ⟨by omega, by omega⟩ ⟨by decide, by decide⟩ ?_
      refine q_iload C 0 dL_lends_67 rfl ?_
      refine q_iconst C 4 dL_lends_69 ?_
      refine q_idiv C dL_lends_70 ⟨by omega, by omega⟩ ⟨by decide, by decide⟩ ?_
      refine q_iload C 0 dL_lends_71 rfl ?_
      refine q_iconst C 4 dL_lends_73 ?_
      refine q_irem C dL_lends_74 ⟨by omega, by omega⟩ ⟨by decide, by decide⟩ ?_
      refine q_cI (q_runV (As := [.int (iI (to / 4)), .int (iI (to % 4)), .int (iI (fm / 4)), .int (iI (fm % 4))]) (rest := []) C (k_X3_borrow (F := G1) l hAG1 (d := to / 4) (y := to % 4) (e := fm / 4) (g := fm % 4) ⟨by omega, by omega⟩ ⟨by omega, by omega⟩ ⟨by omega, by omega⟩ ⟨by omega, by omega⟩ (by unfold borrowT; rw [show 4 * (to / 4) + to % 4 = to by omega, show 4 * (fm / 4) + fm % 4 = fm by omega, if_neg (by omega), if_neg (by omega), if_neg (by omega)])) kd0 (by decide) rfl wd_653 wd_651 wd_652 wd_13 wd_650 nd_X3_borrow rfl (by decide) ⟨Nat.zero_le _, Nat.zero_le _⟩ rfl (Nat.le_of_ble_eq_true rfl) dL_lends_75) ?_
      rintro z G9 ⟨-, rfl, hJ9⟩
      have hW9 : TW G9 a A.r := hW.k (by rw [hJ9.2 a ha9, ← hgG1, up_k hd.1])
      refine q_aload_n C 3 dL_lends_78 rfl ?_
      refine q_iload C 0 dL_lends_79 rfl ?_
      refine q_cI (q_runS (As := [.ref (adr w a), .int (iI fm)]) (rest := [.int (iI (borrowZ A (to / 4) (to % 4) (fm / 4) (fm % 4)))]) C (k_L_last (F := G9) (r := A.r) l hLa hW9 hI (y := fm) ⟨by omega, by omega⟩) wd_362 wd_361 wd_12 wd_360 nd_L_last rfl (by decide) ⟨Nat.zero_le _, Nat.zero_le _⟩ rfl (Nat.le_of_ble_eq_true rfl) dL_lends_81) ?_
      rintro z F' ⟨rfl, rfl⟩
      have ql81 := la_range (l := fm) hI (by omega) (by omega)
      refine q_iconst C 4 dL_lends_84 ?_
      refine q_idiv C dL_lends_85 ⟨by omega, by omega⟩ ⟨by decide, by decide⟩ ?_
      refine q_iconst C 5 dL_lends_86 ?_
      refine q_irem C dL_lends_87 ⟨by omega, by omega⟩ ⟨by decide, by decide⟩ ?_
      refine q_eqn C 95 dL_lends_88 (by decide) (by show le (lnd A.r (4 * (to / 4) + to % 4) (4 * (fm / 4) + fm % 4)) (4 * (to / 4) + to % 4) = _; rw [show 4 * (to / 4) + to % 4 = to by omega, show 4 * (fm / 4) + fm % 4 = fm by omega, le_lnd ht0 hg0 f1 qsz]; rfl) ?_
      refine q_iconst C 1 dL_lends_91 ?_
      refine q_goto C 96 dL_lends_92 (by decide) ?_
      refine q_zret C dL_lends_96 (by decide) ?_
      have hN9 : (borrowN A (to / 4) (to % 4) (fm / 4) (fm % 4)).r = (lnd A.r to fm) := by show lnd A.r (4 * (to / 4) + to % 4) (4 * (fm / 4) + fm % 4) = _; rw [show 4 * (to / 4) + to % 4 = to by omega, show 4 * (fm / 4) + fm % 4 = fm by omega]
      exact ⟨rfl, ActQ.mk (by rw [hN9]; exact h4G1) ha9 hb9 hn9 ht9 hJ9 (by rw [hN9]; rw [lnd_179 ht0]; omega)⟩
    · refine q_iconst C 1 dL_lends_50 ?_
      refine q_zret C dL_lends_51 (by decide) ?_
      exact ⟨rfl, ActQ.refl hTA hA⟩

set_option maxRecDepth 100000 in
set_option maxHeartbeats 4000000 in
theorem k_L_bringsBack (l : Launch) {w : WP} {F : FF} {a b nn t : Nat} {A : AS} (hLa : LwP w a 40) (hLb : LwP w b 16) (hLn : LwP w nn 14) (hLt : LwP w t 40) (hTA : TA F a b nn t A.r) (hA : CI F A) {x : Int} (hd : a ≠ b ∧ a ≠ nn ∧ a ≠ t ∧ b ≠ nn ∧ b ≠ t ∧ nn ≠ t)  : Con l yL_bringsBack cL_bringsBack 6 (some .boolean) 7 w [.ref (adr w 0), .ref (adr w a), .ref (adr w b), .int (iI x)] F (QI w (fun z F' => z = 1 ∧ ActQ F' a b nn t A)) := by
  refine Con.mk (lv := [(0, .ref (adr w 0)), (1, .ref (adr w a)), (2, .ref (adr w b)), (3, .int (iI x))]) (by decide) (Nat.le_of_ble_eq_true rfl) rfl ?_
  intro pg ev s0 mi be me co C hz
  obtain ⟨hW, hL, hN, hT, hI⟩ := id hTA
  have ha9 := hLa.ge
  have hb9 := hLb.ge
  have hn9 := hLn.ge
  have ht9 := hLt.ge
  refine q_iconst C (-1) dL_bringsBack_0 ?_
  refine q_istore (lv' := [(4, .int (iI (-1))), (0, .ref (adr w 0)), (1, .ref (adr w a)), (2, .ref (adr w b)), (3, .int (iI x))]) C dL_bringsBack_1 (by decide) rfl ?_
  refine q_iconst C 0 dL_bringsBack_3 ?_
  refine q_istore (lv' := [(5, .int (iI 0)), (4, .int (iI (-1))), (0, .ref (adr w 0)), (1, .ref (adr w a)), (2, .ref (adr w b)), (3, .int (iI x))]) C dL_bringsBack_4 (by decide) rfl ?_
  refine q_lv (lv' := [(0, .ref (adr w 0)), (1, .ref (adr w a)), (2, .ref (adr w b)), (3, .int (iI x)), (4, .int (iI (-1))), (5, .int (iI 0))]) [2, 3, 4, 5, 1, 0] rfl ?_
  refine wf2 (P := fun (j : Int) (ln : Int) => Wq pg l ev _ s0 mi _ be me co _ w _ _ _ 6 [(0, .ref (adr w 0)), (1, .ref (adr w a)), (2, .ref (adr w b)), (3, .int (iI x)), (4, .int (iI ln)), (5, .int (iI j))] [] F) (I := fun (j : Int) (ln : Int) => 0 ≤ j ∧ j ≤ 16 ∧ LD A.r (lo x 16) j ln) (μ := fun (j : Int) (ln : Int) => (16 - j).toNat) ?_ 0 (-1) (⟨by omega, by omega, LD_0⟩)
  intro j ln hI' ih6
  (try dsimp only at hI'); (try dsimp only at ih6); (try dsimp only)
  obtain ⟨hi0, hi1, hLD⟩ := hI'
  have hldr := LD_rng hLD
  refine q_iload C 5 dL_bringsBack_6 rfl ?_
  refine q_bipush C 16 dL_bringsBack_8 (by decide) ?_
  refine q_icmp_ge C 59 dL_bringsBack_10 ⟨by omega, by omega⟩ ⟨by decide, by decide⟩ (by decide) (fun h10 => ?_) (fun h10 => ?_)
  · refine q_iload C 4 dL_bringsBack_59 rfl ?_
    refine q_if_ge C 79 dL_bringsBack_61 ⟨by omega, by omega⟩  (by decide) (fun h61 => ?_) (fun h61 => ?_)
    · obtain ⟨hl9, hl8⟩ := LD_some hLD (by omega)
      have hlend := hI.lend hl9.1 hl9.2 hl8
      have qn := la_nn hI hl9 hlend.1
      have qsz := hI.sz hl9.1 hl9.2
      refine q_aload_n C 2 dL_bringsBack_79 rfl ?_
      refine q_iload C 4 dL_bringsBack_80 rfl ?_
      refine q_iconst C (-1) dL_bringsBack_82 ?_
      refine q_iast9 C hLb ⟨by omega, by omega⟩ dL_bringsBack_83 ?_
      generalize hgG1 : up F b ln ((-1)) = G1
      have h4G1 : T4 G1 a b nn t (brb A.r ln) := by rw [← hgG1]; exact T4_brb hTA.t4 hI hd.1 hd.2.2.2.1.symm hd.2.2.2.2.1.symm ⟨by omega, by omega⟩
      have hAG1 : CI G1 A := hA.law (fun k hk => by rw [← hgG1, up_k (by omega)])
      refine q_aload_n C 0 dL_bringsBack_84 rfl ?_
      refine q_iload C 4 dL_bringsBack_85 rfl ?_
      refine q_iconst C 4 dL_bringsBack_87 ?_
      refine q_idiv C dL_bringsBack_88 ⟨by omega, by omega⟩ ⟨by decide, by decide⟩ ?_
      refine q_iload C 4 dL_bringsBack_89 rfl ?_
      refine q_iconst C 4 dL_bringsBack_91 ?_
      refine q_irem C dL_bringsBack_92 ⟨by omega, by omega⟩ ⟨by decide, by decide⟩ ?_
      refine q_cI (q_runV (As := [.int (iI (ln / 4)), .int (iI (ln % 4))]) (rest := []) C (k_X3_bringBack (F := G1) l hAG1 (d := ln / 4) (y := ln % 4) ⟨by omega, by omega⟩ ⟨by omega, by omega⟩ (by unfold bringBackT; rw [show 4 * (ln / 4) + ln % 4 = ln by omega, if_neg (by omega), if_neg (by omega)])) kd0 (by decide) rfl wd_671 wd_669 wd_670 wd_13 wd_668 nd_X3_bringBack rfl (by decide) ⟨Nat.zero_le _, Nat.zero_le _⟩ rfl (Nat.le_of_ble_eq_true rfl) dL_bringsBack_93) ?_
      rintro z G9 ⟨-, rfl, hJ9⟩
      have hW9 : TW G9 a A.r := hW.k (by rw [hJ9.2 a ha9, ← hgG1, up_k hd.1])
      refine q_aload_n C 1 dL_bringsBack_96 rfl ?_
      refine q_iload C 4 dL_bringsBack_97 rfl ?_
      refine q_cI (q_runS (As := [.ref (adr w a), .int (iI ln)]) (rest := [.int (iI (bringBackZ A (ln / 4) (ln % 4)))]) C (k_L_last (F := G9) (r := A.r) l hLa hW9 hI (y := ln) ⟨by omega, by omega⟩) wd_362 wd_361 wd_12 wd_360 nd_L_last rfl (by decide) ⟨Nat.zero_le _, Nat.zero_le _⟩ rfl (Nat.le_of_ble_eq_true rfl) dL_bringsBack_99) ?_
      rintro z F' ⟨rfl, rfl⟩
      have ql99 := la_range (l := ln) hI (by omega) (by omega)
      refine q_iconst C 4 dL_bringsBack_102 ?_
      refine q_idiv C dL_bringsBack_103 ⟨by omega, by omega⟩ ⟨by decide, by decide⟩ ?_
      refine q_iconst C 5 dL_bringsBack_104 ?_
      refine q_irem C dL_bringsBack_105 ⟨by omega, by omega⟩ ⟨by decide, by decide⟩ ?_
      refine q_eqn C 113 dL_bringsBack_106 (by decide) (by show le (brb A.r (4 * (ln / 4) + ln % 4)) (4 * (ln / 4) + ln % 4) = _; rw [show 4 * (ln / 4) + ln % 4 = ln by omega, le_brb hl9 hlend.1 qsz]; rfl) ?_
      refine q_iconst C 1 dL_bringsBack_109 ?_
      refine q_goto C 114 dL_bringsBack_110 (by decide) ?_
      refine q_zret C dL_bringsBack_114 (by decide) ?_
      have hN9 : (bringBackN A (ln / 4) (ln % 4)).r = (brb A.r ln) := by show brb A.r (4 * (ln / 4) + ln % 4) = _; rw [show 4 * (ln / 4) + ln % 4 = ln by omega]
      exact ⟨rfl, ActQ.mk (by rw [hN9]; exact h4G1) ha9 hb9 hn9 ht9 hJ9 (by rw [hN9]; rw [brb_179 hl9]; omega)⟩
    · have hl0 := LD_none hLD (lo_range x 16 (by decide)) (by omega) (by omega)
      have hcv := cntv_c A
      refine q_aload_n C 0 dL_bringsBack_64 rfl ?_
      refine q_bipush C 6 dL_bringsBack_65 (by decide) ?_
      refine q_cI (q_runV (As := [.int (iI 6)]) (rest := []) C ((k_X3_count (F := F) l hA (k := 6) ⟨by decide, by decide⟩ (by unfold countT; rw [if_neg (by omega)])).post (fun z F' h => (⟨h.1.trans (rfl), h.2⟩ : z = cntv A 6 ∧ F = F'))) kd0 (by decide) rfl wd_400 wd_398 wd_399 wd_13 wd_397 nd_X3_count rfl (by decide) ⟨Nat.zero_le _, Nat.zero_le _⟩ rfl (Nat.le_of_ble_eq_true rfl) dL_bringsBack_67) ?_
      rintro z F' ⟨rfl, rfl⟩
      refine q_if_ne C 77 dL_bringsBack_70 ⟨by omega, by omega⟩  (by decide) (fun h70 => (h70 (by omega)).elim) (fun h70 => ?_)
      refine q_iconst C 1 dL_bringsBack_73 ?_
      refine q_goto C 78 dL_bringsBack_74 (by decide) ?_
      refine q_zret C dL_bringsBack_78 (by decide) ?_
      exact ⟨rfl, ActQ.refl hTA hA⟩
  · refine q_iload C 4 dL_bringsBack_13 rfl ?_
    refine q_if_ge C 59 dL_bringsBack_15 ⟨by omega, by omega⟩  (by decide) (fun h15 => ?_) (fun h15 => ?_)
    · refine q_iload C 4 dL_bringsBack_59 rfl ?_
      refine q_if_ge C 79 dL_bringsBack_61 ⟨by omega, by omega⟩  (by decide) (fun h61 => ?_) (fun h61 => ?_)
      · obtain ⟨hl9, hl8⟩ := LD_some hLD (by omega)
        have hlend := hI.lend hl9.1 hl9.2 hl8
        have qn := la_nn hI hl9 hlend.1
        have qsz := hI.sz hl9.1 hl9.2
        refine q_aload_n C 2 dL_bringsBack_79 rfl ?_
        refine q_iload C 4 dL_bringsBack_80 rfl ?_
        refine q_iconst C (-1) dL_bringsBack_82 ?_
        refine q_iast9 C hLb ⟨by omega, by omega⟩ dL_bringsBack_83 ?_
        generalize hgG1 : up F b ln ((-1)) = G1
        have h4G1 : T4 G1 a b nn t (brb A.r ln) := by rw [← hgG1]; exact T4_brb hTA.t4 hI hd.1 hd.2.2.2.1.symm hd.2.2.2.2.1.symm ⟨by omega, by omega⟩
        have hAG1 : CI G1 A := hA.law (fun k hk => by rw [← hgG1, up_k (by omega)])
        refine q_aload_n C 0 dL_bringsBack_84 rfl ?_
        refine q_iload C 4 dL_bringsBack_85 rfl ?_
        refine q_iconst C 4 dL_bringsBack_87 ?_
        refine q_idiv C dL_bringsBack_88 ⟨by omega, by omega⟩ ⟨by decide, by decide⟩ ?_
        refine q_iload C 4 dL_bringsBack_89 rfl ?_
        refine q_iconst C 4 dL_bringsBack_91 ?_
        refine q_irem C dL_bringsBack_92 ⟨by omega, by omega⟩ ⟨by decide, by decide⟩ ?_
        refine q_cI (q_runV (As := [.int (iI (ln / 4)), .int (iI (ln % 4))]) (rest := []) C (k_X3_bringBack (F := G1) l hAG1 (d := ln / 4) (y := ln % 4) ⟨by omega, by omega⟩ ⟨by omega, by omega⟩ (by unfold bringBackT; rw [show 4 * (ln / 4) + ln % 4 = ln by omega, if_neg (by omega), if_neg (by omega)])) kd0 (by decide) rfl wd_671 wd_669 wd_670 wd_13 wd_668 nd_X3_bringBack rfl (by decide) ⟨Nat.zero_le _, Nat.zero_le _⟩ rfl (Nat.le_of_ble_eq_true rfl) dL_bringsBack_93) ?_
        rintro z G9 ⟨-, rfl, hJ9⟩
        have hW9 : TW G9 a A.r := hW.k (by rw [hJ9.2 a ha9, ← hgG1, up_k hd.1])
        refine q_aload_n C 1 dL_bringsBack_96 rfl ?_
        refine q_iload C 4 dL_bringsBack_97 rfl ?_
        refine q_cI (q_runS (As := [.ref (adr w a), .int (iI ln)]) (rest := [.int (iI (bringBackZ A (ln / 4) (ln % 4)))]) C (k_L_last (F := G9) (r := A.r) l hLa hW9 hI (y := ln) ⟨by omega, by omega⟩) wd_362 wd_361 wd_12 wd_360 nd_L_last rfl (by decide) ⟨Nat.zero_le _, Nat.zero_le _⟩ rfl (Nat.le_of_ble_eq_true rfl) dL_bringsBack_99) ?_
        rintro z F' ⟨rfl, rfl⟩
        have ql99 := la_range (l := ln) hI (by omega) (by omega)
        refine q_iconst C 4 dL_bringsBack_102 ?_
        refine q_idiv C dL_bringsBack_103 ⟨by omega, by omega⟩ ⟨by decide, by decide⟩ ?_
        refine q_iconst C 5 dL_bringsBack_104 ?_
        refine q_irem C dL_bringsBack_105 ⟨by omega, by omega⟩ ⟨by decide, by decide⟩ ?_
        refine q_eqn C 113 dL_bringsBack_106 (by decide) (by show le (brb A.r (4 * (ln / 4) + ln % 4)) (4 * (ln / 4) + ln % 4) = _; rw [show 4 * (ln / 4) + ln % 4 = ln by omega, le_brb hl9 hlend.1 qsz]; rfl) ?_
        refine q_iconst C 1 dL_bringsBack_109 ?_
        refine q_goto C 114 dL_bringsBack_110 (by decide) ?_
        refine q_zret C dL_bringsBack_114 (by decide) ?_
        have hN9 : (bringBackN A (ln / 4) (ln % 4)).r = (brb A.r ln) := by show brb A.r (4 * (ln / 4) + ln % 4) = _; rw [show 4 * (ln / 4) + ln % 4 = ln by omega]
        exact ⟨rfl, ActQ.mk (by rw [hN9]; exact h4G1) ha9 hb9 hn9 ht9 hJ9 (by rw [hN9]; rw [brb_179 hl9]; omega)⟩
      · have hl0 := LD_none hLD (lo_range x 16 (by decide)) (by omega) (by omega)
        have hcv := cntv_c A
        refine q_aload_n C 0 dL_bringsBack_64 rfl ?_
        refine q_bipush C 6 dL_bringsBack_65 (by decide) ?_
        refine q_cI (q_runV (As := [.int (iI 6)]) (rest := []) C ((k_X3_count (F := F) l hA (k := 6) ⟨by decide, by decide⟩ (by unfold countT; rw [if_neg (by omega)])).post (fun z F' h => (⟨h.1.trans (rfl), h.2⟩ : z = cntv A 6 ∧ F = F'))) kd0 (by decide) rfl wd_400 wd_398 wd_399 wd_13 wd_397 nd_X3_count rfl (by decide) ⟨Nat.zero_le _, Nat.zero_le _⟩ rfl (Nat.le_of_ble_eq_true rfl) dL_bringsBack_67) ?_
        rintro z F' ⟨rfl, rfl⟩
        refine q_if_ne C 77 dL_bringsBack_70 ⟨by omega, by omega⟩  (by decide) (fun h70 => (h70 (by omega)).elim) (fun h70 => ?_)
        refine q_iconst C 1 dL_bringsBack_73 ?_
        refine q_goto C 78 dL_bringsBack_74 (by decide) ?_
        refine q_zret C dL_bringsBack_78 (by decide) ?_
        exact ⟨rfl, ActQ.refl hTA hA⟩
    · have qlx := hI.ld (l := (lo x 16 + j) % 16) (by omega) (by omega)
      refine q_aload_n C 2 dL_bringsBack_18 rfl ?_
      refine q_iload_n C 3 dL_bringsBack_19 rfl ?_
      refine q_bipush C 16 dL_bringsBack_20 (by decide) ?_
      refine q_cI (q_runS (As := [.int (iI x), .int (iI 16)]) (rest := [.ref (adr w b)]) C (k_L_low (F := F) l (x := x) (n := 16) ⟨by decide, by decide⟩) wd_163 wd_162 wd_12 wd_161 nd_L_low rfl (by decide) ⟨Nat.zero_le _, Nat.zero_le _⟩ rfl (Nat.le_of_ble_eq_true rfl) dL_bringsBack_22) ?_
      rintro z F' ⟨rfl, rfl⟩
      have qlo22 := lo_range x 16 (by omega)
      refine q_iload C 5 dL_bringsBack_25 rfl ?_
      refine q_iadd C dL_bringsBack_27 ?_
      refine q_bipush C 16 dL_bringsBack_28 (by decide) ?_
      refine q_irem C dL_bringsBack_30 ⟨by omega, by omega⟩ ⟨by decide, by decide⟩ ?_
      refine q_iald9 C hLb ⟨by omega, by omega⟩ dL_bringsBack_31 ?_
      rw [show F b (((lo x 16) + j) % 16) = A.r (112 + (((lo x 16) + j) % 16)) - 1 from hL (((lo x 16) + j) % 16) (by omega) (by omega)]
      refine q_if_ge C 39 dL_bringsBack_32 ⟨by omega, by omega⟩  (by decide) (fun h32 => ?_) (fun h32 => ?_)
      · refine q_iload_n C 3 dL_bringsBack_39 rfl ?_
        refine q_bipush C 16 dL_bringsBack_40 (by decide) ?_
        refine q_cI (q_runS (As := [.int (iI x), .int (iI 16)]) (rest := []) C (k_L_low (F := F) l (x := x) (n := 16) ⟨by decide, by decide⟩) wd_163 wd_162 wd_12 wd_161 nd_L_low rfl (by decide) ⟨Nat.zero_le _, Nat.zero_le _⟩ rfl (Nat.le_of_ble_eq_true rfl) dL_bringsBack_42) ?_
        rintro z F' ⟨rfl, rfl⟩
        have qlo42 := lo_range x 16 (by omega)
        refine q_iload C 5 dL_bringsBack_45 rfl ?_
        refine q_iadd C dL_bringsBack_47 ?_
        refine q_bipush C 16 dL_bringsBack_48 (by decide) ?_
        refine q_irem C dL_bringsBack_50 ⟨by omega, by omega⟩ ⟨by decide, by decide⟩ ?_
        refine q_istore (lv' := [(4, .int (iI (((lo x 16) + j) % 16))), (0, .ref (adr w 0)), (1, .ref (adr w a)), (2, .ref (adr w b)), (3, .int (iI x)), (5, .int (iI j))]) C dL_bringsBack_51 (by decide) rfl ?_
        refine q_iinc (lv' := [(5, .int (iI (j + 1))), (4, .int (iI (((lo x 16) + j) % 16))), (0, .ref (adr w 0)), (1, .ref (adr w a)), (2, .ref (adr w b)), (3, .int (iI x))]) C 5 dL_bringsBack_53 rfl (by decide) rfl ?_
        refine q_goto C 6 dL_bringsBack_56 (by decide) ?_
        refine q_lv (lv' := [(0, .ref (adr w 0)), (1, .ref (adr w a)), (2, .ref (adr w b)), (3, .int (iI x)), (4, .int (iI (((lo x 16) + j) % 16))), (5, .int (iI (j + 1)))]) [2, 3, 4, 5, 1, 0] rfl ?_
        exact ih6 (j + 1) (((lo x 16) + j) % 16) (⟨by omega, by omega, by first | exact LD_in (by omega) | exact LD_no hLD (by omega) (by omega)⟩) (by omega)
      · refine q_iconst C (-1) dL_bringsBack_35 ?_
        refine q_goto C 51 dL_bringsBack_36 (by decide) ?_
        refine q_istore (lv' := [(4, .int (iI (-1))), (0, .ref (adr w 0)), (1, .ref (adr w a)), (2, .ref (adr w b)), (3, .int (iI x)), (5, .int (iI j))]) C dL_bringsBack_51 (by decide) rfl ?_
        refine q_iinc (lv' := [(5, .int (iI (j + 1))), (4, .int (iI (-1))), (0, .ref (adr w 0)), (1, .ref (adr w a)), (2, .ref (adr w b)), (3, .int (iI x))]) C 5 dL_bringsBack_53 rfl (by decide) rfl ?_
        refine q_goto C 6 dL_bringsBack_56 (by decide) ?_
        refine q_lv (lv' := [(0, .ref (adr w 0)), (1, .ref (adr w a)), (2, .ref (adr w b)), (3, .int (iI x)), (4, .int (iI (-1))), (5, .int (iI (j + 1)))]) [2, 3, 4, 5, 1, 0] rfl ?_
        exact ih6 (j + 1) (-1) (⟨by omega, by omega, by first | exact LD_in (by omega) | exact LD_no hLD (by omega) (by omega)⟩) (by omega)

set_option maxRecDepth 100000 in
set_option maxHeartbeats 4000000 in
theorem k_L_sleeps (l : Launch) {w : WP} {F : FF} {a b nn t : Nat} {A : AS} (hLa : LwP w a 40) (hLb : LwP w b 16) (hLn : LwP w nn 14) (hLt : LwP w t 40) (hTA : TA F a b nn t A.r) (hA : CI F A) {m : Int} (hm9 : 1 ≤ m ∧ m ≤ 20) (hnb : A.r 179 ≤ 9000) (hd : a ≠ b ∧ a ≠ nn ∧ a ≠ t ∧ b ≠ nn ∧ b ≠ t ∧ nn ≠ t)  : Con l yL_sleeps cL_sleeps 8 (some .boolean) 8 w [.ref (adr w 0), .ref (adr w a), .ref (adr w b), .ref (adr w nn), .ref (adr w t), .int (iI m)] F (QI w (fun z F' => z = 1 ∧ ActQ F' a b nn t A)) := by
  refine Con.mk (lv := [(0, .ref (adr w 0)), (1, .ref (adr w a)), (2, .ref (adr w b)), (3, .ref (adr w nn)), (4, .ref (adr w t)), (5, .int (iI m))]) (by decide) (Nat.le_of_ble_eq_true rfl) rfl ?_
  intro pg ev s0 mi be me co C hz
  obtain ⟨hW, hL, hN, hT, hI⟩ := id hTA
  have ha9 := hLa.ge
  have hb9 := hLb.ge
  have hn9 := hLn.ge
  have ht9 := hLt.ge
  refine q_iconst C 0 dL_sleeps_0 ?_
  refine q_istore (lv' := [(6, .int (iI 0)), (0, .ref (adr w 0)), (1, .ref (adr w a)), (2, .ref (adr w b)), (3, .ref (adr w nn)), (4, .ref (adr w t)), (5, .int (iI m))]) C dL_sleeps_1 (by decide) rfl ?_
  refine q_iconst C 0 dL_sleeps_3 ?_
  refine q_istore (lv' := [(7, .int (iI 0)), (6, .int (iI 0)), (0, .ref (adr w 0)), (1, .ref (adr w a)), (2, .ref (adr w b)), (3, .ref (adr w nn)), (4, .ref (adr w t)), (5, .int (iI m))]) C dL_sleeps_4 (by decide) rfl ?_
  refine q_lv (lv' := [(0, .ref (adr w 0)), (1, .ref (adr w a)), (2, .ref (adr w b)), (3, .ref (adr w nn)), (4, .ref (adr w t)), (5, .int (iI m)), (6, .int (iI 0)), (7, .int (iI 0))]) [2, 3, 4, 5, 6, 7, 1, 0] rfl ?_
  refine wf3 (P := fun (i : Int) (sv : Int) (G : FF) => Wq pg l ev _ s0 mi _ be me co _ w _ _ _ 6 [(0, .ref (adr w 0)), (1, .ref (adr w a)), (2, .ref (adr w b)), (3, .ref (adr w nn)), (4, .ref (adr w t)), (5, .int (iI m)), (6, .int (iI sv)), (7, .int (iI i))] [] G) (I := fun (i : Int) (sv : Int) (G : FF) => 0 ≤ i ∧ i ≤ m ∧ TA G a b nn t (ngs A.r i.toNat) ∧ sv = rbs (ngs A.r i.toNat) - rbs A.r ∧ ∀ k, k < 110 → G k = F k) (μ := fun (i : Int) (sv : Int) (G : FF) => (m - i).toNat) ?_ 0 0 F (⟨by omega, by omega, hTA, by show 0 = rbs A.r - rbs A.r; omega, fun k hk => rfl⟩)
  intro i sv G hI' ih6
  (try dsimp only at hI'); (try dsimp only at ih6); (try dsimp only)
  obtain ⟨hi0, hi1, hTAG, hsv, hfr⟩ := hI'
  refine q_iload C 7 dL_sleeps_6 rfl ?_
  refine q_iload C 5 dL_sleeps_8 rfl ?_
  refine q_icmp_ge C 32 dL_sleeps_10 ⟨by omega, by omega⟩ ⟨by omega, by omega⟩ (by decide) (fun h10 => ?_) (fun h10 => ?_)
  · have him : i = m := by omega
    have hAG : CI G A := hA.law hfr
    have hq9 := (ngs_iv hI i.toNat).2
    refine q_aload_n C 0 dL_sleeps_32 rfl ?_
    refine q_iload C 5 dL_sleeps_33 rfl ?_
    refine q_cI (q_runV (As := [.int (iI m)]) (rest := []) C (k_X3_sleep (F := G) l hAG (m := m) ⟨by omega, by omega⟩ (by unfold sleepT; rw [if_neg (by omega), if_neg (by omega)])) kd0 (by decide) rfl wd_684 wd_682 wd_683 wd_13 wd_681 nd_X3_sleep rfl (by decide) ⟨Nat.zero_le _, Nat.zero_le _⟩ rfl (Nat.le_of_ble_eq_true rfl) dL_sleeps_35) ?_
    rintro z G9 ⟨-, rfl, hJ9⟩
    refine q_iload C 6 dL_sleeps_38 rfl ?_
    refine q_eqn C 47 dL_sleeps_40 (by decide) (by rw [hsv, him]; rfl) ?_
    refine q_iconst C 1 dL_sleeps_43 ?_
    refine q_goto C 48 dL_sleeps_44 (by decide) ?_
    refine q_zret C dL_sleeps_48 (by decide) ?_
    have hN9 : (sleepN A m).r = (ngs A.r i.toNat) := by rw [him]; rfl
    exact ⟨rfl, ActQ.mk (by rw [hN9]; exact hTAG.t4) ha9 hb9 hn9 ht9 hJ9 (by rw [hN9]; rw [hq9]; omega)⟩
  · refine q_iload C 6 dL_sleeps_13 rfl ?_
    refine q_aload_n C 1 dL_sleeps_15 rfl ?_
    refine q_aload_n C 2 dL_sleeps_16 rfl ?_
    refine q_aload_n C 3 dL_sleeps_17 rfl ?_
    refine q_aload C 4 dL_sleeps_18 rfl ?_
    refine q_cI (q_runS (As := [.ref (adr w a), .ref (adr w b), .ref (adr w nn), .ref (adr w t)]) (rest := [.int (iI sv)]) C (k_L_night (F := G) (r := (ngs A.r i.toNat)) l hLa hTAG.1 hTAG.2.2.2.2 hLb hTAG.2.1 hLn hTAG.2.2.1 hLt hTAG.2.2.2.1 hd) wd_517 wd_516 wd_12 wd_515 nd_L_night rfl (by decide) ⟨Nat.zero_le _, Nat.zero_le _⟩ rfl (Nat.le_of_ble_eq_true rfl) dL_sleeps_20) ?_
    rintro z G1 ⟨rfl, hTA1, hf1⟩
    refine q_iadd C dL_sleeps_23 ?_
    refine q_istore (lv' := [(6, .int (iI (sv + (rbs (ng (ngs A.r i.toNat)) - rbs (ngs A.r i.toNat))))), (0, .ref (adr w 0)), (1, .ref (adr w a)), (2, .ref (adr w b)), (3, .ref (adr w nn)), (4, .ref (adr w t)), (5, .int (iI m)), (7, .int (iI i))]) C dL_sleeps_24 (by decide) rfl ?_
    refine q_iinc (lv' := [(7, .int (iI (i + 1))), (6, .int (iI (sv + (rbs (ng (ngs A.r i.toNat)) - rbs (ngs A.r i.toNat))))), (0, .ref (adr w 0)), (1, .ref (adr w a)), (2, .ref (adr w b)), (3, .ref (adr w nn)), (4, .ref (adr w t)), (5, .int (iI m))]) C 7 dL_sleeps_26 rfl (by decide) rfl ?_
    refine q_goto C 6 dL_sleeps_29 (by decide) ?_
    refine q_lv (lv' := [(0, .ref (adr w 0)), (1, .ref (adr w a)), (2, .ref (adr w b)), (3, .ref (adr w nn)), (4, .ref (adr w t)), (5, .int (iI m)), (6, .int (iI (sv + (rbs (ng (ngs A.r i.toNat)) - rbs (ngs A.r i.toNat))))), (7, .int (iI (i + 1)))]) [2, 3, 4, 5, 6, 7, 1, 0] rfl ?_
    exact ih6 (i + 1) (sv + (rbs (ng (ngs A.r i.toNat)) - rbs (ngs A.r i.toNat))) G1 (⟨by omega, by omega, by rw [ngs_i hi0]; exact hTA1, by rw [ngs_i hi0]; omega, fun k hk => (hf1 k (by omega) (by omega) (by omega) (by omega)).trans (hfr k hk)⟩) (by omega)

set_option maxRecDepth 100000 in
set_option maxHeartbeats 4000000 in
theorem k_L_sets (l : Launch) {w : WP} {F : FF} {a b nn t : Nat} {A : AS} (hLa : LwP w a 40) (hLb : LwP w b 16) (hLn : LwP w nn 14) (hLt : LwP w t 40) (hTA : TA F a b nn t A.r) (hA : CI F A) {x : Int} (hd : a ≠ b ∧ a ≠ nn ∧ a ≠ t ∧ b ≠ nn ∧ b ≠ t ∧ nn ≠ t)  : Con l yL_sets cL_sets 5 (some .boolean) 4 w [.ref (adr w 0), .ref (adr w nn), .int (iI x)] F (QI w (fun z F' => z = 1 ∧ ActQ F' a b nn t A)) := by
  refine Con.mk (lv := [(0, .ref (adr w 0)), (1, .ref (adr w nn)), (2, .int (iI x))]) (by decide) (Nat.le_of_ble_eq_true rfl) rfl ?_
  intro pg ev s0 mi be me co C hz
  obtain ⟨hW, hL, hN, hT, hI⟩ := id hTA
  have ha9 := hLa.ge
  have hb9 := hLb.ge
  have hn9 := hLn.ge
  have ht9 := hLt.ge
  have hmc := mostS_c (lo x 3)
  refine q_iload_n C 2 dL_sets_0 rfl ?_
  refine q_iconst C 3 dL_sets_1 ?_
  refine q_cI (q_runS (As := [.int (iI x), .int (iI 3)]) (rest := []) C (k_L_low (F := F) l (x := x) (n := 3) ⟨by decide, by decide⟩) wd_163 wd_162 wd_12 wd_161 nd_L_low rfl (by decide) ⟨Nat.zero_le _, Nat.zero_le _⟩ rfl (Nat.le_of_ble_eq_true rfl) dL_sets_2) ?_
  rintro z F' ⟨rfl, rfl⟩
  have qlo2 := lo_range x 3 (by omega)
  refine q_istore_n (lv' := [(3, .int (iI (lo x 3))), (0, .ref (adr w 0)), (1, .ref (adr w nn)), (2, .int (iI x))]) C dL_sets_5 (by decide) rfl ?_
  refine q_aload_n C 2 dL_sets_6 rfl ?_
  refine q_iload_n C 0 dL_sets_7 rfl ?_
  refine q_iald9 C hLn ⟨by omega, by omega⟩ dL_sets_8 ?_
  rw [show F nn (lo x 3) = A.r (176 + lo x 3) from TN_3 hN ⟨by omega, by omega⟩]
  refine q_istore (lv' := [(4, .int (iI (A.r (176 + lo x 3)))), (3, .int (iI (lo x 3))), (0, .ref (adr w 0)), (1, .ref (adr w nn)), (2, .int (iI x))]) C dL_sets_9 (by decide) rfl ?_
  refine q_aload_n C 3 dL_sets_11 rfl ?_
  refine q_iload_n C 1 dL_sets_12 rfl ?_
  refine q_iload_n C 1 dL_sets_13 rfl ?_
  refine q_if_ne C 27 dL_sets_14 ⟨by omega, by omega⟩  (by decide) (fun h14 => ?_) (fun h14 => ?_)
  · refine q_iload_n C 1 dL_sets_27 rfl ?_
    refine q_iconst C 1 dL_sets_28 ?_
    refine q_icmp_ne C 60 dL_sets_29 ⟨by omega, by omega⟩ ⟨by decide, by decide⟩ (by decide) (fun h29 => ?_) (fun h29 => ?_)
    · refine q_iload_n C 4 dL_sets_60 rfl ?_
      refine q_iconst C 3 dL_sets_61 ?_
      refine q_ishr C (srI x 3) (srI_e _ _) dL_sets_62 ?_
      refine q_bipush C 10 dL_sets_63 (by decide) ?_
      refine q_cI (q_runS (As := [.int (iI (srI x 3)), .int (iI 10)]) (rest := [.int (iI (lo x 3)), .ref (adr w nn)]) C (k_L_low (F := F) l (x := srI x 3) (n := 10) ⟨by decide, by decide⟩) wd_163 wd_162 wd_12 wd_161 nd_L_low rfl (by decide) ⟨Nat.zero_le _, Nat.zero_le _⟩ rfl (Nat.le_of_ble_eq_true rfl) dL_sets_65) ?_
      rintro z F' ⟨rfl, rfl⟩
      have qlo65 := lo_range (srI x 3) 10 (by omega)
      refine q_iast9 C hLn ⟨by omega, by omega⟩ dL_sets_68 ?_
      generalize hgG1 : up F nn (lo x 3) (lo (srI x 3) 10) = G1
      have h4G1 : T4 G1 a b nn t (setr A.r (lo x 3) (lo (srI x 3) 10)) := by rw [← hgG1]; exact T4_set hTA.t4 hI hd.2.1 hd.2.2.2.1 hd.2.2.2.2.2.symm ⟨by omega, by omega⟩
      have hAG1 : CI G1 A := hA.law (fun k hk => by rw [← hgG1, up_k (by omega)])
      have hv9 : G1 nn (lo x 3) = lo (srI x 3) 10 := by rw [← hgG1, up_eq]
      refine q_aload_n C 2 dL_sets_69 rfl ?_
      refine q_iload_n C 1 dL_sets_70 rfl ?_
      refine q_aload_n C 3 dL_sets_71 rfl ?_
      refine q_iload_n C 1 dL_sets_72 rfl ?_
      refine q_iald9 C hLn ⟨by omega, by omega⟩ dL_sets_73 ?_
      rw [hv9]
      refine q_cI (q_runV (As := [.int (iI (lo x 3)), .int (iI (lo (srI x 3) 10))]) (rest := []) C (k_X3_set (F := G1) l hAG1 (k := lo x 3) (v := lo (srI x 3) 10) ⟨by omega, by omega⟩ ⟨by omega, by omega⟩ (by unfold setT; rw [if_neg (by omega), if_neg (by omega)])) kd0 (by decide) rfl wd_692 wd_690 wd_691 wd_13 wd_689 nd_X3_set rfl (by decide) ⟨Nat.zero_le _, Nat.zero_le _⟩ rfl (Nat.le_of_ble_eq_true rfl) dL_sets_74) ?_
      rintro z G9 ⟨-, rfl, hJ9⟩
      refine q_iload C 0 dL_sets_77 rfl ?_
      refine q_eqn C 86 dL_sets_79 (by decide) (rfl) ?_
      refine q_iconst C 1 dL_sets_82 ?_
      refine q_goto C 87 dL_sets_83 (by decide) ?_
      refine q_zret C dL_sets_87 (by decide) ?_
      have hN9 : (setN A (lo x 3) (lo (srI x 3) 10)).r = (setr A.r (lo x 3) (lo (srI x 3) 10)) := rfl
      exact ⟨rfl, ActQ.mk (by rw [hN9]; exact h4G1) ha9 hb9 hn9 ht9 hJ9 (by rw [hN9]; rw [setr_179 ⟨by omega, by omega⟩]; omega)⟩
    · refine q_iload_n C 4 dL_sets_32 rfl ?_
      refine q_iconst C 3 dL_sets_33 ?_
      refine q_ishr C (srI x 3) (srI_e _ _) dL_sets_34 ?_
      refine q_iload_n C 4 dL_sets_35 rfl ?_
      refine q_bipush C 9 dL_sets_36 (by decide) ?_
      refine q_ishr C (srI x 9) (srI_e _ _) dL_sets_38 ?_
      refine q_iconst C 4 dL_sets_39 ?_
      refine q_cI (q_runS (As := [.int (iI (srI x 9)), .int (iI 4)]) (rest := [.int (iI (srI x 3)), .int (iI (lo x 3)), .ref (adr w nn)]) C (k_L_low (F := F) l (x := srI x 9) (n := 4) ⟨by decide, by decide⟩) wd_163 wd_162 wd_12 wd_161 nd_L_low rfl (by decide) ⟨Nat.zero_le _, Nat.zero_le _⟩ rfl (Nat.le_of_ble_eq_true rfl) dL_sets_40) ?_
      rintro z F' ⟨rfl, rfl⟩
      have qlo40 := lo_range (srI x 9) 4 (by omega)
      refine q_if_ne C 52 dL_sets_43 ⟨by omega, by omega⟩  (by decide) (fun h43 => ?_) (fun h43 => ?_)
      · refine q_bipush C 25 dL_sets_52 (by decide) ?_
        refine q_cI (q_runS (As := [.int (iI (srI x 3)), .int (iI 25)]) (rest := [.int (iI (lo x 3)), .ref (adr w nn)]) C (k_L_low (F := F) l (x := srI x 3) (n := 25) ⟨by decide, by decide⟩) wd_163 wd_162 wd_12 wd_161 nd_L_low rfl (by decide) ⟨Nat.zero_le _, Nat.zero_le _⟩ rfl (Nat.le_of_ble_eq_true rfl) dL_sets_54) ?_
        rintro z F' ⟨rfl, rfl⟩
        have qlo54 := lo_range (srI x 3) 25 (by omega)
        refine q_goto C 68 dL_sets_57 (by decide) ?_
        refine q_iast9 C hLn ⟨by omega, by omega⟩ dL_sets_68 ?_
        generalize hgG1 : up F nn (lo x 3) (lo (srI x 3) 25) = G1
        have h4G1 : T4 G1 a b nn t (setr A.r (lo x 3) (lo (srI x 3) 25)) := by rw [← hgG1]; exact T4_set hTA.t4 hI hd.2.1 hd.2.2.2.1 hd.2.2.2.2.2.symm ⟨by omega, by omega⟩
        have hAG1 : CI G1 A := hA.law (fun k hk => by rw [← hgG1, up_k (by omega)])
        have hv9 : G1 nn (lo x 3) = lo (srI x 3) 25 := by rw [← hgG1, up_eq]
        refine q_aload_n C 2 dL_sets_69 rfl ?_
        refine q_iload_n C 1 dL_sets_70 rfl ?_
        refine q_aload_n C 3 dL_sets_71 rfl ?_
        refine q_iload_n C 1 dL_sets_72 rfl ?_
        refine q_iald9 C hLn ⟨by omega, by omega⟩ dL_sets_73 ?_
        rw [hv9]
        refine q_cI (q_runV (As := [.int (iI (lo x 3)), .int (iI (lo (srI x 3) 25))]) (rest := []) C (k_X3_set (F := G1) l hAG1 (k := lo x 3) (v := lo (srI x 3) 25) ⟨by omega, by omega⟩ ⟨by omega, by omega⟩ (by unfold setT; rw [if_neg (by omega), if_neg (by omega)])) kd0 (by decide) rfl wd_692 wd_690 wd_691 wd_13 wd_689 nd_X3_set rfl (by decide) ⟨Nat.zero_le _, Nat.zero_le _⟩ rfl (Nat.le_of_ble_eq_true rfl) dL_sets_74) ?_
        rintro z G9 ⟨-, rfl, hJ9⟩
        refine q_iload C 0 dL_sets_77 rfl ?_
        refine q_eqn C 86 dL_sets_79 (by decide) (rfl) ?_
        refine q_iconst C 1 dL_sets_82 ?_
        refine q_goto C 87 dL_sets_83 (by decide) ?_
        refine q_zret C dL_sets_87 (by decide) ?_
        have hN9 : (setN A (lo x 3) (lo (srI x 3) 25)).r = (setr A.r (lo x 3) (lo (srI x 3) 25)) := rfl
        exact ⟨rfl, ActQ.mk (by rw [hN9]; exact h4G1) ha9 hb9 hn9 ht9 hJ9 (by rw [hN9]; rw [setr_179 ⟨by omega, by omega⟩]; omega)⟩
      · refine q_sipush C 201 dL_sets_46 (by decide) ?_
        refine q_goto C 54 dL_sets_49 (by decide) ?_
        refine q_cI (q_runS (As := [.int (iI (srI x 3)), .int (iI 201)]) (rest := [.int (iI (lo x 3)), .ref (adr w nn)]) C (k_L_low (F := F) l (x := srI x 3) (n := 201) ⟨by decide, by decide⟩) wd_163 wd_162 wd_12 wd_161 nd_L_low rfl (by decide) ⟨Nat.zero_le _, Nat.zero_le _⟩ rfl (Nat.le_of_ble_eq_true rfl) dL_sets_54) ?_
        rintro z F' ⟨rfl, rfl⟩
        have qlo54 := lo_range (srI x 3) 201 (by omega)
        refine q_goto C 68 dL_sets_57 (by decide) ?_
        refine q_iast9 C hLn ⟨by omega, by omega⟩ dL_sets_68 ?_
        generalize hgG1 : up F nn (lo x 3) (lo (srI x 3) 201) = G1
        have h4G1 : T4 G1 a b nn t (setr A.r (lo x 3) (lo (srI x 3) 201)) := by rw [← hgG1]; exact T4_set hTA.t4 hI hd.2.1 hd.2.2.2.1 hd.2.2.2.2.2.symm ⟨by omega, by omega⟩
        have hAG1 : CI G1 A := hA.law (fun k hk => by rw [← hgG1, up_k (by omega)])
        have hv9 : G1 nn (lo x 3) = lo (srI x 3) 201 := by rw [← hgG1, up_eq]
        refine q_aload_n C 2 dL_sets_69 rfl ?_
        refine q_iload_n C 1 dL_sets_70 rfl ?_
        refine q_aload_n C 3 dL_sets_71 rfl ?_
        refine q_iload_n C 1 dL_sets_72 rfl ?_
        refine q_iald9 C hLn ⟨by omega, by omega⟩ dL_sets_73 ?_
        rw [hv9]
        refine q_cI (q_runV (As := [.int (iI (lo x 3)), .int (iI (lo (srI x 3) 201))]) (rest := []) C (k_X3_set (F := G1) l hAG1 (k := lo x 3) (v := lo (srI x 3) 201) ⟨by omega, by omega⟩ ⟨by omega, by omega⟩ (by unfold setT; rw [if_neg (by omega), if_neg (by omega)])) kd0 (by decide) rfl wd_692 wd_690 wd_691 wd_13 wd_689 nd_X3_set rfl (by decide) ⟨Nat.zero_le _, Nat.zero_le _⟩ rfl (Nat.le_of_ble_eq_true rfl) dL_sets_74) ?_
        rintro z G9 ⟨-, rfl, hJ9⟩
        refine q_iload C 0 dL_sets_77 rfl ?_
        refine q_eqn C 86 dL_sets_79 (by decide) (rfl) ?_
        refine q_iconst C 1 dL_sets_82 ?_
        refine q_goto C 87 dL_sets_83 (by decide) ?_
        refine q_zret C dL_sets_87 (by decide) ?_
        have hN9 : (setN A (lo x 3) (lo (srI x 3) 201)).r = (setr A.r (lo x 3) (lo (srI x 3) 201)) := rfl
        exact ⟨rfl, ActQ.mk (by rw [hN9]; exact h4G1) ha9 hb9 hn9 ht9 hJ9 (by rw [hN9]; rw [setr_179 ⟨by omega, by omega⟩]; omega)⟩
  · refine q_iload_n C 4 dL_sets_17 rfl ?_
    refine q_iconst C 3 dL_sets_18 ?_
    refine q_ishr C (srI x 3) (srI_e _ _) dL_sets_19 ?_
    refine q_iconst C 2 dL_sets_20 ?_
    refine q_cI (q_runS (As := [.int (iI (srI x 3)), .int (iI 2)]) (rest := [.int (iI (lo x 3)), .ref (adr w nn)]) C (k_L_low (F := F) l (x := srI x 3) (n := 2) ⟨by decide, by decide⟩) wd_163 wd_162 wd_12 wd_161 nd_L_low rfl (by decide) ⟨Nat.zero_le _, Nat.zero_le _⟩ rfl (Nat.le_of_ble_eq_true rfl) dL_sets_21) ?_
    rintro z F' ⟨rfl, rfl⟩
    have qlo21 := lo_range (srI x 3) 2 (by omega)
    refine q_goto C 68 dL_sets_24 (by decide) ?_
    refine q_iast9 C hLn ⟨by omega, by omega⟩ dL_sets_68 ?_
    generalize hgG1 : up F nn (lo x 3) (lo (srI x 3) 2) = G1
    have h4G1 : T4 G1 a b nn t (setr A.r (lo x 3) (lo (srI x 3) 2)) := by rw [← hgG1]; exact T4_set hTA.t4 hI hd.2.1 hd.2.2.2.1 hd.2.2.2.2.2.symm ⟨by omega, by omega⟩
    have hAG1 : CI G1 A := hA.law (fun k hk => by rw [← hgG1, up_k (by omega)])
    have hv9 : G1 nn (lo x 3) = lo (srI x 3) 2 := by rw [← hgG1, up_eq]
    refine q_aload_n C 2 dL_sets_69 rfl ?_
    refine q_iload_n C 1 dL_sets_70 rfl ?_
    refine q_aload_n C 3 dL_sets_71 rfl ?_
    refine q_iload_n C 1 dL_sets_72 rfl ?_
    refine q_iald9 C hLn ⟨by omega, by omega⟩ dL_sets_73 ?_
    rw [hv9]
    refine q_cI (q_runV (As := [.int (iI (lo x 3)), .int (iI (lo (srI x 3) 2))]) (rest := []) C (k_X3_set (F := G1) l hAG1 (k := lo x 3) (v := lo (srI x 3) 2) ⟨by omega, by omega⟩ ⟨by omega, by omega⟩ (by unfold setT; rw [if_neg (by omega), if_neg (by omega)])) kd0 (by decide) rfl wd_692 wd_690 wd_691 wd_13 wd_689 nd_X3_set rfl (by decide) ⟨Nat.zero_le _, Nat.zero_le _⟩ rfl (Nat.le_of_ble_eq_true rfl) dL_sets_74) ?_
    rintro z G9 ⟨-, rfl, hJ9⟩
    refine q_iload C 0 dL_sets_77 rfl ?_
    refine q_eqn C 86 dL_sets_79 (by decide) (rfl) ?_
    refine q_iconst C 1 dL_sets_82 ?_
    refine q_goto C 87 dL_sets_83 (by decide) ?_
    refine q_zret C dL_sets_87 (by decide) ?_
    have hN9 : (setN A (lo x 3) (lo (srI x 3) 2)).r = (setr A.r (lo x 3) (lo (srI x 3) 2)) := rfl
    exact ⟨rfl, ActQ.mk (by rw [hN9]; exact h4G1) ha9 hb9 hn9 ht9 hJ9 (by rw [hN9]; rw [setr_179 ⟨by omega, by omega⟩]; omega)⟩
