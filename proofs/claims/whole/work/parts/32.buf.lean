/-! buffer and texts, poems put -/
theorem TX_of {F : FF} {A : AS} (h : CI F A) : TX F (A.len, A.B) := ⟨h.l, fun i a b => h.c a b⟩
theorem tok_of {A : AS} (h : AV A) : tok (A.len, A.B) := ⟨h.2.2.2.1.1, h.2.2.2.2⟩
theorem CJ.txt {F G G' : FF} {A : AS} {P : PB} (h : CJ F G A) (hT : TX G' P) (hf : FrT G G') (ht : tok P) (hl : P.1 ≤ 60) : CJ F G' (A.buf P) := by
  obtain ⟨⟨h1, h2, h3, h4, h5, h6⟩, hC⟩ := h
  refine ⟨⟨h1.keep (fun k a c => hf k (by omega) (by omega)), h2.keep (fun k a c => hf k (by omega) (by omega)), fun k a c => ?_, hT.1, hT.2, ⟨h6.1, h6.2.1, h6.2.2.1, ⟨ht.1, hl⟩, ht.2⟩⟩, fun k a => (hf k (by omega) (by omega)).trans (hC k a)⟩
  obtain ⟨g1, g2, g3⟩ := h3 k a c
  refine ⟨by rw [hf 84 (by omega) (by omega)]; exact g1, g2, fun e => (g3 e).keep (fun q q1 q2 => ?_)⟩
  unfold sp at q1 q2
  exact hf q (by omega) (by omega)
theorem fe_range {B : Int → Int} {n : Int} (h : 0 ≤ n) : 0 ≤ fe B n ∧ fe B n ≤ n := by
  have := fs_range (fun i => (rdp B (i.toNat + 1)).isNone) h
  unfold fe feN
  split <;> omega
theorem rdp_congr {B C : Int → Int} : ∀ n : Nat, (∀ i : Int, 0 ≤ i → i < n → B i = C i) → rdp B n = rdp C n
  | 0, _ => rfl
  | n + 1, h => by
    show (rdp B n).bind (fun s => stp s (B n)) = (rdp C n).bind (fun s => stp s (C n))
    rw [rdp_congr n (fun i a b => h i a (by omega)), h n (by omega) (by omega)]
theorem k_rb (l : Launch) {w : WP} {F : FF} {A : AS} (hA : CI F A) : Con l yX3_readBuffer cX3_readBuffer 2 (some .int) 4 w [.ref (adr w 0)] F (QI w (fun z F' => z = fe A.B A.len ∧ CJ F F' A ∧ ∃ s, RV s ∧ RI F' s ∧ (z = A.len → rst A.B A.len = s))) :=
  (k_X3_readBuffer (F := F) l (by rw [hA.l]; exact hA.v.2.2.2.1) (fun i a b => by rw [hA.l] at b; rw [hA.c a b]; exact hA.v.2.2.2.2 i a b)).post (fun z F' h => by
    obtain ⟨h1, h2, h3, s, h4, h5, h6, h7⟩ := h
    rw [hA.l] at h2 h7
    rw [rdp_congr z.toNat (fun i a b => hA.c a (by omega))] at h4
    have hf := fe_is (n := A.len) h1 h2 h4 (fun q => by rw [← hA.c h1 q]; exact h7 q)
    exact ⟨hf.1, (CJ.refl hA).rd h3, s, h5, h6, hf.2⟩)
theorem RI.keepR {F F' : FF} {s : RS} (h : RI F s) (hk : ∀ k, 86 ≤ k → k ≤ 89 → F' k = F k) : RI F' s := by
  unfold RI at *
  rw [hk 86 (by omega) (by omega), hk 87 (by omega) (by omega), hk 88 (by omega) (by omega), hk 89 (by omega) (by omega)]; exact h
theorem ldS_iv {s : RS} {d : Int} {r : Rw} (hI : Iv r) (hd : 0 ≤ d ∧ d < 4) (hWL : ∀ j, 0 ≤ j → j < s.f → 0 ≤ s.W j ∧ s.W j < 40 ∧ 0 ≤ s.L j ∧ s.L j ≤ 3) : ∀ k : Nat, (k : Int) ≤ s.f → Iv (ldS s d r k).1 ∧ (ldS s d r k).1 179 = r 179 ∧ 0 ≤ (ldS s d r k).2 ∧ (ldS s d r k).2 ≤ k
  | 0, _ => ⟨hI, rfl, Int.le_refl _, Int.le_refl _⟩
  | k + 1, h => by
    obtain ⟨h1, h2, h3, h4⟩ := ldS_iv hI hd hWL k (by omega)
    have hw := hWL k (by omega) (by omega)
    unfold ldS
    split
    · rename_i g
      have hlt := rea_lt h1 (l := 4 * d + s.L k) ⟨by omega, by omega⟩ g.2.2
      have hsz := h1.sz (l := 4 * d + s.L k) (by omega) (by omega)
      refine ⟨ins_iv h1 ⟨by omega, by omega⟩ g.2.1 ⟨by omega, by omega⟩ ⟨by omega, by omega⟩ hlt, ?_, by show 0 ≤ (ldS s d r k).2 + 1; omega, by show (ldS s d r k).2 + 1 ≤ _; omega⟩
      show ins _ _ _ _ 179 = _
      rw [ins_hi ⟨by omega, by omega⟩ ⟨by omega, by omega⟩ hlt (by omega)]; exact h2
    · exact ⟨h1, h2, h3, by omega⟩

set_option maxRecDepth 100000 in
set_option maxHeartbeats 4000000 in
theorem k_X3_append (l : Launch) (hl : l.stackTraces = false) {w : WP} {F : FF} {A : AS} {c : Int} (hA : CI F A) (hc : inR c) : ConX l yX3_append cX3_append 2 (some .int) 6 w [.ref (adr w 0), .int (iI c)] F (QI w (fun z F' => appendT A c = 0 ∧ z = appendZ A c ∧ CJ F F' (appendN A c))) (appendX F A c) := by
  refine ConX.mk (lv := [(0, .ref (adr w 0)), (1, .int (iI c))]) (by decide) (Nat.le_of_ble_eq_true rfl) rfl ?_
  intro pg ev s0 mi be me co C hex hz
  have hB := hA.b
  have hI := hB.iv
  have hJ := CJ.refl hA
  have hv := hA.v.2.2.2.1
  obtain ⟨hc1, hc2⟩ := id hc
  refine q_iload_n C 1 dX3_append_0 rfl ?_
  refine q_bipush C 33 dX3_append_1 (by decide) ?_
  refine q_icmp_lt C 12 dX3_append_3 ⟨by omega, by omega⟩ ⟨by decide, by decide⟩ (by decide) (fun h3 => ?_) (fun h3 => ?_)
  · refine q_throw (text := "code is not 33 to 126") C hl hex ex_iae (by decide +kernel) dX3_append_12 dX3_append_15 dX3_append_16 dX3_append_18 dX3_append_21 (by decide) ?_
    exact ⟨Or.inl ⟨rfl, (by unfold appendT; rw [if_pos (by omega)])⟩, hJ⟩
  · refine q_iload_n C 1 dX3_append_6 rfl ?_
    refine q_bipush C 126 dX3_append_7 (by decide) ?_
    refine q_icmp_le C 22 dX3_append_9 ⟨by omega, by omega⟩ ⟨by decide, by decide⟩ (by decide) (fun h9 => ?_) (fun h9 => ?_)
    · refine q_aload_n C 0 dX3_append_22 rfl ?_
      refine q_get (T := TX3) (i := 6) C kd0 (by decide) rfl uws3 (by decide) wd_210 rfl dX3_append_23 ?_
      rw [show F 0 6 = A.len from (hJ).1.l]
      refine q_bipush C 60 dX3_append_26 (by decide) ?_
      refine q_icmp_lt C 41 dX3_append_28 ⟨by omega, by omega⟩ ⟨by decide, by decide⟩ (by decide) (fun h28 => ?_) (fun h28 => ?_)
      · refine q_aload_n C 0 dX3_append_41 rfl ?_
        refine q_iload_n C 1 dX3_append_42 rfl ?_
        refine q_cV (q_runV (As := [.int (iI c)]) (rest := []) C (k_X3_addCode (F := F) (P := (A.len, A.B)) (c := c) l (TX_of hA) ⟨by show 0 ≤ A.len; omega, by show A.len < 60; omega⟩) kd0 (by decide) rfl wd_718 wd_717 wd_18 wd_77 wd_715 nd_X3_addCode rfl (by decide) ⟨Nat.zero_le _, Nat.zero_le _⟩ rfl (Nat.le_of_ble_eq_true rfl) dX3_append_43) ?_
        rintro G1 ⟨hT1, hf1⟩
        have hJ1 := hJ.txt (P := em (A.len, A.B) c) hT1 hf1 (tok_em (tok_of hA.v) ⟨by omega, by omega⟩) (by rw [em_1]; show A.len + 1 ≤ 60; omega)
        refine q_aload_n C 0 dX3_append_46 rfl ?_
        refine q_get (T := TX3) (i := 6) C kd0 (by decide) rfl uws3 (by decide) wd_210 rfl dX3_append_47 ?_
        rw [show G1 0 6 = A.len + 1 from hT1.1]
        refine q_xiret C ⟨Nat.zero_le _, Nat.zero_le _⟩ dX3_append_50 ?_
        exact ⟨(by unfold appendT; rw [if_neg (by omega), if_neg (by omega)]), rfl, hJ1⟩
      · refine q_throw (text := "the buffer is full") C hl hex ex_ise (by decide +kernel) dX3_append_31 dX3_append_34 dX3_append_35 dX3_append_37 dX3_append_40 (by decide) ?_
        exact ⟨Or.inr (⟨rfl, (by unfold appendT; rw [if_neg (by omega), if_pos (by omega)])⟩), hJ⟩
    · refine q_throw (text := "code is not 33 to 126") C hl hex ex_iae (by decide +kernel) dX3_append_12 dX3_append_15 dX3_append_16 dX3_append_18 dX3_append_21 (by decide) ?_
      exact ⟨Or.inl ⟨rfl, (by unfold appendT; rw [if_pos (by omega)])⟩, hJ⟩

set_option maxRecDepth 100000 in
set_option maxHeartbeats 4000000 in
theorem k_X3_clearBuffer (l : Launch) {w : WP} {F : FF} {A : AS} (hA : CI F A)  : Con l yX3_clearBuffer cX3_clearBuffer 2 (some .int) 0 w [.ref (adr w 0)] F (QI w (fun z F' => z = A.len ∧ CJ F F' (A.buf (0, A.B)))) := by
  refine Con.mk (lv := [(0, .ref (adr w 0))]) (by decide) (Nat.le_of_ble_eq_true rfl) rfl ?_
  intro pg ev s0 mi be me co C hz
  have hB := hA.b
  have hI := hB.iv
  have hJ := CJ.refl hA
  have hv := hA.v.2.2.2.1
  refine q_aload_n C 0 dX3_clearBuffer_0 rfl ?_
  refine q_get (T := TX3) (i := 6) C kd0 (by decide) rfl uws3 (by decide) wd_210 rfl dX3_clearBuffer_1 ?_
  rw [show F 0 6 = A.len from (hJ).1.l]
  refine q_istore_n (lv' := [(1, .int (iI A.len)), (0, .ref (adr w 0))]) C dX3_clearBuffer_4 (by decide) rfl ?_
  refine q_aload_n C 1 dX3_clearBuffer_5 rfl ?_
  refine q_iconst C 0 dX3_clearBuffer_6 ?_
  refine q_put (T := TX3) (tyX := tyX3) (i := 6) (j := 6) (z := 0) (ty := .int) C rfl kd0 (by decide) rfl uws3 tyX3_ok nmX3 (by decide) (kd_ln.2.2.2.1 kd0) wd_210 rfl rfl rfl rfl (fsS_3_6 w _ _ _) (Nat.le_of_ble_eq_true rfl) dX3_clearBuffer_7 ?_
  refine q_iload_n C 0 dX3_clearBuffer_10 rfl ?_
  refine q_iret C dX3_clearBuffer_11 ?_
  exact ⟨rfl, hJ.txt (P := (0, A.B)) ⟨up_eq, fun i a b => by have b2 : i < 0 := b; omega⟩ (FrT.refl.up (by omega)) ⟨Int.le_refl _, fun i a b => by have b2 : i < 0 := b; omega⟩ (by show (0 : Int) ≤ 60; omega)⟩

set_option maxRecDepth 100000 in
set_option maxHeartbeats 4000000 in
theorem k_X3_firstError (l : Launch) {w : WP} {F : FF} {A : AS} (hA : CI F A)  : Con l yX3_firstError cX3_firstError 1 (some .int) 5 w [.ref (adr w 0)] F (QI w (fun z F' => z = fe A.B A.len ∧ CJ F F' A)) := by
  refine Con.mk (lv := [(0, .ref (adr w 0))]) (by decide) (Nat.le_of_ble_eq_true rfl) rfl ?_
  intro pg ev s0 mi be me co C hz
  have hB := hA.b
  have hI := hB.iv
  have hJ := CJ.refl hA
  have hv := hA.v.2.2.2.1
  refine q_aload_n C 0 dX3_firstError_0 rfl ?_
  refine q_cI (q_runV (As := []) (rest := []) C (k_rb l hA) kd0 (by decide) rfl wd_240 wd_239 wd_0 wd_77 wd_237 nd_X3_readBuffer rfl (by decide) ⟨Nat.zero_le _, Nat.zero_le _⟩ rfl (Nat.le_of_ble_eq_true rfl) dX3_firstError_1) ?_
  rintro z G1 ⟨hz1, hJ1, s1, hV1, hR1, he1⟩
  subst hz1
  have qfe := fe_range (B := A.B) hv.1
  refine q_iret C dX3_firstError_4 ?_
  exact ⟨rfl, hJ1⟩

set_option maxRecDepth 100000 in
set_option maxHeartbeats 4000000 in
theorem k_X3_write (l : Launch) (hl : l.stackTraces = false) {w : WP} {F : FF} {A : AS} {d : Int} (hA : CI F A) (hd : inR d) : ConX l yX3_write cX3_write 3 (some .int) 6 w [.ref (adr w 0), .int (iI d)] F (QI w (fun z F' => writeT A d = 0 ∧ z = writeZ A d ∧ CJ F F' (writeN A d))) (writeX F A d) := by
  refine ConX.mk (lv := [(0, .ref (adr w 0)), (1, .int (iI d))]) (by decide) (Nat.le_of_ble_eq_true rfl) rfl ?_
  intro pg ev s0 mi be me co C hex hz
  have hB := hA.b
  have hI := hB.iv
  have hJ := CJ.refl hA
  have hv := hA.v.2.2.2.1
  obtain ⟨hd1, hd2⟩ := id hd
  refine q_iload_n C 1 dX3_write_0 rfl ?_
  refine q_cI (q_runS (As := [.int (iI d)]) (rest := []) C (k_X3_isDoor l (x := d) ⟨by omega, by omega⟩) wd_484 wd_483 wd_77 wd_482 nd_X3_isDoor rfl (by decide) ⟨Nat.zero_le _, Nat.zero_le _⟩ rfl (Nat.le_of_ble_eq_true rfl) dX3_write_1) ?_
  rintro z F' ⟨⟨rfl, hq1⟩ | ⟨rfl, hq1⟩, rfl⟩
  · refine q_if_ne C 17 dX3_write_4 ⟨by decide, by decide⟩  (by decide) (fun _ => ?_) (fun h => absurd h (by decide))
    refine q_aload_n C 0 dX3_write_17 rfl ?_
    refine q_iload_n C 1 dX3_write_18 rfl ?_
    refine q_cI (q_runV (As := [.int (iI d)]) (rest := []) C (k_X3_textLength l hB (d := d) ⟨by omega, by omega⟩) kd0 (by decide) rfl wd_751 wd_750 wd_20 wd_77 wd_748 nd_X3_textLength rfl (by decide) ⟨Nat.zero_le _, Nat.zero_le _⟩ rfl (Nat.le_of_ble_eq_true rfl) dX3_write_19) ?_
    rintro z F' ⟨rfl, rfl⟩
    have hn0 := emD_1 A.r d 4
    have hn9 := emD_le hI (d := d) ⟨by omega, by omega⟩ 4 (by omega)
    have htx : (txD A.r d).1 = (emD A.r d 4).1 := rfl
    refine q_bipush C 60 dX3_write_22 (by decide) ?_
    refine q_icmp_le C 29 dX3_write_24 ⟨by omega, by omega⟩ ⟨by decide, by decide⟩ (by decide) (fun h24 => ?_) (fun h24 => ?_)
    · refine q_aload_n C 0 dX3_write_29 rfl ?_
      refine q_iconst C 0 dX3_write_30 ?_
      refine q_put (T := TX3) (tyX := tyX3) (i := 6) (j := 6) (z := 0) (ty := .int) C rfl kd0 (by decide) rfl uws3 tyX3_ok nmX3 (by decide) (kd_ln.2.2.2.1 kd0) wd_210 rfl rfl rfl rfl (fsS_3_6 w _ _ _) (Nat.le_of_ble_eq_true rfl) dX3_write_31 ?_
      refine q_iconst C 0 dX3_write_34 ?_
      refine q_istore_n (lv' := [(2, .int (iI 0)), (0, .ref (adr w 0)), (1, .int (iI d))]) C dX3_write_35 (by decide) rfl ?_
      refine q_lv (lv' := [(0, .ref (adr w 0)), (1, .int (iI d)), (2, .int (iI 0))]) [1, 2, 0] rfl ?_
      have hBK : ∀ G, FrT (up F 0 6 0) G → BI G 1 A.r := fun G h => hB.keep (fun k a c => by rw [h k (by omega) (by omega), up_k (by omega)])
      refine wf2 (P := fun (i : Int) (G : FF) => Wq pg l ev _ s0 mi _ be me co _ w _ _ _ 36 [(0, .ref (adr w 0)), (1, .int (iI d)), (2, .int (iI i))] [] G) (I := fun (i : Int) (G : FF) => 0 ≤ i ∧ i ≤ 4 ∧ TX G (emD A.r d i.toNat) ∧ FrT (up F 0 6 0) G) (μ := fun (i : Int) (G : FF) => (4 - i).toNat) ?_ 0 (up F 0 6 0) (⟨by omega, by omega, ⟨up_eq, fun i a b => by have b2 : i < 0 := b; omega⟩, FrT.refl⟩)
      intro i G hI' ih36
      (try dsimp only at hI'); (try dsimp only at ih36); (try dsimp only)
      obtain ⟨hi0, hi1, hTG, hfG⟩ := hI'
      refine q_iload_n C 2 dX3_write_36 rfl ?_
      refine q_iconst C 4 dX3_write_37 ?_
      refine q_icmp_ge C 56 dX3_write_38 ⟨by omega, by omega⟩ ⟨by decide, by decide⟩ (by decide) (fun h38 => ?_) (fun h38 => ?_)
      · refine q_aload_n C 0 dX3_write_56 rfl ?_
        refine q_get (T := TX3) (i := 6) C kd0 (by decide) rfl uws3 (by decide) wd_210 rfl dX3_write_57 ?_
        rw [show G 0 6 = (txD A.r d).1 by rw [hTG.1, show i = 4 by omega]; rfl]
        refine q_xiret C ⟨Nat.zero_le _, Nat.zero_le _⟩ dX3_write_60 ?_
        exact ⟨(by unfold writeT; rw [if_neg (by omega)]), (by unfold writeZ; rw [if_neg (by omega)]), (by unfold writeN; rw [if_neg (by omega)]; exact hJ.txt (P := txD A.r d) (by rw [show i = 4 by omega] at hTG; exact hTG) (FrT.trans (FrT.refl.up (by omega)) hfG) (tok_emD hI (d := d) ⟨by omega, by omega⟩ 4 (by omega)) (by omega))⟩
      · refine q_aload_n C 0 dX3_write_41 rfl ?_
        refine q_iload_n C 1 dX3_write_42 rfl ?_
        refine q_iload_n C 2 dX3_write_43 rfl ?_
        refine q_cI (q_runS (As := [.int (iI d), .int (iI i)]) (rest := [.ref (adr w 0)]) C (k_X3_lineNumber l) wd_288 wd_287 wd_77 wd_418 nd_X3_lineNumber rfl (by decide) ⟨Nat.zero_le _, Nat.zero_le _⟩ rfl (Nat.le_of_ble_eq_true rfl) dX3_write_44) ?_
        rintro z F' ⟨rfl, rfl⟩
        refine q_cV (q_runV (As := [.int (iI (4 * d + i))]) (rest := []) C (k_X3_addLine (F := G) (P := emD A.r d i.toNat) l (hBK G hfG) hTG (y := 4 * d + i) ⟨by omega, by omega⟩ (emD_1 _ _ _) (by rw [emD_i hi0]; exact Int.le_trans (emD_mono (by omega)) (by omega : (emD A.r d 4).1 ≤ 60))) kd0 (by decide) rfl wd_755 wd_754 wd_21 wd_77 wd_752 nd_X3_addLine rfl (by decide) ⟨Nat.zero_le _, Nat.zero_le _⟩ rfl (Nat.le_of_ble_eq_true rfl) dX3_write_47) ?_
        rintro G1 ⟨hT1, hf1⟩
        refine q_iinc (lv' := [(2, .int (iI (i + 1))), (0, .ref (adr w 0)), (1, .int (iI d))]) C 2 dX3_write_50 rfl (by decide) rfl ?_
        refine q_goto C 36 dX3_write_53 (by decide) ?_
        refine q_lv (lv' := [(0, .ref (adr w 0)), (1, .int (iI d)), (2, .int (iI (i + 1)))]) [1, 2, 0] rfl ?_
        exact ih36 (i + 1) G1 (⟨by omega, by omega, by rw [← emD_i hi0]; exact hT1, hfG.trans hf1⟩) (by omega)
    · refine q_iconst C (-1) dX3_write_27 ?_
      refine q_xiret C ⟨Nat.zero_le _, Nat.zero_le _⟩ dX3_write_28 ?_
      exact ⟨(by unfold writeT; rw [if_neg (by omega)]), (by unfold writeZ; rw [if_pos (by omega)]), (by unfold writeN; rw [if_pos (by omega)]; exact hJ)⟩
  · refine q_if_ne C 17 dX3_write_4 ⟨by decide, by decide⟩  (by decide) (fun h => absurd h (by decide)) (fun _ => ?_)
    refine q_throw (text := "no such door") C hl hex ex_ioobe (by decide +kernel) dX3_write_7 dX3_write_10 dX3_write_11 dX3_write_13 dX3_write_16 (by decide) ?_
    exact ⟨⟨rfl, (by unfold writeT; rw [if_pos (by omega)])⟩, hJ⟩

set_option maxRecDepth 100000 in
set_option maxHeartbeats 4000000 in
theorem k_X3_putPoem (l : Launch) {w : WP} {F : FF} {r : Rw} {s : RS} {d : Int} (hB : BI F 1 r) (hR : RI F s) (hd : 0 ≤ d ∧ d < 4) (hf0 : 0 ≤ s.f ∧ s.f ≤ 24) (hWL : ∀ j, 0 ≤ j → j < s.f → 0 ≤ s.W j ∧ s.W j < 40 ∧ 0 ≤ s.L j ∧ s.L j ≤ 3) : Con l yX3_putPoem cX3_putPoem 6 (some .int) 4 w [.ref (adr w 0), .int (iI d)] F (QI w (fun z F' => z = (ldS s d r s.f.toNat).2 ∧ BI F' 1 (pts (ldS s d r s.f.toNat).1 (ldS s d r s.f.toNat).2) ∧ Fr F F' 1)) := by
  refine Con.mk (lv := [(0, .ref (adr w 0)), (1, .int (iI d))]) (by decide) (Nat.le_of_ble_eq_true rfl) rfl ?_
  intro pg ev s0 mi be me co C hz
  refine q_iconst C 0 dX3_putPoem_0 ?_
  refine q_istore_n (lv' := [(2, .int (iI 0)), (0, .ref (adr w 0)), (1, .int (iI d))]) C dX3_putPoem_1 (by decide) rfl ?_
  refine q_lv (lv' := [(0, .ref (adr w 0)), (1, .int (iI d)), (2, .int (iI 0))]) [1, 2, 0] rfl ?_
  refine wf3 (P := fun (k : Int) (q : Rw) (G : FF) => Wq pg l ev _ s0 mi _ be me co _ w _ _ _ 2 [(0, .ref (adr w 0)), (1, .int (iI d)), (2, .int (iI k))] [] G) (I := fun (k : Int) (q : Rw) (G : FF) => 0 ≤ k ∧ k ≤ s.f ∧ ldS s d r k.toNat = (q, k) ∧ BI G 1 q ∧ Fr F G 1) (μ := fun (k : Int) (q : Rw) (G : FF) => (s.f - k).toNat) ?_ 0 r F (⟨by omega, by omega, rfl, hB, Fr.refl F 1⟩)
  intro k q G hI' ih2
  (try dsimp only at hI'); (try dsimp only at ih2); (try dsimp only)
  obtain ⟨hk0, hk1, hq, hE, hfG⟩ := hI'
  have hIs := hE.iv
  refine q_iload_n C 2 dX3_putPoem_2 rfl ?_
  refine q_aload_n C 0 dX3_putPoem_3 rfl ?_
  refine q_get (T := TX3) (i := 7) C kd0 (by decide) rfl uws3 (by decide) wd_211 rfl dX3_putPoem_4 ?_
  refine q_getN (T := TX2) (i := 3) C kd86 (by decide) rfl uws2 (by decide) nw_184 rfl dX3_putPoem_7 ?_
  rw [show G 86 3 = s.f by rw [hfG 86 (by omega)]; exact hR.f]
  refine q_icmp_ge C 94 dX3_putPoem_10 ⟨by omega, by omega⟩ ⟨by omega, by omega⟩ (by decide) (fun h10 => ?_) (fun h10 => ?_)
  · refine q_aload_n C 0 dX3_putPoem_94 rfl ?_
    refine q_get (T := TX3) (i := 0) C kd0 (by decide) rfl uws3 (by decide) wd_204 rfl dX3_putPoem_95 ?_
    refine q_dup C dX3_putPoem_98 rfl ?_
    refine q_getN (T := TX0) (i := 11) C hb1.k0 (by decide) rfl uws0 (by decide) nw_123 rfl dX3_putPoem_99 ?_
    refine q_iload_n C 2 dX3_putPoem_102 rfl ?_
    refine q_iadd C dX3_putPoem_103 ?_
    refine q_putN (T := TX0) (tyX := tyX0) (i := 11) (j := 11) (z := ((G 1 11) + k)) (ty := .int) C rfl hb1.k0 (by decide) rfl uws0 tyX0_ok nmX0 (by decide) (kd_ln.1 hb1.k0) nw_123 rfl rfl rfl rfl (fsS_0_11 w _ _ _) (Nat.le_of_ble_eq_true rfl) dX3_putPoem_104 ?_
    refine q_iload_n C 2 dX3_putPoem_107 rfl ?_
    refine q_iret C dX3_putPoem_108 ?_
    have hend : ldS s d r s.f.toNat = (q, k) := by
      first
      | (rw [show s.f = k by omega]; exact hq)
      | (have hh := ldS_stop hk0 hq (fun g => by first | exact absurd g.1 (by assumption) | exact absurd g.2 (by assumption)) (s.f.toNat - k.toNat); rw [show k.toNat + (s.f.toNat - k.toNat) = s.f.toNat by omega] at hh; exact hh)
    rw [hend]
    exact ⟨rfl, BI_pts hE rfl, hfG.up (by omega) (by omega)⟩
  · refine q_aload_n C 0 dX3_putPoem_13 rfl ?_
    refine q_get (T := TX3) (i := 7) C kd0 (by decide) rfl uws3 (by decide) wd_211 rfl dX3_putPoem_14 ?_
    refine q_iload_n C 2 dX3_putPoem_17 rfl ?_
    refine q_cI (q_runV (As := [.int (iI k)]) (rest := []) C (k_X2_wordTold (F := G) l (x := k) ⟨by omega, by omega⟩) kd86 (by decide) rfl wd_735 wd_733 wd_734 wd_80 wd_732 nd_X2_wordTold rfl (by decide) ⟨Nat.zero_le _, Nat.zero_le _⟩ rfl (Nat.le_of_ble_eq_true rfl) dX3_putPoem_18) ?_
    rintro z F' ⟨rfl, rfl⟩
    rw [show G 88 k = s.W k by rw [hfG 88 (by omega)]; exact (hR.w (x := k) (by omega) (by omega)).1]
    have qw18 := hWL k (by omega) (by omega)
    refine q_istore_n (lv' := [(3, .int (iI (s.W k))), (0, .ref (adr w 0)), (1, .int (iI d)), (2, .int (iI k))]) C dX3_putPoem_21 (by decide) rfl ?_
    refine q_iload_n C 2 dX3_putPoem_22 rfl ?_
    refine q_aload_n C 1 dX3_putPoem_23 rfl ?_
    refine q_get (T := TX3) (i := 7) C kd0 (by decide) rfl uws3 (by decide) wd_211 rfl dX3_putPoem_24 ?_
    refine q_iload_n C 3 dX3_putPoem_27 rfl ?_
    refine q_cI (q_runV (As := [.int (iI k)]) (rest := [.int (iI d)]) C (k_X2_lineTold (F := G) l (x := k) ⟨by omega, by omega⟩) kd86 (by decide) rfl wd_740 wd_738 wd_739 wd_80 wd_737 nd_X2_lineTold rfl (by decide) ⟨Nat.zero_le _, Nat.zero_le _⟩ rfl (Nat.le_of_ble_eq_true rfl) dX3_putPoem_28) ?_
    rintro z F' ⟨rfl, rfl⟩
    rw [show G 89 k = s.L k by rw [hfG 89 (by omega)]; exact (hR.w (x := k) (by omega) (by omega)).2]
    have qw28 := hWL k (by omega) (by omega)
    refine q_cI (q_runS (As := [.int (iI d), .int (iI (s.L k))]) (rest := []) C (k_X3_lineNumber l) wd_288 wd_287 wd_77 wd_418 nd_X3_lineNumber rfl (by decide) ⟨Nat.zero_le _, Nat.zero_le _⟩ rfl (Nat.le_of_ble_eq_true rfl) dX3_putPoem_31) ?_
    rintro z F' ⟨rfl, rfl⟩
    refine q_istore (lv' := [(4, .int (iI (4 * d + (s.L k)))), (3, .int (iI (s.W k))), (0, .ref (adr w 0)), (1, .int (iI d)), (2, .int (iI k))]) C dX3_putPoem_34 (by decide) rfl ?_
    refine q_aload_n C 2 dX3_putPoem_36 rfl ?_
    refine q_get (T := TX3) (i := 0) C kd0 (by decide) rfl uws3 (by decide) wd_204 rfl dX3_putPoem_37 ?_
    refine q_iload C 0 dX3_putPoem_40 rfl ?_
    refine q_cI (q_runV (As := [.int (iI (4 * d + (s.L k)))]) (rest := []) C (k_X0_sizeOf l hb1 hE ⟨by omega, by omega⟩) hb1.k0 (by decide) rfl wd_488 wd_486 wd_487 wd_78 wd_485 nd_X0_sizeOf rfl (by decide) ⟨Nat.zero_le _, Nat.zero_le _⟩ rfl (Nat.le_of_ble_eq_true rfl) dX3_putPoem_42) ?_
    rintro z F' ⟨rfl, rfl⟩
    have q42 := (hIs).sz (l := 4 * d + (s.L k)) (by omega) (by omega)
    refine q_istore (lv' := [(5, .int (iI (q (4 * d + (s.L k))))), (4, .int (iI (4 * d + (s.L k)))), (3, .int (iI (s.W k))), (0, .ref (adr w 0)), (1, .int (iI d)), (2, .int (iI k))]) C dX3_putPoem_45 (by decide) rfl ?_
    refine q_aload_n C 3 dX3_putPoem_47 rfl ?_
    refine q_get (T := TX3) (i := 0) C kd0 (by decide) rfl uws3 (by decide) wd_204 rfl dX3_putPoem_48 ?_
    refine q_iload_n C 2 dX3_putPoem_51 rfl ?_
    refine q_cI (q_runV (As := [.int (iI (s.W k))]) (rest := []) C (k_X0_isInBag l hb1 hE (x := s.W k) ⟨by omega, by omega⟩) hb1.k0 (by decide) rfl wd_560 wd_558 wd_559 wd_78 wd_557 nd_X0_isInBag rfl (by decide) ⟨Nat.zero_le _, Nat.zero_le _⟩ rfl (Nat.le_of_ble_eq_true rfl) dX3_putPoem_52) ?_
    rintro z F' ⟨⟨rfl, hg52⟩ | ⟨rfl, hg52⟩, rfl⟩
    · refine q_if_eq C 94 dX3_putPoem_55 ⟨by decide, by decide⟩  (by decide) (fun h => absurd h (by decide)) (fun _ => ?_)
      refine q_aload_n C 3 dX3_putPoem_58 rfl ?_
      refine q_get (T := TX3) (i := 0) C kd0 (by decide) rfl uws3 (by decide) wd_204 rfl dX3_putPoem_59 ?_
      refine q_iload_n C 2 dX3_putPoem_62 rfl ?_
      refine q_iload C 1 dX3_putPoem_63 rfl ?_
      refine q_iload C 0 dX3_putPoem_65 rfl ?_
      refine q_cI (q_runV (As := [.int (iI (s.W k)), .int (iI (4 * d + (s.L k))), .int (iI (q (4 * d + (s.L k))))]) (rest := []) C (k_X0_refusal l hb1 hE ⟨by omega, by omega⟩ ⟨by omega, by omega⟩ ⟨by omega, by omega⟩) hb1.k0 (by decide) rfl wd_450 wd_448 wd_449 wd_78 wd_586 nd_X0_refusal rfl (by decide) ⟨Nat.zero_le _, Nat.zero_le _⟩ rfl (Nat.le_of_ble_eq_true rfl) dX3_putPoem_67) ?_
      rintro z F' ⟨rfl, rfl⟩
      have qrr := rea_range q (s.W k) (4 * d + (s.L k)) (q (4 * d + (s.L k)))
      refine q_if_eq C 76 dX3_putPoem_70 ⟨by omega, by omega⟩  (by decide) (fun h70 => ?_) (fun h70 => ?_)
      · have qlt := rea_lt hIs (l := 4 * d + s.L k) ⟨by omega, by omega⟩ (by assumption)
        refine q_aload_n C 3 dX3_putPoem_76 rfl ?_
        refine q_get (T := TX3) (i := 0) C kd0 (by decide) rfl uws3 (by decide) wd_204 rfl dX3_putPoem_77 ?_
        refine q_iload_n C 2 dX3_putPoem_80 rfl ?_
        refine q_iload C 1 dX3_putPoem_81 rfl ?_
        refine q_iload C 0 dX3_putPoem_83 rfl ?_
        refine q_cV (q_runV (As := [.int (iI (s.W k)), .int (iI (4 * d + (s.L k))), .int (iI (q (4 * d + (s.L k))))]) (rest := []) C (k_X0_insertWord l hb1 hE (x := s.W k) (y := 4 * d + (s.L k)) (q := q (4 * d + (s.L k))) ⟨by omega, by omega⟩ (by assumption) ⟨by omega, by omega⟩ ⟨by omega, by omega⟩ (by omega)) hb1.k0 (by decide) rfl wd_590 wd_588 wd_589 wd_78 wd_587 nd_X0_insertWord rfl (by decide) ⟨Nat.zero_le _, Nat.zero_le _⟩ rfl (Nat.le_of_ble_eq_true rfl) dX3_putPoem_85) ?_
        rintro G1 ⟨hE1, hf1⟩
        refine q_iinc (lv' := [(2, .int (iI (k + 1))), (5, .int (iI (q (4 * d + (s.L k))))), (4, .int (iI (4 * d + (s.L k)))), (3, .int (iI (s.W k))), (0, .ref (adr w 0)), (1, .int (iI d))]) C 5 dX3_putPoem_88 rfl (by decide) rfl ?_
        refine q_goto C 2 dX3_putPoem_91 (by decide) ?_
        refine q_lv (lv' := [(0, .ref (adr w 0)), (1, .int (iI d)), (2, .int (iI (k + 1)))]) [4, 5, 0] rfl ?_
        exact ih2 (k + 1) (ins q (s.W k) (4 * d + s.L k) (q (4 * d + s.L k))) G1 (⟨by omega, by omega, ldS_go hk0 hq (by assumption) (by assumption), hE1, hfG.trans hf1⟩) (by omega)
      · refine q_goto C 94 dX3_putPoem_73 (by decide) ?_
        refine q_aload_n C 3 dX3_putPoem_94 rfl ?_
        refine q_get (T := TX3) (i := 0) C kd0 (by decide) rfl uws3 (by decide) wd_204 rfl dX3_putPoem_95 ?_
        refine q_dup C dX3_putPoem_98 rfl ?_
        refine q_getN (T := TX0) (i := 11) C hb1.k0 (by decide) rfl uws0 (by decide) nw_123 rfl dX3_putPoem_99 ?_
        refine q_iload_n C 5 dX3_putPoem_102 rfl ?_
        refine q_iadd C dX3_putPoem_103 ?_
        refine q_putN (T := TX0) (tyX := tyX0) (i := 11) (j := 11) (z := ((G 1 11) + k)) (ty := .int) C rfl hb1.k0 (by decide) rfl uws0 tyX0_ok nmX0 (by decide) (kd_ln.1 hb1.k0) nw_123 rfl rfl rfl rfl (fsS_0_11 w _ _ _) (Nat.le_of_ble_eq_true rfl) dX3_putPoem_104 ?_
        refine q_iload_n C 5 dX3_putPoem_107 rfl ?_
        refine q_iret C dX3_putPoem_108 ?_
        have hend : ldS s d r s.f.toNat = (q, k) := by
          first
          | (rw [show s.f = k by omega]; exact hq)
          | (have hh := ldS_stop hk0 hq (fun g => by first | exact absurd g.1 (by assumption) | exact absurd g.2 (by assumption)) (s.f.toNat - k.toNat); rw [show k.toNat + (s.f.toNat - k.toNat) = s.f.toNat by omega] at hh; exact hh)
        rw [hend]
        exact ⟨rfl, BI_pts hE rfl, hfG.up (by omega) (by omega)⟩
    · refine q_if_eq C 94 dX3_putPoem_55 ⟨by decide, by decide⟩  (by decide) (fun _ => ?_) (fun h => absurd h (by decide))
      refine q_aload_n C 3 dX3_putPoem_94 rfl ?_
      refine q_get (T := TX3) (i := 0) C kd0 (by decide) rfl uws3 (by decide) wd_204 rfl dX3_putPoem_95 ?_
      refine q_dup C dX3_putPoem_98 rfl ?_
      refine q_getN (T := TX0) (i := 11) C hb1.k0 (by decide) rfl uws0 (by decide) nw_123 rfl dX3_putPoem_99 ?_
      refine q_iload_n C 5 dX3_putPoem_102 rfl ?_
      refine q_iadd C dX3_putPoem_103 ?_
      refine q_putN (T := TX0) (tyX := tyX0) (i := 11) (j := 11) (z := ((G 1 11) + k)) (ty := .int) C rfl hb1.k0 (by decide) rfl uws0 tyX0_ok nmX0 (by decide) (kd_ln.1 hb1.k0) nw_123 rfl rfl rfl rfl (fsS_0_11 w _ _ _) (Nat.le_of_ble_eq_true rfl) dX3_putPoem_104 ?_
      refine q_iload_n C 5 dX3_putPoem_107 rfl ?_
      refine q_iret C dX3_putPoem_108 ?_
      have hend : ldS s d r s.f.toNat = (q, k) := by
        first
        | (rw [show s.f = k by omega]; exact hq)
        | (have hh := ldS_stop hk0 hq (fun g => by first | exact absurd g.1 (by assumption) | exact absurd g.2 (by assumption)) (s.f.toNat - k.toNat); rw [show k.toNat + (s.f.toNat - k.toNat) = s.f.toNat by omega] at hh; exact hh)
      rw [hend]
      exact ⟨rfl, BI_pts hE rfl, hfG.up (by omega) (by omega)⟩

set_option maxRecDepth 100000 in
set_option maxHeartbeats 4000000 in
theorem k_X3_load (l : Launch) (hl : l.stackTraces = false) {w : WP} {F : FF} {A : AS} {d : Int} (hA : CI F A) (hd : inR d) : ConX l yX3_load cX3_load 2 (some .int) 6 w [.ref (adr w 0), .int (iI d)] F (QI w (fun z F' => loadT A d = 0 ∧ z = loadZ A d ∧ CJ F F' (loadN A d))) (loadX F A d) := by
  refine ConX.mk (lv := [(0, .ref (adr w 0)), (1, .int (iI d))]) (by decide) (Nat.le_of_ble_eq_true rfl) rfl ?_
  intro pg ev s0 mi be me co C hex hz
  have hB := hA.b
  have hI := hB.iv
  have hJ := CJ.refl hA
  have hv := hA.v.2.2.2.1
  obtain ⟨hd1, hd2⟩ := id hd
  refine q_iload_n C 1 dX3_load_0 rfl ?_
  refine q_cI (q_runS (As := [.int (iI d)]) (rest := []) C (k_X3_isDoor l (x := d) ⟨by omega, by omega⟩) wd_484 wd_483 wd_77 wd_482 nd_X3_isDoor rfl (by decide) ⟨Nat.zero_le _, Nat.zero_le _⟩ rfl (Nat.le_of_ble_eq_true rfl) dX3_load_1) ?_
  rintro z F' ⟨⟨rfl, hq1⟩ | ⟨rfl, hq1⟩, rfl⟩
  · refine q_if_ne C 17 dX3_load_4 ⟨by decide, by decide⟩  (by decide) (fun _ => ?_) (fun h => absurd h (by decide))
    refine q_aload_n C 0 dX3_load_17 rfl ?_
    refine q_cI (q_runV (As := []) (rest := []) C (k_rb l hA) kd0 (by decide) rfl wd_240 wd_239 wd_0 wd_77 wd_237 nd_X3_readBuffer rfl (by decide) ⟨Nat.zero_le _, Nat.zero_le _⟩ rfl (Nat.le_of_ble_eq_true rfl) dX3_load_18) ?_
    rintro z G1 ⟨hz1, hJ1, s1, hV1, hR1, he1⟩
    subst hz1
    have qfe := fe_range (B := A.B) hv.1
    refine q_aload_n C 0 dX3_load_21 rfl ?_
    refine q_get (T := TX3) (i := 6) C kd0 (by decide) rfl uws3 (by decide) wd_210 rfl dX3_load_22 ?_
    rw [show G1 0 6 = A.len from (hJ1).1.l]
    refine q_icmp_lt C 38 dX3_load_25 ⟨by omega, by omega⟩ ⟨by omega, by omega⟩ (by decide) (fun h25 => ?_) (fun h25 => ?_)
    · refine q_throw (text := "the buffer does not tell a poem") C hl hex ex_iae (by decide +kernel) dX3_load_38 dX3_load_41 dX3_load_42 dX3_load_44 dX3_load_47 (by decide) ?_
      exact ⟨Or.inr (⟨rfl, (by unfold loadT; rw [if_neg (by omega), if_pos (fun g => by first | (have := g.1; omega) | (have g2 := g.2; rw [he1 g.1] at g2; exact absurd g2 hS2))])⟩), hJ1⟩
    · refine q_aload_n C 0 dX3_load_28 rfl ?_
      refine q_get (T := TX3) (i := 7) C kd0 (by decide) rfl uws3 (by decide) wd_211 rfl dX3_load_29 ?_
      refine q_cI (q_runV (As := []) (rest := []) C (k_X2_closesNumber l hV1 hR1) kd86 (by decide) rfl wd_264 wd_262 wd_263 wd_80 wd_726 nd_X2_closesNumber rfl (by decide) ⟨Nat.zero_le _, Nat.zero_le _⟩ rfl (Nat.le_of_ble_eq_true rfl) dX3_load_32) ?_
      rintro z G2 ⟨⟨rfl, hS2, hR2⟩ | ⟨rfl, hS2, rfl⟩, hf2⟩
      · have hJ2 := hJ1.rd hf2
        refine q_if_ne C 48 dX3_load_35 ⟨by decide, by decide⟩  (by decide) (fun _ => ?_) (fun h => absurd h (by decide))
        have hs1 : rst A.B A.len = s1 := he1 (by omega)
        obtain ⟨hw0, hw1, hw2, hw3⟩ := clo_w hV1 hS2
        have hcf : (clo s1).f = s1.f + 1 := rfl
        refine q_aload_n C 0 dX3_load_48 rfl ?_
        refine q_get (T := TX3) (i := 2) C kd0 (by decide) rfl uws3 (by decide) wd_206 rfl dX3_load_49 ?_
        refine q_aload_n C 0 dX3_load_52 rfl ?_
        refine q_get (T := TX3) (i := 0) C kd0 (by decide) rfl uws3 (by decide) wd_204 rfl dX3_load_53 ?_
        refine q_cV (q_runV (As := [.ref (adr w 1)]) (rest := []) C (k_X1_save l (hJ2).1.h (hJ2).1.b) kd21 (by decide) rfl wd_580 wd_578 wd_579 wd_79 wd_577 nd_X1_save rfl (by decide) ⟨Nat.zero_le _, Nat.zero_le _⟩ rfl (Nat.le_of_ble_eq_true rfl) dX3_load_56) ?_
        rintro G3 ⟨hH3, hf3⟩
        have hJ3 := (hJ2).sav hH3 hf3
        have hB3 : BI G3 1 A.r := hJ3.1.b
        refine q_aload_n C 0 dX3_load_59 rfl ?_
        refine q_iconst C 0 dX3_load_60 ?_
        refine q_put (T := TX3) (tyX := tyX3) (i := 6) (j := 6) (z := 0) (ty := .int) C rfl kd0 (by decide) rfl uws3 tyX3_ok nmX3 (by decide) (kd_ln.2.2.2.1 kd0) wd_210 rfl rfl rfl rfl (fsS_3_6 w _ _ _) (Nat.le_of_ble_eq_true rfl) dX3_load_61 ?_
        have hJU := (hJ3).txt (G' := up G3 0 6 0) (P := (0, A.B)) ⟨up_eq, fun i a b => by have b2 : i < 0 := b; omega⟩ (FrT.refl.up (by omega)) ⟨Int.le_refl _, fun i a b => by have b2 : i < 0 := b; omega⟩ (by show (0 : Int) ≤ 60; omega)
        have hBU : BI (up G3 0 6 0) 1 A.r := hJU.1.b
        refine q_aload_n C 0 dX3_load_64 rfl ?_
        refine q_get (T := TX3) (i := 0) C kd0 (by decide) rfl uws3 (by decide) wd_204 rfl dX3_load_65 ?_
        refine q_iload_n C 1 dX3_load_68 rfl ?_
        refine q_cI (q_runV (As := [.int (iI d)]) (rest := []) C (k_X0_emptyDoor l hb1 hBU (d := d) ⟨by omega, by omega⟩) hb1.k0 (by decide) rfl wd_626 wd_624 wd_625 wd_78 wd_623 nd_X0_emptyDoor rfl (by decide) ⟨Nat.zero_le _, Nat.zero_le _⟩ rfl (Nat.le_of_ble_eq_true rfl) dX3_load_69) ?_
        rintro z G5 ⟨rfl, hE5, hf5⟩
        have hJ5 := (hJU).wr hE5 hf5 (nb_clr (hJU).1.v.1 ⟨by omega, by omega⟩)
        refine q_pop C dX3_load_72 rfl ?_
        refine q_aload_n C 0 dX3_load_73 rfl ?_
        refine q_iload_n C 1 dX3_load_74 rfl ?_
        refine q_cI (q_runV (As := [.int (iI d)]) (rest := []) C (k_X3_putPoem (s := clo s1) (d := d) l hE5 (hR2.keepR (fun k a c => by rw [hf5 k (by omega), up_k (by omega), hf3 k (by omega)])) ⟨by omega, by omega⟩ ⟨hw0, hw1⟩ hw3) kd0 (by decide) rfl wd_731 wd_730 wd_19 wd_77 wd_728 nd_X3_putPoem rfl (by decide) ⟨Nat.zero_le _, Nat.zero_le _⟩ rfl (Nat.le_of_ble_eq_true rfl) dX3_load_75) ?_
        rintro z G9 ⟨rfl, hE9, hf9⟩
        have hi9 := ldS_iv (s := clo s1) hE5.iv (d := d) ⟨by omega, by omega⟩ hw3 (clo s1).f.toNat (by omega)
        have hJ9 := (hJ5).wr hE9 hf9 (nb_of (hJ5).1.v.1 (by show pts _ _ 179 = _; unfold pts; rw [if_neg (by omega)]; exact hi9.2.1))
        refine q_xiret C ⟨Nat.zero_le _, Nat.zero_le _⟩ dX3_load_78 ?_
        exact ⟨(by unfold loadT; rw [if_neg (by omega), if_neg (fun g => g ⟨by omega, by rw [hs1]; exact hS2⟩)]), (by unfold loadZ ldA; rw [hs1]), (by unfold loadN ldA; rw [hs1]; exact hJ9)⟩
      · refine q_if_ne C 48 dX3_load_35 ⟨by decide, by decide⟩  (by decide) (fun h => absurd h (by decide)) (fun _ => ?_)
        refine q_throw (text := "the buffer does not tell a poem") C hl hex ex_iae (by decide +kernel) dX3_load_38 dX3_load_41 dX3_load_42 dX3_load_44 dX3_load_47 (by decide) ?_
        exact ⟨Or.inr (⟨rfl, (by unfold loadT; rw [if_neg (by omega), if_pos (fun g => by first | (have := g.1; omega) | (have g2 := g.2; rw [he1 g.1] at g2; exact absurd g2 hS2))])⟩), hJ1⟩
  · refine q_if_ne C 17 dX3_load_4 ⟨by decide, by decide⟩  (by decide) (fun h => absurd h (by decide)) (fun _ => ?_)
    refine q_throw (text := "no such door") C hl hex ex_ioobe (by decide +kernel) dX3_load_7 dX3_load_10 dX3_load_11 dX3_load_13 dX3_load_16 (by decide) ?_
    exact ⟨Or.inl ⟨rfl, (by unfold loadT; rw [if_pos (by omega)])⟩, hJ⟩
