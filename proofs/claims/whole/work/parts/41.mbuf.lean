/-! the reference: slots, undoing, the hash of all, texts -/
section MK
variable {F G G0 G' : FF} {A : AS} {t : Int}
theorem MJ.kee {k j : Int} (h : MJ F G0 A t) (hk : 0 ≤ k ∧ k < 2) (hj : j = 182) (hc : G 113 = cpS (G0 113) k A.r j) (hf : ∀ q, q ≠ 113 → G q = G0 q) : MJ F (up G 114 k 1) (A.kee k) t := by
  obtain ⟨⟨h1, h3, h4, h5, h6, h8, h9⟩, hC, ht⟩ := h
  refine ⟨⟨by rw [up_k (by decide), hf 111 (by decide)]; exact h1, h3, h4.of (by rw [up_k (by decide), hf 110 (by decide)]) (by rw [up_k (by decide), hf 112 (by decide)]), fun q a c => ?_, by rw [up_k (by decide), hf 110 (by decide)]; exact h6, h8, by rw [up_k (by decide), hf 116 (by decide)]; exact h9⟩, fun q a => by rw [up_k (by omega), hf q (by omega)]; exact hC q a, by rw [up_k (by decide), hf 110 (by decide)]; exact ht⟩
  have e1 : (A.kee k).kp q = if q = k then 1 else A.kp q := rfl
  have e2 : (A.kee k).sl q = if q = k then A.r else A.sl q := rfl
  rw [e1, e2, up_k (show (113 : Nat) ≠ 114 by decide), hc, hj]
  by_cases e : q = k
  · rw [if_pos e, if_pos e, e, up_eq]
    refine ⟨rfl, Or.inr rfl, fun _ => ⟨h3, fun j b d => ?_⟩⟩
    unfold cpS
    rw [if_pos (by omega)]
    congr 1; omega
  · obtain ⟨g1, g2, g3⟩ := h5 q a c
    rw [if_neg e, if_neg e, up_j e, hf 114 (by decide)]
    refine ⟨g1, g2, fun x => ⟨(g3 x).1, fun j b d => ?_⟩⟩
    unfold cpS
    rw [if_neg (by omega)]
    exact (g3 x).2 j b d
def c0 (s r : Rw) (k : Int) : Rw := fun j => if 0 ≤ j ∧ j < k then r j else s j
theorem c0_0 {s r : Rw} : s = c0 s r 0 := by
  funext j; unfold c0; rw [if_neg (by omega)]
theorem c0_s {s r : Rw} {k : Int} (h : 0 ≤ k) : ru (c0 s r k) k (r k) = c0 s r (k + 1) := by
  funext j
  unfold ru c0
  by_cases e : j = k
  · rw [if_pos e, if_pos (by omega), e]
  · rw [if_neg e]
    by_cases g : 0 ≤ j ∧ j < k
    · rw [if_pos g, if_pos (by omega)]
    · rw [if_neg g, if_neg (by omega)]
theorem c0_182 {s r : Rw} (h1 : Iv s) (h2 : Iv r) : c0 s r 182 = r := by
  funext j
  unfold c0
  by_cases g : 0 ≤ j ∧ j < 182
  · rw [if_pos g]
  · rw [if_neg g, h1.zr g, h2.zr g]
theorem MJ.und (h : MJ F G0 A t) (hn : 1 ≤ A.n) (hr : G 111 = A.sv (A.n - 1)) (hI : Iv (A.sv (A.n - 1))) (h2 : G 110 2 = A.n - 1) (hf : ∀ q, q ≠ 110 → q ≠ 111 → G q = G0 q) (hg : ∀ i, i ≠ 2 → G 110 i = G0 110 i) : MJ F G A.und t := by
  obtain ⟨⟨h1, h3, ⟨s1, s2, s3⟩, h5, h6, h8, h9⟩, hC, ht⟩ := h
  refine ⟨⟨hr, hI, ⟨h2, ⟨by show 0 ≤ A.n - 1; omega, by show A.n - 1 ≤ 6; omega⟩, fun k a c => ?_⟩, ?_, by rw [hg 7 (by decide)]; exact h6, h8, by rw [hf 116 (by decide) (by decide)]; exact h9⟩, fun k q => (hf k (by omega) (by omega)).trans (hC k q), (hg 8 (by decide)).trans ht⟩
  · have c2 : k < A.n - 1 := c
    rw [hf 112 (by decide) (by decide)]
    exact s3 k a (by omega)
  · rw [hf 113 (by decide) (by decide), hf 114 (by decide) (by decide)]; exact h5
def TD (F : FF) (P : PB) : Prop := F 110 15 = P.1 ∧ ∀ i, 0 ≤ i → i < P.1 → F 119 i = P.2 i
def FrD (F F' : FF) : Prop := (∀ k, k ≠ 110 → k ≠ 119 → F' k = F k) ∧ ∀ i, i ≠ 15 → F' 110 i = F 110 i
theorem FrD.refl {F : FF} : FrD F F := ⟨fun _ _ _ => rfl, fun _ _ => rfl⟩
theorem FrD.trans {F G H : FF} (h1 : FrD F G) (h2 : FrD G H) : FrD F H := ⟨fun k a b => (h2.1 k a b).trans (h1.1 k a b), fun i a => (h2.2 i a).trans (h1.2 i a)⟩
theorem FrD.d {i z : Int} (h : FrD F G) : FrD F (up G 119 i z) := ⟨fun k a b => by rw [up_k b]; exact h.1 k a b, fun i a => by rw [up_k (by decide)]; exact h.2 i a⟩
theorem FrD.f {z : Int} (h : FrD F G) : FrD F (up G 110 15 z) := ⟨fun k a b => by rw [up_k a]; exact h.1 k a b, fun i a => by rw [up_j a]; exact h.2 i a⟩
theorem MJ.dr (h : MJ F G A t) (hf : FrD G G') : MJ F G' A t :=
  ⟨h.1.of (by rw [hf.1 111 (by decide) (by decide)]; exact h.1.r) (hf.2 2 (by decide)) (hf.2 7 (by decide)) (hf.1 112 (by decide) (by decide)) (hf.1 113 (by decide) (by decide)) (hf.1 114 (by decide) (by decide)) (hf.1 116 (by decide) (by decide)), fun k q => (hf.1 k (by omega) (by omega)).trans (h.2.1 k q), (hf.2 8 (by decide)).trans h.2.2⟩
theorem TD_em {P : PB} {c : Int} (h : TD F P) (h0 : 0 ≤ P.1) : TD (up (up F 119 P.1 c) 110 15 (P.1 + 1)) (em P c) := by
  refine ⟨up_eq, fun i a q => ?_⟩
  have q2 : i < P.1 + 1 := q
  rw [up_k (by decide)]
  show _ = if i = P.1 then c else P.2 i
  by_cases e : i = P.1
  · rw [if_pos e, e, up_eq]
  · rw [if_neg e, up_j e]; exact h.2 i a (by omega)
end MK
theorem emL_b0 {f : Int → Int} {P : PB} {k : Int} (h : k = 0) (h2 : 0 < P.1) : emN (em P 47) (f k) = emL f P (k + 1).toNat := by
  subst h
  exact emL_b (f := f) (P := P) (k := 0) (by decide) (by decide) h2
theorem emL_c0 {f : Int → Int} {P : PB} {k : Int} (h : k = 0) (h2 : ¬ 0 < P.1) : emN P (f k) = emL f P (k + 1).toNat := by
  subst h
  exact emL_c (f := f) (P := P) (k := 0) (by decide) (by decide) h2
theorem emN_b {P : PB} {x : Int} (h : (emN P x).1 ≤ 72) : P.1 + 1 ≤ 72 ∧ (10 ≤ x → P.1 + 2 ≤ 72) := by
  rw [emN_1] at h
  by_cases e : x < 10
  · rw [if_pos e] at h; omega
  · rw [if_neg e] at h; omega
theorem dl_end {G : FF} {P : PB} {r : Rw} {y k : Int} (h0 : 0 ≤ k) (hk : k = r y) (hT : TD G (if k = 0 then (if 0 < P.1 ∧ 0 < r y then em P 47 else P) else emL (wa r y) P k.toNat)) (hs : 0 ≤ r y) : TD G (emL (wa r y) P (r y).toNat) := by
  by_cases e : k = 0
  · rw [if_pos e, if_neg (by omega)] at hT
    rw [show (r y).toNat = 0 by omega]
    exact hT
  · rw [if_neg e] at hT
    rw [← hk]; exact hT

set_option maxRecDepth 100000 in
set_option maxHeartbeats 4000000 in
theorem k_X4_keep (l : Launch) {w : WP} {F : FF} {A : AS} {k : Int} (hM : MI F A) (hV : AV A) (hk : inR k) : Con l yX4_keep cX4_keep 3 (some .int) 1 w [.ref (adr w 110), .int (iI k)] F (QI w (fun z F' => (keepT A k = 0 ∧ z = keepZ A k ∧ MJ F F' (keepN A k) 0) ∨ (keepT A k ≠ 0 ∧ MJ F F' A (keepT A k)))) := by
  refine Con.mk (lv := [(0, .ref (adr w 110)), (1, .int (iI k))]) (by decide) (Nat.le_of_ble_eq_true rfl) rfl ?_
  intro pg ev s0 mi be me co C hz
  have hr : F 111 = A.r := hM.r
  have hI : Iv A.r := hM.iv
  have hJ := MJ.refl hM
  have hnb := hV.1
  unfold nb at hnb
  have hlr := hM.lr
  have hnr := hM.s.2.1
  obtain ⟨hk1, hk2⟩ := id hk
  refine q_aload_n C 0 dX4_keep_0 rfl ?_
  refine q_iconst C 0 dX4_keep_1 ?_
  refine q_put (T := TX4) (tyX := tyX4) (i := 8) (j := 8) (z := 0) (ty := .int) C rfl kd110 (by decide) rfl uws4 tyX4_ok nmX4 (by decide) (kd_ln.2.2.2.2 kd110) wd_873 rfl rfl rfl rfl (fsS_4_8 w _ _ _) (Nat.le_of_ble_eq_true rfl) dX4_keep_2 ?_
  have hJ1 := MJ.thr (z := 0) hJ
  have hr1 : (up F 110 8 0) 111 = A.r := hJ1.1.r
  refine q_iload_n C 1 dX4_keep_5 rfl ?_
  refine q_iconst C 0 dX4_keep_6 ?_
  refine q_iconst C 1 dX4_keep_7 ?_
  refine q_cI (q_runS (As := [.int (iI k), .int (iI 0), .int (iI 1)]) (rest := []) C (k_X4_in l (x := k) (a := 0) (b := 1) ⟨by omega, by omega⟩ ⟨by omega, by omega⟩ ⟨by omega, by omega⟩) wd_930 wd_929 wd_81 wd_928 nd_X4_in rfl (by decide) ⟨Nat.zero_le _, Nat.zero_le _⟩ rfl (Nat.le_of_ble_eq_true rfl) dX4_keep_8) ?_
  rintro z F' ⟨⟨rfl, hq8⟩ | ⟨rfl, hq8⟩, rfl⟩
  · refine q_if_ne C 20 dX4_keep_11 ⟨by decide, by decide⟩  (by decide) (fun _ => ?_) (fun h => absurd h (by decide))
    have hJ0 := hJ1
    refine q_iconst C 0 dX4_keep_20 ?_
    refine q_istore_n (lv' := [(2, .int (iI 0)), (0, .ref (adr w 110)), (1, .int (iI k))]) C dX4_keep_21 (by decide) rfl ?_
    refine q_lv (lv' := [(0, .ref (adr w 110)), (1, .int (iI k)), (2, .int (iI 0))]) [1, 2, 0] rfl ?_
    refine wf2 (P := fun (j : Int) (G : FF) => Wq pg l ev _ s0 mi _ be me co _ w _ _ _ 22 [(0, .ref (adr w 110)), (1, .int (iI k)), (2, .int (iI j))] [] G) (I := fun (j : Int) (G : FF) => 0 ≤ j ∧ j ≤ 182 ∧ G 113 = cpS (up F 110 8 0 113) k A.r j ∧ (∀ q, q ≠ 113 → G q = up F 110 8 0 q)) (μ := fun (j : Int) (G : FF) => (182 - j).toNat) ?_ 0 (up F 110 8 0) (⟨by omega, by omega, cpS_0, fun q _ => rfl⟩)
    intro j G hI' ih22
    (try dsimp only at hI'); (try dsimp only at ih22); (try dsimp only)
    obtain ⟨hj0, hj1, hGc, hGf⟩ := hI'
    have hrG : G 111 = A.r := (hGf 111 (by decide)).trans hJ0.1.r
    refine q_iload_n C 2 dX4_keep_22 rfl ?_
    refine q_sipush C 182 dX4_keep_23 (by decide) ?_
    refine q_icmp_ge C 53 dX4_keep_26 ⟨by omega, by omega⟩ ⟨by decide, by decide⟩ (by decide) (fun h26 => ?_) (fun h26 => ?_)
    · refine q_aload_n C 0 dX4_keep_53 rfl ?_
      refine q_get (T := TX4) (i := 4) C kd110 (by decide) rfl uws4 (by decide) wd_869 rfl dX4_keep_54 ?_
      refine q_iload_n C 1 dX4_keep_57 rfl ?_
      refine q_iconst C 1 dX4_keep_58 ?_
      refine q_zast C kd114 ⟨by omega, by rw [ln114]; omega⟩ (by omega) dX4_keep_59 ?_
      have hJ2 := MJ.kee hJ0 ⟨by omega, by omega⟩ (show j = 182 by omega) hGc hGf
      have hr2 : (up G 114 k 1) 111 = A.r := hJ2.1.r
      refine q_aload_n C 0 dX4_keep_60 rfl ?_
      refine q_cI (q_runV (As := []) (rest := []) C (k_X4_inBag l hr2 hI ) kd110 (by decide) rfl wd_1143 wd_1142 wd_57 wd_81 wd_1140 nd_X4_inBag rfl (by decide) ⟨Nat.zero_le _, Nat.zero_le _⟩ rfl (Nat.le_of_ble_eq_true rfl) dX4_keep_61) ?_
      rintro z F' ⟨rfl, rfl⟩
      have q61 := bg_range hI
      refine q_iret C dX4_keep_64 ?_
      exact Or.inl ⟨(by unfold keepT; rw [if_neg (by omega)]), rfl, hJ2⟩
    · refine q_aload_n C 0 dX4_keep_29 rfl ?_
      refine q_get (T := TX4) (i := 3) C kd110 (by decide) rfl uws4 (by decide) wd_868 rfl dX4_keep_30 ?_
      refine q_sipush C 182 dX4_keep_33 (by decide) ?_
      refine q_iload_n C 1 dX4_keep_36 rfl ?_
      refine q_imul C dX4_keep_37 ?_
      refine q_iload_n C 2 dX4_keep_38 rfl ?_
      refine q_iadd C dX4_keep_39 ?_
      refine q_aload_n C 0 dX4_keep_40 rfl ?_
      refine q_get (T := TX4) (i := 0) C kd110 (by decide) rfl uws4 (by decide) wd_865 rfl dX4_keep_41 ?_
      refine q_iload_n C 2 dX4_keep_44 rfl ?_
      refine q_iald C kd111 ⟨by omega, by rw [ln111]; omega⟩ dX4_keep_45 ?_
      refine q_top (z' := A.r j) ((congrFun hrG _).trans (congrArg A.r (by omega))) ?_
      refine q_iast C kd113 ⟨by omega, by rw [ln113]; omega⟩ dX4_keep_46 ?_
      refine q_iinc (lv' := [(2, .int (iI (j + 1))), (0, .ref (adr w 110)), (1, .int (iI k))]) C 2 dX4_keep_47 rfl (by decide) rfl ?_
      refine q_goto C 22 dX4_keep_50 (by decide) ?_
      refine q_lv (lv' := [(0, .ref (adr w 110)), (1, .int (iI k)), (2, .int (iI (j + 1)))]) [1, 2, 0] rfl ?_
      exact ih22 (j + 1) (up G 113 ((182 * k) + j) (A.r j)) (⟨by omega, by omega, by rw [ru_a, hGc]; exact cpS_s (by omega), fun q a => by rw [up_k a]; exact hGf q a⟩) (by omega)
  · refine q_if_ne C 20 dX4_keep_11 ⟨by decide, by decide⟩  (by decide) (fun h => absurd h (by decide)) (fun _ => ?_)
    refine q_aload_n C 0 dX4_keep_14 rfl ?_
    refine q_iconst C 1 dX4_keep_15 ?_
    refine q_cI (q_runV (As := [.int (iI 1)]) (rest := []) C (k_X4_fails (F := (up F 110 8 0)) l (x := 1)) kd110 (by decide) rfl wd_940 wd_939 wd_23 wd_81 wd_937 nd_X4_fails rfl (by decide) ⟨Nat.zero_le _, Nat.zero_le _⟩ rfl (Nat.le_of_ble_eq_true rfl) dX4_keep_16) ?_
    rintro z F9 ⟨hz9, hF9⟩
    subst hz9
    subst hF9
    have hJf := MJ.thr (z := 1) hJ1
    refine q_iret C dX4_keep_19 ?_
    have hT : keepT A k = 1 := (by unfold keepT; rw [if_pos (by omega)])
    exact Or.inr ⟨by rw [hT]; decide, by rw [hT]; exact hJf⟩

set_option maxRecDepth 100000 in
set_option maxHeartbeats 4000000 in
theorem k_X4_goBack (l : Launch) {w : WP} {F : FF} {A : AS} {k : Int} (hM : MI F A) (hV : AV A) (hk : inR k) : Con l yX4_goBack cX4_goBack 3 (some .int) 1 w [.ref (adr w 110), .int (iI k)] F (QI w (fun z F' => (goBackT A k = 0 ∧ z = goBackZ A k ∧ MJ F F' (goBackN A k) 0) ∨ (goBackT A k ≠ 0 ∧ MJ F F' A (goBackT A k)))) := by
  refine Con.mk (lv := [(0, .ref (adr w 110)), (1, .int (iI k))]) (by decide) (Nat.le_of_ble_eq_true rfl) rfl ?_
  intro pg ev s0 mi be me co C hz
  have hr : F 111 = A.r := hM.r
  have hI : Iv A.r := hM.iv
  have hJ := MJ.refl hM
  have hnb := hV.1
  unfold nb at hnb
  have hlr := hM.lr
  have hnr := hM.s.2.1
  obtain ⟨hk1, hk2⟩ := id hk
  refine q_aload_n C 0 dX4_goBack_0 rfl ?_
  refine q_iconst C 0 dX4_goBack_1 ?_
  refine q_put (T := TX4) (tyX := tyX4) (i := 8) (j := 8) (z := 0) (ty := .int) C rfl kd110 (by decide) rfl uws4 tyX4_ok nmX4 (by decide) (kd_ln.2.2.2.2 kd110) wd_873 rfl rfl rfl rfl (fsS_4_8 w _ _ _) (Nat.le_of_ble_eq_true rfl) dX4_goBack_2 ?_
  have hJ1 := MJ.thr (z := 0) hJ
  have hr1 : (up F 110 8 0) 111 = A.r := hJ1.1.r
  refine q_iload_n C 1 dX4_goBack_5 rfl ?_
  refine q_iconst C 0 dX4_goBack_6 ?_
  refine q_iconst C 1 dX4_goBack_7 ?_
  refine q_cI (q_runS (As := [.int (iI k), .int (iI 0), .int (iI 1)]) (rest := []) C (k_X4_in l (x := k) (a := 0) (b := 1) ⟨by omega, by omega⟩ ⟨by omega, by omega⟩ ⟨by omega, by omega⟩) wd_930 wd_929 wd_81 wd_928 nd_X4_in rfl (by decide) ⟨Nat.zero_le _, Nat.zero_le _⟩ rfl (Nat.le_of_ble_eq_true rfl) dX4_goBack_8) ?_
  rintro z F' ⟨⟨rfl, hq8⟩ | ⟨rfl, hq8⟩, rfl⟩
  · refine q_if_ne C 20 dX4_goBack_11 ⟨by decide, by decide⟩  (by decide) (fun _ => ?_) (fun h => absurd h (by decide))
    refine q_aload_n C 0 dX4_goBack_20 rfl ?_
    refine q_get (T := TX4) (i := 4) C kd110 (by decide) rfl uws4 (by decide) wd_869 rfl dX4_goBack_21 ?_
    refine q_iload_n C 1 dX4_goBack_24 rfl ?_
    refine q_zald C kd114 ⟨by omega, by rw [ln114]; omega⟩ dX4_goBack_25 ?_
    obtain ⟨hk114, hk01, hk9⟩ := hJ1.1.k (k := k) (by omega) (by omega)
    refine q_top (z' := A.kp k) hk114 ?_
    refine q_if_ne C 35 dX4_goBack_26 ⟨by omega, by omega⟩  (by decide) (fun h26 => ?_) (fun h26 => ?_)
    · refine q_aload_n C 0 dX4_goBack_35 rfl ?_
      refine q_cV (q_runV (As := []) (rest := []) C (k_X4_save (F := (up F 110 8 0)) l hr1 hI hJ1.1.s) kd110 (by decide) rfl wd_952 wd_951 wd_26 wd_81 wd_949 nd_X4_save rfl (by decide) ⟨Nat.zero_le _, Nat.zero_le _⟩ rfl (Nat.le_of_ble_eq_true rfl) dX4_goBack_36) ?_
      rintro G2 ⟨hSG2, hEG2, hfG2⟩
      have hJG2 := MJ.sav hJ1 hSG2 hEG2 hfG2
      have hJ0 := hJG2
      have hq1 := hJ0.1.k (k := k) (by omega) (by omega)
      have hIs : Iv (A.sl k) := (hq1.2.2 (show A.kp k = 1 by omega)).1
      have hsl : ∀ j, 0 ≤ j → j < 182 → G2 113 (182 * k + j) = A.sl k j := (hq1.2.2 (show A.kp k = 1 by omega)).2
      refine q_iconst C 0 dX4_goBack_39 ?_
      refine q_istore_n (lv' := [(2, .int (iI 0)), (0, .ref (adr w 110)), (1, .int (iI k))]) C dX4_goBack_40 (by decide) rfl ?_
      refine q_lv (lv' := [(0, .ref (adr w 110)), (1, .int (iI k)), (2, .int (iI 0))]) [1, 2, 0] rfl ?_
      refine wf2 (P := fun (j : Int) (G : FF) => Wq pg l ev _ s0 mi _ be me co _ w _ _ _ 41 [(0, .ref (adr w 110)), (1, .int (iI k)), (2, .int (iI j))] [] G) (I := fun (j : Int) (G : FF) => 0 ≤ j ∧ j ≤ 182 ∧ G 111 = c0 A.r (A.sl k) j ∧ FrW G2 G) (μ := fun (j : Int) (G : FF) => (182 - j).toNat) ?_ 0 G2 (⟨by omega, by omega, hEG2.trans c0_0, FrW.refl⟩)
      intro j G hI' ih41
      (try dsimp only at hI'); (try dsimp only at ih41); (try dsimp only)
      obtain ⟨hj0, hj1, hGc, hGf⟩ := hI'
      refine q_iload_n C 2 dX4_goBack_41 rfl ?_
      refine q_sipush C 182 dX4_goBack_42 (by decide) ?_
      refine q_icmp_ge C 72 dX4_goBack_45 ⟨by omega, by omega⟩ ⟨by decide, by decide⟩ (by decide) (fun h45 => ?_) (fun h45 => ?_)
      · have hrE : G 111 = A.sl k := by rw [hGc, show j = 182 by omega]; exact c0_182 hI hIs
        have hJE := MJ.wr hJ0 hrE hIs hGf
        refine q_aload_n C 0 dX4_goBack_72 rfl ?_
        refine q_cI (q_runV (As := []) (rest := []) C (k_X4_inBag l hrE hIs ) kd110 (by decide) rfl wd_1143 wd_1142 wd_57 wd_81 wd_1140 nd_X4_inBag rfl (by decide) ⟨Nat.zero_le _, Nat.zero_le _⟩ rfl (Nat.le_of_ble_eq_true rfl) dX4_goBack_73) ?_
        rintro z F' ⟨rfl, rfl⟩
        have q73 := bg_range hIs
        refine q_iret C dX4_goBack_76 ?_
        exact Or.inl ⟨(by unfold goBackT; rw [if_neg (by omega), if_neg (by omega)]), rfl, hJE⟩
      · refine q_aload_n C 0 dX4_goBack_48 rfl ?_
        refine q_get (T := TX4) (i := 0) C kd110 (by decide) rfl uws4 (by decide) wd_865 rfl dX4_goBack_49 ?_
        refine q_iload_n C 2 dX4_goBack_52 rfl ?_
        refine q_aload_n C 0 dX4_goBack_53 rfl ?_
        refine q_get (T := TX4) (i := 3) C kd110 (by decide) rfl uws4 (by decide) wd_868 rfl dX4_goBack_54 ?_
        refine q_sipush C 182 dX4_goBack_57 (by decide) ?_
        refine q_iload_n C 1 dX4_goBack_60 rfl ?_
        refine q_imul C dX4_goBack_61 ?_
        refine q_iload_n C 2 dX4_goBack_62 rfl ?_
        refine q_iadd C dX4_goBack_63 ?_
        refine q_iald C kd113 ⟨by omega, by rw [ln113]; omega⟩ dX4_goBack_64 ?_
        refine q_top (z' := A.sl k j) ((congrFun (hGf 113 (by decide)) _).trans (hsl j (by omega) (by omega))) ?_
        refine q_iast C kd111 ⟨by omega, by rw [ln111]; omega⟩ dX4_goBack_65 ?_
        refine q_iinc (lv' := [(2, .int (iI (j + 1))), (0, .ref (adr w 110)), (1, .int (iI k))]) C 2 dX4_goBack_66 rfl (by decide) rfl ?_
        refine q_goto C 41 dX4_goBack_69 (by decide) ?_
        refine q_lv (lv' := [(0, .ref (adr w 110)), (1, .int (iI k)), (2, .int (iI (j + 1)))]) [1, 2, 0] rfl ?_
        exact ih41 (j + 1) (up G 111 j (A.sl k j)) (⟨by omega, by omega, by rw [ru_a, hGc]; exact c0_s (by omega), FrW.up hGf⟩) (by omega)
    · refine q_aload_n C 0 dX4_goBack_29 rfl ?_
      refine q_iconst C 2 dX4_goBack_30 ?_
      refine q_cI (q_runV (As := [.int (iI 2)]) (rest := []) C (k_X4_fails (F := (up F 110 8 0)) l (x := 2)) kd110 (by decide) rfl wd_940 wd_939 wd_23 wd_81 wd_937 nd_X4_fails rfl (by decide) ⟨Nat.zero_le _, Nat.zero_le _⟩ rfl (Nat.le_of_ble_eq_true rfl) dX4_goBack_31) ?_
      rintro z F9 ⟨hz9, hF9⟩
      subst hz9
      subst hF9
      have hJf := MJ.thr (z := 2) hJ1
      refine q_iret C dX4_goBack_34 ?_
      have hT : goBackT A k = 2 := (by unfold goBackT; rw [if_neg (by omega), if_pos (by omega)])
      exact Or.inr ⟨by rw [hT]; decide, by rw [hT]; exact hJf⟩
  · refine q_if_ne C 20 dX4_goBack_11 ⟨by decide, by decide⟩  (by decide) (fun h => absurd h (by decide)) (fun _ => ?_)
    refine q_aload_n C 0 dX4_goBack_14 rfl ?_
    refine q_iconst C 1 dX4_goBack_15 ?_
    refine q_cI (q_runV (As := [.int (iI 1)]) (rest := []) C (k_X4_fails (F := (up F 110 8 0)) l (x := 1)) kd110 (by decide) rfl wd_940 wd_939 wd_23 wd_81 wd_937 nd_X4_fails rfl (by decide) ⟨Nat.zero_le _, Nat.zero_le _⟩ rfl (Nat.le_of_ble_eq_true rfl) dX4_goBack_16) ?_
    rintro z F9 ⟨hz9, hF9⟩
    subst hz9
    subst hF9
    have hJf := MJ.thr (z := 1) hJ1
    refine q_iret C dX4_goBack_19 ?_
    have hT : goBackT A k = 1 := (by unfold goBackT; rw [if_pos (by omega)])
    exact Or.inr ⟨by rw [hT]; decide, by rw [hT]; exact hJf⟩

set_option maxRecDepth 100000 in
set_option maxHeartbeats 4000000 in
theorem k_X4_undo (l : Launch) {w : WP} {F : FF} {A : AS} (hM : MI F A) (hV : AV A)  : Con l yX4_undo cX4_undo 2 (some .int) 1 w [.ref (adr w 110)] F (QI w (fun z F' => (undoT A = 0 ∧ z = undoZ A ∧ MJ F F' (undoN A) 0) ∨ (undoT A ≠ 0 ∧ MJ F F' A (undoT A)))) := by
  refine Con.mk (lv := [(0, .ref (adr w 110))]) (by decide) (Nat.le_of_ble_eq_true rfl) rfl ?_
  intro pg ev s0 mi be me co C hz
  have hr : F 111 = A.r := hM.r
  have hI : Iv A.r := hM.iv
  have hJ := MJ.refl hM
  have hnb := hV.1
  unfold nb at hnb
  have hlr := hM.lr
  have hnr := hM.s.2.1
  refine q_aload_n C 0 dX4_undo_0 rfl ?_
  refine q_iconst C 0 dX4_undo_1 ?_
  refine q_put (T := TX4) (tyX := tyX4) (i := 8) (j := 8) (z := 0) (ty := .int) C rfl kd110 (by decide) rfl uws4 tyX4_ok nmX4 (by decide) (kd_ln.2.2.2.2 kd110) wd_873 rfl rfl rfl rfl (fsS_4_8 w _ _ _) (Nat.le_of_ble_eq_true rfl) dX4_undo_2 ?_
  have hJ1 := MJ.thr (z := 0) hJ
  have hr1 : (up F 110 8 0) 111 = A.r := hJ1.1.r
  refine q_aload_n C 0 dX4_undo_5 rfl ?_
  refine q_get (T := TX4) (i := 2) C kd110 (by decide) rfl uws4 (by decide) wd_867 rfl dX4_undo_6 ?_
  refine q_top (z' := A.n) (hJ1.1.s.1) ?_
  refine q_if_ne C 18 dX4_undo_9 ⟨by omega, by omega⟩  (by decide) (fun h9 => ?_) (fun h9 => ?_)
  · have hJ0 := hJ1
    refine q_aload_n C 0 dX4_undo_18 rfl ?_
    refine q_dup C dX4_undo_19 rfl ?_
    refine q_get (T := TX4) (i := 2) C kd110 (by decide) rfl uws4 (by decide) wd_867 rfl dX4_undo_20 ?_
    refine q_top (z' := A.n) (hJ1.1.s.1) ?_
    refine q_iconst C 1 dX4_undo_23 ?_
    refine q_isub C dX4_undo_24 ?_
    refine q_put (T := TX4) (tyX := tyX4) (i := 2) (j := 2) (z := (A.n - 1)) (ty := .int) C rfl kd110 (by decide) rfl uws4 tyX4_ok nmX4 (by decide) (kd_ln.2.2.2.2 kd110) wd_867 rfl rfl rfl rfl (fsS_4_2 w _ _ _) (Nat.le_of_ble_eq_true rfl) dX4_undo_25 ?_
    have hr2 : (up (up F 110 8 0) 110 2 (A.n - 1)) 111 = A.r := (up_k (by decide)).trans hJ0.1.r
    refine q_iconst C 0 dX4_undo_28 ?_
    refine q_istore_n (lv' := [(1, .int (iI 0)), (0, .ref (adr w 110))]) C dX4_undo_29 (by decide) rfl ?_
    refine q_lv (lv' := [(0, .ref (adr w 110)), (1, .int (iI 0))]) [1, 0] rfl ?_
    refine wf2 (P := fun (j : Int) (G : FF) => Wq pg l ev _ s0 mi _ be me co _ w _ _ _ 30 [(0, .ref (adr w 110)), (1, .int (iI j))] [] G) (I := fun (j : Int) (G : FF) => 0 ≤ j ∧ j ≤ 182 ∧ G 111 = c0 A.r (A.sv (A.n - 1)) j ∧ FrW (up (up F 110 8 0) 110 2 (A.n - 1)) G) (μ := fun (j : Int) (G : FF) => (182 - j).toNat) ?_ 0 (up (up F 110 8 0) 110 2 (A.n - 1)) (⟨by omega, by omega, hr2.trans c0_0, FrW.refl⟩)
    intro j G hI' ih30
    (try dsimp only at hI'); (try dsimp only at ih30); (try dsimp only)
    obtain ⟨hj0, hj1, hGc, hGf⟩ := hI'
    refine q_iload_n C 1 dX4_undo_30 rfl ?_
    refine q_sipush C 182 dX4_undo_31 (by decide) ?_
    refine q_icmp_ge C 64 dX4_undo_34 ⟨by omega, by omega⟩ ⟨by decide, by decide⟩ (by decide) (fun h34 => ?_) (fun h34 => ?_)
    · have hIs := (hJ0.1.s.2.2 (A.n - 1) (by omega) (by omega)).1
      have hrE : G 111 = A.sv (A.n - 1) := by rw [hGc, show j = 182 by omega]; exact c0_182 hI hIs
      have hJE := MJ.und hJ0 (by omega) hrE hIs ((congrFun (hGf 110 (by decide)) 2).trans up_eq) (fun q a c => (hGf q c).trans (up_k a)) (fun i a => (congrFun (hGf 110 (by decide)) i).trans (up_j a))
      refine q_aload_n C 0 dX4_undo_64 rfl ?_
      refine q_get (T := TX4) (i := 2) C kd110 (by decide) rfl uws4 (by decide) wd_867 rfl dX4_undo_65 ?_
      refine q_top (z' := A.n - 1) ((congrFun (hGf 110 (by decide)) 2).trans up_eq) ?_
      refine q_iret C dX4_undo_68 ?_
      exact Or.inl ⟨(by unfold undoT; rw [if_neg (by omega)]), rfl, hJE⟩
    · refine q_aload_n C 0 dX4_undo_37 rfl ?_
      refine q_get (T := TX4) (i := 0) C kd110 (by decide) rfl uws4 (by decide) wd_865 rfl dX4_undo_38 ?_
      refine q_iload_n C 1 dX4_undo_41 rfl ?_
      refine q_aload_n C 0 dX4_undo_42 rfl ?_
      refine q_get (T := TX4) (i := 1) C kd110 (by decide) rfl uws4 (by decide) wd_866 rfl dX4_undo_43 ?_
      refine q_sipush C 182 dX4_undo_46 (by decide) ?_
      refine q_aload_n C 0 dX4_undo_49 rfl ?_
      refine q_get (T := TX4) (i := 2) C kd110 (by decide) rfl uws4 (by decide) wd_867 rfl dX4_undo_50 ?_
      refine q_top (z' := A.n - 1) ((congrFun (hGf 110 (by decide)) 2).trans up_eq) ?_
      refine q_imul C dX4_undo_53 ?_
      refine q_iload_n C 1 dX4_undo_54 rfl ?_
      refine q_iadd C dX4_undo_55 ?_
      refine q_iald C kd112 ⟨by omega, by rw [ln112]; omega⟩ dX4_undo_56 ?_
      refine q_top (z' := A.sv (A.n - 1) j) ((congrFun (hGf 112 (by decide)) _).trans ((congrFun (up_k (by decide)) _).trans ((hJ0.1.s.2.2 (A.n - 1) (by omega) (by omega)).2 j (by omega) (by omega)))) ?_
      refine q_iast C kd111 ⟨by omega, by rw [ln111]; omega⟩ dX4_undo_57 ?_
      refine q_iinc (lv' := [(1, .int (iI (j + 1))), (0, .ref (adr w 110))]) C 1 dX4_undo_58 rfl (by decide) rfl ?_
      refine q_goto C 30 dX4_undo_61 (by decide) ?_
      refine q_lv (lv' := [(0, .ref (adr w 110)), (1, .int (iI (j + 1)))]) [1, 0] rfl ?_
      exact ih30 (j + 1) (up G 111 j (A.sv (A.n - 1) j)) (⟨by omega, by omega, by rw [ru_a, hGc]; exact c0_s (by omega), FrW.up hGf⟩) (by omega)
  · refine q_aload_n C 0 dX4_undo_12 rfl ?_
    refine q_iconst C 1 dX4_undo_13 ?_
    refine q_cI (q_runV (As := [.int (iI 1)]) (rest := []) C (k_X4_fails (F := (up F 110 8 0)) l (x := 1)) kd110 (by decide) rfl wd_940 wd_939 wd_23 wd_81 wd_937 nd_X4_fails rfl (by decide) ⟨Nat.zero_le _, Nat.zero_le _⟩ rfl (Nat.le_of_ble_eq_true rfl) dX4_undo_14) ?_
    rintro z F9 ⟨hz9, hF9⟩
    subst hz9
    subst hF9
    have hJf := MJ.thr (z := 1) hJ1
    refine q_iret C dX4_undo_17 ?_
    have hT : undoT A = 1 := (by unfold undoT; rw [if_pos (by omega)])
    exact Or.inr ⟨by rw [hT]; decide, by rw [hT]; exact hJf⟩

set_option maxRecDepth 100000 in
set_option maxHeartbeats 4000000 in
theorem k_X4_digest (l : Launch) {w : WP} {F : FF} {A : AS} (hM : MI F A) (hV : AV A)  : Con l yX4_digest cX4_digest 3 (some .long) 12 w [.ref (adr w 110)] F (QL w (fun z F' => z = dig A ∧ MJ F F' A 0)) := by
  refine Con.mk (lv := [(0, .ref (adr w 110))]) (by decide) (Nat.le_of_ble_eq_true rfl) rfl ?_
  intro pg ev s0 mi be me co C hz
  have hr : F 111 = A.r := hM.r
  have hI : Iv A.r := hM.iv
  have hJ := MJ.refl hM
  have hnb := hV.1
  unfold nb at hnb
  have hlr := hM.lr
  have hnr := hM.s.2.1
  have hbg := bg_range hI
  refine q_aload_n C 0 dX4_digest_0 rfl ?_
  refine q_iconst C 0 dX4_digest_1 ?_
  refine q_put (T := TX4) (tyX := tyX4) (i := 8) (j := 8) (z := 0) (ty := .int) C rfl kd110 (by decide) rfl uws4 tyX4_ok nmX4 (by decide) (kd_ln.2.2.2.2 kd110) wd_873 rfl rfl rfl rfl (fsS_4_8 w _ _ _) (Nat.le_of_ble_eq_true rfl) dX4_digest_2 ?_
  have hJ1 := MJ.thr (z := 0) hJ
  have hr1 : (up F 110 8 0) 111 = A.r := hJ1.1.r
  refine q_aload_n C 0 dX4_digest_5 rfl ?_
  refine q_ldc2 C 3391 rfl wd_1264 dX4_digest_6 ?_
  refine q_put (T := TX4) (tyX := tyX4) (i := 16) (j := 16) (z := 3391) (ty := .long) C rfl kd110 (by decide) rfl uws4 tyX4_ok nmX4 (by decide) (kd_ln.2.2.2.2 kd110) wd_881 rfl rfl rfl rfl (fsS_4_16 w _ _ _) (Nat.le_of_ble_eq_true rfl) dX4_digest_9 ?_
  have hJ0 := MJ.fld (i := 16) (z := 3391) hJ1 ⟨by decide, by decide, by decide⟩
  have hr0 : (up (up F 110 8 0) 110 16 3391) 111 = A.r := hJ0.1.r
  refine q_iconst C 0 dX4_digest_12 ?_
  refine q_istore_n (lv' := [(1, .int (iI 0)), (0, .ref (adr w 110))]) C dX4_digest_13 (by decide) rfl ?_
  refine q_lv (lv' := [(0, .ref (adr w 110)), (1, .int (iI 0))]) [1, 0] rfl ?_
  refine wf2 (P := fun (i : Int) (G : FF) => Wq pg l ev _ s0 mi _ be me co _ w _ _ _ 14 [(0, .ref (adr w 110)), (1, .int (iI i))] [] G) (I := fun (i : Int) (G : FF) => 0 ≤ i ∧ i ≤ 9 ∧ G 111 = A.r ∧ FrX (up (up F 110 8 0) 110 16 3391) G ∧ G 110 16 = hP (cntv A) 3391 i) (μ := fun (i : Int) (G : FF) => (9 - i).toNat) ?_ 0 (up (up F 110 8 0) 110 16 3391) (⟨by omega, by omega, hr0, FrX.refl, up_eq⟩)
  intro i G hI' ih14
  (try dsimp only at hI'); (try dsimp only at ih14); (try dsimp only)
  obtain ⟨hi0, hi1, hrG, hfG, hhG⟩ := hI'
  have hJG := MJ.hx hJ0 hrG hfG
  refine q_iload_n C 1 dX4_digest_14 rfl ?_
  refine q_bipush C 9 dX4_digest_15 (by decide) ?_
  refine q_icmp_ge C 36 dX4_digest_17 ⟨by omega, by omega⟩ ⟨by decide, by decide⟩ (by decide) (fun h17 => ?_) (fun h17 => ?_)
  · refine q_iconst C 0 dX4_digest_36 ?_
    refine q_istore_n (lv' := [(1, .int (iI 0)), (0, .ref (adr w 110))]) C dX4_digest_37 (by decide) rfl ?_
    refine q_lv (lv' := [(0, .ref (adr w 110)), (1, .int (iI 0))]) [1, 0] rfl ?_
    refine wf2 (P := fun (j : Int) (G3 : FF) => Wq pg l ev _ s0 mi _ be me co _ w _ _ _ 38 [(0, .ref (adr w 110)), (1, .int (iI j))] [] G3) (I := fun (j : Int) (G3 : FF) => 0 ≤ j ∧ j ≤ 3 ∧ G3 111 = A.r ∧ FrX (up (up F 110 8 0) 110 16 3391) G3 ∧ G3 110 16 = hP (fun k => A.r (176 + k)) (dg1 A) j) (μ := fun (j : Int) (G3 : FF) => (3 - j).toNat) ?_ 0 G (⟨by omega, by omega, hrG, hfG, by rw [hhG, show i = 9 by omega]; rfl⟩)
    intro j G3 hI' ih38
    (try dsimp only at hI'); (try dsimp only at ih38); (try dsimp only)
    obtain ⟨hj0, hj1, hrG3, hfG3, hhG3⟩ := hI'
    have hJG3 := MJ.hx hJ0 hrG3 hfG3
    refine q_iload_n C 1 dX4_digest_38 rfl ?_
    refine q_iconst C 3 dX4_digest_39 ?_
    refine q_icmp_ge C 64 dX4_digest_40 ⟨by omega, by omega⟩ ⟨by decide, by decide⟩ (by decide) (fun h40 => ?_) (fun h40 => ?_)
    · refine q_iconst C 0 dX4_digest_64 ?_
      refine q_istore_n (lv' := [(1, .int (iI 0)), (0, .ref (adr w 110))]) C dX4_digest_65 (by decide) rfl ?_
      refine q_lv (lv' := [(0, .ref (adr w 110)), (1, .int (iI 0))]) [1, 0] rfl ?_
      refine wf2 (P := fun (x : Int) (G4 : FF) => Wq pg l ev _ s0 mi _ be me co _ w _ _ _ 66 [(0, .ref (adr w 110)), (1, .int (iI x))] [] G4) (I := fun (x : Int) (G4 : FF) => 0 ≤ x ∧ x ≤ 40 ∧ G4 111 = A.r ∧ FrX (up (up F 110 8 0) 110 16 3391) G4 ∧ G4 110 16 = it (fun h x => hP (fun k => wpr A.r x (3 + k)) h 4) (dg2 A) x.toNat) (μ := fun (x : Int) (G4 : FF) => (40 - x).toNat) ?_ 0 G3 (⟨by omega, by omega, hrG3, hfG3, by rw [hhG3, show j = 3 by omega]; rfl⟩)
      intro x G4 hI' ih66
      (try dsimp only at hI'); (try dsimp only at ih66); (try dsimp only)
      obtain ⟨hx0, hx1, hrG4, hfG4, hhG4⟩ := hI'
      have hJG4 := MJ.hx hJ0 hrG4 hfG4
      refine q_iload_n C 1 dX4_digest_66 rfl ?_
      refine q_bipush C 40 dX4_digest_67 (by decide) ?_
      refine q_icmp_ge C 103 dX4_digest_69 ⟨by omega, by omega⟩ ⟨by decide, by decide⟩ (by decide) (fun h69 => ?_) (fun h69 => ?_)
      · refine q_iconst C 0 dX4_digest_103 ?_
        refine q_istore_n (lv' := [(1, .int (iI 0)), (0, .ref (adr w 110))]) C dX4_digest_104 (by decide) rfl ?_
        refine q_lv (lv' := [(0, .ref (adr w 110)), (1, .int (iI 0))]) [1, 0] rfl ?_
        refine wf2 (P := fun (d : Int) (G6 : FF) => Wq pg l ev _ s0 mi _ be me co _ w _ _ _ 105 [(0, .ref (adr w 110)), (1, .int (iI d))] [] G6) (I := fun (d : Int) (G6 : FF) => 0 ≤ d ∧ d ≤ 4 ∧ G6 111 = A.r ∧ FrX (up (up F 110 8 0) 110 16 3391) G6 ∧ G6 110 16 = it (fun h d => hDn A.r (ngs A.r (3 : Int).toNat) h d) (dg3 A) d.toNat) (μ := fun (d : Int) (G6 : FF) => (4 - d).toNat) ?_ 0 G4 (⟨by omega, by omega, hrG4, hfG4, by rw [hhG4, show x = 40 by omega]; rfl⟩)
        intro d G6 hI' ih105
        (try dsimp only at hI'); (try dsimp only at ih105); (try dsimp only)
        obtain ⟨hd0, hd1, hrG6, hfG6, hhG6⟩ := hI'
        have hJG6 := MJ.hx hJ0 hrG6 hfG6
        refine q_iload_n C 1 dX4_digest_105 rfl ?_
        refine q_iconst C 4 dX4_digest_106 ?_
        refine q_icmp_ge C 121 dX4_digest_107 ⟨by omega, by omega⟩ ⟨by decide, by decide⟩ (by decide) (fun h107 => ?_) (fun h107 => ?_)
        · refine q_aload_n C 0 dX4_digest_121 rfl ?_
          refine q_aload_n C 0 dX4_digest_122 rfl ?_
          refine q_cI (q_runV (As := []) (rest := [.ref (adr w 110)]) C (k_X4_preyNow l hrG6 hI ) kd110 (by decide) rfl wd_1048 wd_1047 wd_41 wd_81 wd_1045 nd_X4_preyNow rfl (by decide) ⟨Nat.zero_le _, Nat.zero_le _⟩ rfl (Nat.le_of_ble_eq_true rfl) dX4_digest_123) ?_
          rintro z F' ⟨rfl, rfl⟩
          have q123 := py_range hI
          refine q_i2l C dX4_digest_126 ?_
          refine q_cV (q_runV (As := [.long (iL (wI (py A.r)))]) (rest := []) C (k_X4_mix (F := G6) l (x := wI (py A.r))) kd110 (by decide) rfl wd_1268 wd_1267 wd_73 wd_81 wd_1265 nd_X4_mix rfl (by decide) ⟨Nat.zero_le _, Nat.zero_le _⟩ rfl (Nat.le_of_ble_eq_true rfl) dX4_digest_127) ?_
          rintro F9 hF9
          subst hF9
          have hr3 : (up G6 110 16 (31 * G6 110 16 + (wI (py A.r)))) 111 = A.r := (up_k (by decide)).trans hrG6
          have hf3 := FrX.up16 (z := 31 * G6 110 16 + (wI (py A.r))) hfG6
          have hh3 : (up G6 110 16 (31 * G6 110 16 + (wI (py A.r)))) 110 16 = 31 * (it (fun h d => hDn A.r (ngs A.r (3 : Int).toNat) h d) (dg3 A) d.toNat) + (wI (py A.r)) := by rw [up_eq, hhG6]
          refine q_aload_n C 0 dX4_digest_130 rfl ?_
          refine q_aload_n C 0 dX4_digest_131 rfl ?_
          refine q_cD (q_runV (As := []) (rest := [.ref (adr w 110)]) C (k_X4_share l hr3 hI ) kd110 (by decide) rfl wd_1258 wd_1257 wd_72 wd_81 wd_1255 nd_X4_share rfl (by decide) ⟨Nat.zero_le _, Nat.zero_le _⟩ rfl (Nat.le_of_ble_eq_true rfl) dX4_digest_132) ?_
          rintro z F' ⟨rfl, rfl⟩
          refine q_cL (q_runS (As := [.double (shr (40 - bg A.r))]) (rest := [.ref (adr w 110)]) C (k_Jxe99ae_doubleToLongBits_ccdee l (x := 40 - bg A.r) ⟨by omega, by omega⟩) wd_1280 wd_1279 wd_88 wd_1278 nd_Jxe99ae_doubleToLongBits_ccdee rfl (by decide) ⟨Nat.zero_le _, Nat.zero_le _⟩ rfl (Nat.le_of_ble_eq_true rfl) dX4_digest_135) ?_
          rintro z F' ⟨rfl, rfl⟩
          refine q_cV (q_runV (As := [.long (iL (shB (40 - bg A.r)))]) (rest := []) C (k_X4_mix (F := (up G6 110 16 (31 * G6 110 16 + (wI (py A.r))))) l (x := shB (40 - bg A.r))) kd110 (by decide) rfl wd_1268 wd_1267 wd_73 wd_81 wd_1265 nd_X4_mix rfl (by decide) ⟨Nat.zero_le _, Nat.zero_le _⟩ rfl (Nat.le_of_ble_eq_true rfl) dX4_digest_138) ?_
          rintro F9 hF9
          subst hF9
          have hr4 : (up (up G6 110 16 (31 * G6 110 16 + (wI (py A.r)))) 110 16 (31 * (up G6 110 16 (31 * G6 110 16 + (wI (py A.r)))) 110 16 + (shB (40 - bg A.r)))) 111 = A.r := (up_k (by decide)).trans hr3
          have hf4 := FrX.up16 (z := 31 * (up G6 110 16 (31 * G6 110 16 + (wI (py A.r)))) 110 16 + (shB (40 - bg A.r))) hf3
          have hh4 : (up (up G6 110 16 (31 * G6 110 16 + (wI (py A.r)))) 110 16 (31 * (up G6 110 16 (31 * G6 110 16 + (wI (py A.r)))) 110 16 + (shB (40 - bg A.r)))) 110 16 = 31 * (31 * (it (fun h d => hDn A.r (ngs A.r (3 : Int).toNat) h d) (dg3 A) d.toNat) + (wI (py A.r))) + (shB (40 - bg A.r)) := by rw [up_eq, hh3]
          have hrS := hr4
          have hfS := hf4
          have hhS := hh4
          rw [show d = 4 by omega] at hhS
          refine q_iconst C 0 dX4_digest_141 ?_
          refine q_istore_n (lv' := [(1, .int (iI 0)), (0, .ref (adr w 110))]) C dX4_digest_142 (by decide) rfl ?_
          refine q_lv (lv' := [(0, .ref (adr w 110)), (1, .int (iI 0))]) [1, 0] rfl ?_
          refine wf2 (P := fun (q : Int) (G7 : FF) => Wq pg l ev _ s0 mi _ be me co _ w _ _ _ 143 [(0, .ref (adr w 110)), (1, .int (iI q))] [] G7) (I := fun (q : Int) (G7 : FF) => 0 ≤ q ∧ q ≤ 2 ∧ G7 111 = A.r ∧ FrX (up (up F 110 8 0) 110 16 3391) G7 ∧ G7 110 16 = hP A.kp (dg5 A) q) (μ := fun (q : Int) (G7 : FF) => (2 - q).toNat) ?_ 0 (up (up G6 110 16 (31 * G6 110 16 + (wI (py A.r)))) 110 16 (31 * (up G6 110 16 (31 * G6 110 16 + (wI (py A.r)))) 110 16 + (shB (40 - bg A.r)))) (⟨by omega, by omega, hrS, hfS, hhS⟩)
          intro q G7 hI' ih143
          (try dsimp only at hI'); (try dsimp only at ih143); (try dsimp only)
          obtain ⟨hq0, hq1, hrG7, hfG7, hhG7⟩ := hI'
          have hJG7 := MJ.hx hJ0 hrG7 hfG7
          refine q_iload_n C 1 dX4_digest_143 rfl ?_
          refine q_iconst C 2 dX4_digest_144 ?_
          refine q_icmp_ge C 172 dX4_digest_145 ⟨by omega, by omega⟩ ⟨by decide, by decide⟩ (by decide) (fun h145 => ?_) (fun h145 => ?_)
          · refine q_aload_n C 0 dX4_digest_172 rfl ?_
            refine q_aload_n C 0 dX4_digest_173 rfl ?_
            refine q_get (T := TX4) (i := 7) C kd110 (by decide) rfl uws4 (by decide) wd_872 rfl dX4_digest_174 ?_
            refine q_top (z' := A.len) (hJG7.1.l) ?_
            refine q_i2l C dX4_digest_177 ?_
            refine q_cV (q_runV (As := [.long (iL (wI A.len))]) (rest := []) C (k_X4_mix (F := G7) l (x := wI A.len)) kd110 (by decide) rfl wd_1268 wd_1267 wd_73 wd_81 wd_1265 nd_X4_mix rfl (by decide) ⟨Nat.zero_le _, Nat.zero_le _⟩ rfl (Nat.le_of_ble_eq_true rfl) dX4_digest_178) ?_
            rintro F9 hF9
            subst hF9
            have hr5 : (up G7 110 16 (31 * G7 110 16 + (wI A.len))) 111 = A.r := (up_k (by decide)).trans hrG7
            have hf5 := FrX.up16 (z := 31 * G7 110 16 + (wI A.len)) hfG7
            have hh5 : (up G7 110 16 (31 * G7 110 16 + (wI A.len))) 110 16 = 31 * (hP A.kp (dg5 A) q) + (wI A.len) := by rw [up_eq, hhG7]
            have hrT := hr5
            have hfT := hf5
            have hhT := hh5
            rw [show q = 2 by omega] at hhT
            refine q_iconst C 0 dX4_digest_181 ?_
            refine q_istore_n (lv' := [(1, .int (iI 0)), (0, .ref (adr w 110))]) C dX4_digest_182 (by decide) rfl ?_
            refine q_lv (lv' := [(0, .ref (adr w 110)), (1, .int (iI 0))]) [1, 0] rfl ?_
            refine wf2 (P := fun (v : Int) (G8 : FF) => Wq pg l ev _ s0 mi _ be me co _ w _ _ _ 183 [(0, .ref (adr w 110)), (1, .int (iI v))] [] G8) (I := fun (v : Int) (G8 : FF) => 0 ≤ v ∧ v ≤ A.len ∧ G8 111 = A.r ∧ FrX (up (up F 110 8 0) 110 16 3391) G8 ∧ G8 110 16 = hP A.B (dg6 A) v) (μ := fun (v : Int) (G8 : FF) => (A.len - v).toNat) ?_ 0 (up G7 110 16 (31 * G7 110 16 + (wI A.len))) (⟨by omega, by omega, hrT, hfT, hhT⟩)
            intro v G8 hI' ih183
            (try dsimp only at hI'); (try dsimp only at ih183); (try dsimp only)
            obtain ⟨hv0, hv1, hrG8, hfG8, hhG8⟩ := hI'
            have hJG8 := MJ.hx hJ0 hrG8 hfG8
            refine q_iload_n C 1 dX4_digest_183 rfl ?_
            refine q_aload_n C 0 dX4_digest_184 rfl ?_
            refine q_get (T := TX4) (i := 7) C kd110 (by decide) rfl uws4 (by decide) wd_872 rfl dX4_digest_185 ?_
            refine q_top (z' := A.len) (hJG8.1.l) ?_
            refine q_icmp_ge C 208 dX4_digest_188 ⟨by omega, by omega⟩ ⟨by omega, by omega⟩ (by decide) (fun h188 => ?_) (fun h188 => ?_)
            · refine q_aload_n C 0 dX4_digest_208 rfl ?_
              refine q_get (T := TX4) (i := 16) C kd110 (by decide) rfl uws4 (by decide) wd_881 rfl dX4_digest_209 ?_
              refine q_lret C dX4_digest_212 ?_
              exact ⟨by rw [hhG8, show v = A.len by omega]; rfl, hJG8⟩
            · refine q_aload_n C 0 dX4_digest_191 rfl ?_
              refine q_aload_n C 0 dX4_digest_192 rfl ?_
              refine q_get (T := TX4) (i := 6) C kd110 (by decide) rfl uws4 (by decide) wd_871 rfl dX4_digest_193 ?_
              refine q_iload_n C 1 dX4_digest_196 rfl ?_
              refine q_iald C kd116 ⟨by omega, by rw [ln116]; omega⟩ dX4_digest_197 ?_
              refine q_top (z' := A.B v) (hJG8.1.c (i := v) (by omega) (by omega)) ?_
              refine q_i2l C dX4_digest_198 ?_
              refine q_cV (q_runV (As := [.long (iL (wI (A.B v)))]) (rest := []) C (k_X4_mix (F := G8) l (x := wI (A.B v))) kd110 (by decide) rfl wd_1268 wd_1267 wd_73 wd_81 wd_1265 nd_X4_mix rfl (by decide) ⟨Nat.zero_le _, Nat.zero_le _⟩ rfl (Nat.le_of_ble_eq_true rfl) dX4_digest_199) ?_
              rintro F9 hF9
              subst hF9
              have hr6 : (up G8 110 16 (31 * G8 110 16 + (wI (A.B v)))) 111 = A.r := (up_k (by decide)).trans hrG8
              have hf6 := FrX.up16 (z := 31 * G8 110 16 + (wI (A.B v))) hfG8
              have hh6 : (up G8 110 16 (31 * G8 110 16 + (wI (A.B v)))) 110 16 = 31 * (hP A.B (dg6 A) v) + (wI (A.B v)) := by rw [up_eq, hhG8]
              refine q_iinc (lv' := [(1, .int (iI (v + 1))), (0, .ref (adr w 110))]) C 1 dX4_digest_202 rfl (by decide) rfl ?_
              refine q_goto C 183 dX4_digest_205 (by decide) ?_
              refine q_lv (lv' := [(0, .ref (adr w 110)), (1, .int (iI (v + 1)))]) [1, 0] rfl ?_
              exact ih183 (v + 1) (up G8 110 16 (31 * G8 110 16 + (wI (A.B v)))) (⟨by omega, by omega, hr6, hf6, by rw [hh6]; rw [hP_s hv0]⟩) (by omega)
          · refine q_aload_n C 0 dX4_digest_148 rfl ?_
            refine q_aload_n C 0 dX4_digest_149 rfl ?_
            refine q_get (T := TX4) (i := 4) C kd110 (by decide) rfl uws4 (by decide) wd_869 rfl dX4_digest_150 ?_
            refine q_iload_n C 1 dX4_digest_153 rfl ?_
            refine q_zald C kd114 ⟨by omega, by rw [ln114]; omega⟩ dX4_digest_154 ?_
            obtain ⟨hk114, hk01, hk9⟩ := hJG7.1.k (k := q) (by omega) (by omega)
            refine q_top (z' := A.kp q) hk114 ?_
            refine q_if_eq C 162 dX4_digest_155 ⟨by omega, by omega⟩  (by decide) (fun h155 => ?_) (fun h155 => ?_)
            · refine q_lconst C 0 rfl dX4_digest_162 ?_
              refine q_cV (q_runV (As := [.long (iL 0)]) (rest := []) C (k_X4_mix (F := G7) l (x := 0)) kd110 (by decide) rfl wd_1268 wd_1267 wd_73 wd_81 wd_1265 nd_X4_mix rfl (by decide) ⟨Nat.zero_le _, Nat.zero_le _⟩ rfl (Nat.le_of_ble_eq_true rfl) dX4_digest_163) ?_
              rintro F9 hF9
              subst hF9
              have hr7 : (up G7 110 16 (31 * G7 110 16 + 0)) 111 = A.r := (up_k (by decide)).trans hrG7
              have hf7 := FrX.up16 (z := 31 * G7 110 16 + 0) hfG7
              have hh7 : (up G7 110 16 (31 * G7 110 16 + 0)) 110 16 = 31 * (hP A.kp (dg5 A) q) + 0 := by rw [up_eq, hhG7]
              refine q_iinc (lv' := [(1, .int (iI (q + 1))), (0, .ref (adr w 110))]) C 1 dX4_digest_166 rfl (by decide) rfl ?_
              refine q_goto C 143 dX4_digest_169 (by decide) ?_
              refine q_lv (lv' := [(0, .ref (adr w 110)), (1, .int (iI (q + 1)))]) [1, 0] rfl ?_
              exact ih143 (q + 1) (up G7 110 16 (31 * G7 110 16 + 0)) (⟨by omega, by omega, hr7, hf7, by rw [hh7]; rw [hP_s hq0, wI_eq (x := A.kp q) ⟨by omega, by omega⟩]; first | rw [show A.kp q = 1 by omega] | rw [show A.kp q = 0 by omega]⟩) (by omega)
            · refine q_lconst C 1 rfl dX4_digest_158 ?_
              refine q_goto C 163 dX4_digest_159 (by decide) ?_
              refine q_cV (q_runV (As := [.long (iL 1)]) (rest := []) C (k_X4_mix (F := G7) l (x := 1)) kd110 (by decide) rfl wd_1268 wd_1267 wd_73 wd_81 wd_1265 nd_X4_mix rfl (by decide) ⟨Nat.zero_le _, Nat.zero_le _⟩ rfl (Nat.le_of_ble_eq_true rfl) dX4_digest_163) ?_
              rintro F9 hF9
              subst hF9
              have hr8 : (up G7 110 16 (31 * G7 110 16 + 1)) 111 = A.r := (up_k (by decide)).trans hrG7
              have hf8 := FrX.up16 (z := 31 * G7 110 16 + 1) hfG7
              have hh8 : (up G7 110 16 (31 * G7 110 16 + 1)) 110 16 = 31 * (hP A.kp (dg5 A) q) + 1 := by rw [up_eq, hhG7]
              refine q_iinc (lv' := [(1, .int (iI (q + 1))), (0, .ref (adr w 110))]) C 1 dX4_digest_166 rfl (by decide) rfl ?_
              refine q_goto C 143 dX4_digest_169 (by decide) ?_
              refine q_lv (lv' := [(0, .ref (adr w 110)), (1, .int (iI (q + 1)))]) [1, 0] rfl ?_
              exact ih143 (q + 1) (up G7 110 16 (31 * G7 110 16 + 1)) (⟨by omega, by omega, hr8, hf8, by rw [hh8]; rw [hP_s hq0, wI_eq (x := A.kp q) ⟨by omega, by omega⟩]; first | rw [show A.kp q = 1 by omega] | rw [show A.kp q = 0 by omega]⟩) (by omega)
        · refine q_aload_n C 0 dX4_digest_110 rfl ?_
          refine q_iload_n C 1 dX4_digest_111 rfl ?_
          refine q_cV (q_runV (As := [.int (iI d)]) (rest := []) C (k_X4_mixDoor (F := G6) l hrG6 hI hhG6 (d := d) ⟨by omega, by omega⟩) kd110 (by decide) rfl wd_1273 wd_1272 wd_74 wd_81 wd_1270 nd_X4_mixDoor rfl (by decide) ⟨Nat.zero_le _, Nat.zero_le _⟩ rfl (Nat.le_of_ble_eq_true rfl) dX4_digest_112) ?_
          rintro G9 ⟨hhG9, hEG9, hfxG9⟩
          have hfzG9 := FrX.trans hfG6 hfxG9
          refine q_iinc (lv' := [(1, .int (iI (d + 1))), (0, .ref (adr w 110))]) C 1 dX4_digest_115 rfl (by decide) rfl ?_
          refine q_goto C 105 dX4_digest_118 (by decide) ?_
          refine q_lv (lv' := [(0, .ref (adr w 110)), (1, .int (iI (d + 1)))]) [1, 0] rfl ?_
          exact ih105 (d + 1) G9 (⟨by omega, by omega, hEG9, hfzG9, by rw [hhG9]; rw [it_s hd0]⟩) (by omega)
      · refine q_iconst C 3 dX4_digest_72 ?_
        refine q_istore_n (lv' := [(2, .int (iI 3)), (0, .ref (adr w 110)), (1, .int (iI x))]) C dX4_digest_73 (by decide) rfl ?_
        refine q_lv (lv' := [(0, .ref (adr w 110)), (1, .int (iI x)), (2, .int (iI 3))]) [1, 2, 0] rfl ?_
        refine wf2 (P := fun (u : Int) (G5 : FF) => Wq pg l ev _ s0 mi _ be me co _ w _ _ _ 74 [(0, .ref (adr w 110)), (1, .int (iI x)), (2, .int (iI u))] [] G5) (I := fun (u : Int) (G5 : FF) => 3 ≤ u ∧ u ≤ 7 ∧ G5 111 = A.r ∧ FrX (up (up F 110 8 0) 110 16 3391) G5 ∧ G5 110 16 = hP (fun k => wpr A.r x (3 + k)) (it (fun h x => hP (fun k => wpr A.r x (3 + k)) h 4) (dg2 A) x.toNat) (u - 3)) (μ := fun (u : Int) (G5 : FF) => (7 - u).toNat) ?_ 3 G4 (⟨by omega, by omega, hrG4, hfG4, by rw [hhG4]; rfl⟩)
        intro u G5 hI' ih74
        (try dsimp only at hI'); (try dsimp only at ih74); (try dsimp only)
        obtain ⟨hu0, hu1, hrG5, hfG5, hhG5⟩ := hI'
        have hJG5 := MJ.hx hJ0 hrG5 hfG5
        refine q_iload_n C 2 dX4_digest_74 rfl ?_
        refine q_bipush C 7 dX4_digest_75 (by decide) ?_
        refine q_icmp_ge C 97 dX4_digest_77 ⟨by omega, by omega⟩ ⟨by decide, by decide⟩ (by decide) (fun h77 => ?_) (fun h77 => ?_)
        · refine q_iinc (lv' := [(1, .int (iI (x + 1))), (0, .ref (adr w 110)), (2, .int (iI u))]) C 1 dX4_digest_97 rfl (by decide) rfl ?_
          refine q_goto C 66 dX4_digest_100 (by decide) ?_
          refine q_lv (lv' := [(0, .ref (adr w 110)), (1, .int (iI (x + 1)))]) [1, 0] rfl ?_
          exact ih66 (x + 1) G5 (⟨by omega, by omega, hrG5, hfG5, by rw [hhG5]; rw [show u = 7 by omega, it_s hx0]; rfl⟩) (by omega)
        · refine q_aload_n C 0 dX4_digest_80 rfl ?_
          refine q_aload_n C 0 dX4_digest_81 rfl ?_
          refine q_iload_n C 1 dX4_digest_82 rfl ?_
          refine q_iload_n C 2 dX4_digest_83 rfl ?_
          refine q_cI (q_runV (As := [.int (iI x), .int (iI u)]) (rest := [.ref (adr w 110)]) C (k_X4_wordProperty l hrG5 hI (x := x) (k := u) ⟨by omega, by omega⟩ ⟨by omega, by omega⟩) kd110 (by decide) rfl wd_1159 wd_1158 wd_58 wd_81 wd_1156 nd_X4_wordProperty rfl (by decide) ⟨Nat.zero_le _, Nat.zero_le _⟩ rfl (Nat.le_of_ble_eq_true rfl) dX4_digest_84) ?_
          rintro z F' ⟨rfl, rfl⟩
          refine q_i2l C dX4_digest_87 ?_
          refine q_cV (q_runV (As := [.long (iL (wI (wpr A.r x u)))]) (rest := []) C (k_X4_mix (F := G5) l (x := wI (wpr A.r x u))) kd110 (by decide) rfl wd_1268 wd_1267 wd_73 wd_81 wd_1265 nd_X4_mix rfl (by decide) ⟨Nat.zero_le _, Nat.zero_le _⟩ rfl (Nat.le_of_ble_eq_true rfl) dX4_digest_88) ?_
          rintro F9 hF9
          subst hF9
          have hr10 : (up G5 110 16 (31 * G5 110 16 + (wI (wpr A.r x u)))) 111 = A.r := (up_k (by decide)).trans hrG5
          have hf10 := FrX.up16 (z := 31 * G5 110 16 + (wI (wpr A.r x u))) hfG5
          have hh10 : (up G5 110 16 (31 * G5 110 16 + (wI (wpr A.r x u)))) 110 16 = 31 * (hP (fun k => wpr A.r x (3 + k)) (it (fun h x => hP (fun k => wpr A.r x (3 + k)) h 4) (dg2 A) x.toNat) (u - 3)) + (wI (wpr A.r x u)) := by rw [up_eq, hhG5]
          refine q_iinc (lv' := [(2, .int (iI (u + 1))), (0, .ref (adr w 110)), (1, .int (iI x))]) C 2 dX4_digest_91 rfl (by decide) rfl ?_
          refine q_goto C 74 dX4_digest_94 (by decide) ?_
          refine q_lv (lv' := [(0, .ref (adr w 110)), (1, .int (iI x)), (2, .int (iI (u + 1)))]) [1, 2, 0] rfl ?_
          exact ih74 (u + 1) (up G5 110 16 (31 * G5 110 16 + (wI (wpr A.r x u)))) (⟨by omega, by omega, hr10, hf10, by rw [hh10]; rw [show u + 1 - 3 = (u - 3) + 1 by omega, hP_s (by omega), show 3 + (u - 3) = u by omega]⟩) (by omega)
    · refine q_aload_n C 0 dX4_digest_43 rfl ?_
      refine q_aload_n C 0 dX4_digest_44 rfl ?_
      refine q_get (T := TX4) (i := 0) C kd110 (by decide) rfl uws4 (by decide) wd_865 rfl dX4_digest_45 ?_
      refine q_sipush C 176 dX4_digest_48 (by decide) ?_
      refine q_iload_n C 1 dX4_digest_51 rfl ?_
      refine q_iadd C dX4_digest_52 ?_
      refine q_iald C kd111 ⟨by omega, by rw [ln111]; omega⟩ dX4_digest_53 ?_
      refine q_top (z' := A.r (176 + j)) ((congrFun hrG3 _).trans (congrArg A.r (by omega))) ?_
      refine q_i2l C dX4_digest_54 ?_
      refine q_cV (q_runV (As := [.long (iL (wI (A.r (176 + j))))]) (rest := []) C (k_X4_mix (F := G3) l (x := wI (A.r (176 + j)))) kd110 (by decide) rfl wd_1268 wd_1267 wd_73 wd_81 wd_1265 nd_X4_mix rfl (by decide) ⟨Nat.zero_le _, Nat.zero_le _⟩ rfl (Nat.le_of_ble_eq_true rfl) dX4_digest_55) ?_
      rintro F9 hF9
      subst hF9
      have hr12 : (up G3 110 16 (31 * G3 110 16 + (wI (A.r (176 + j))))) 111 = A.r := (up_k (by decide)).trans hrG3
      have hf12 := FrX.up16 (z := 31 * G3 110 16 + (wI (A.r (176 + j)))) hfG3
      have hh12 : (up G3 110 16 (31 * G3 110 16 + (wI (A.r (176 + j))))) 110 16 = 31 * (hP (fun k => A.r (176 + k)) (dg1 A) j) + (wI (A.r (176 + j))) := by rw [up_eq, hhG3]
      refine q_iinc (lv' := [(1, .int (iI (j + 1))), (0, .ref (adr w 110))]) C 1 dX4_digest_58 rfl (by decide) rfl ?_
      refine q_goto C 38 dX4_digest_61 (by decide) ?_
      refine q_lv (lv' := [(0, .ref (adr w 110)), (1, .int (iI (j + 1)))]) [1, 0] rfl ?_
      exact ih38 (j + 1) (up G3 110 16 (31 * G3 110 16 + (wI (A.r (176 + j))))) (⟨by omega, by omega, hr12, hf12, by rw [hh12]; rw [hP_s hj0]⟩) (by omega)
  · refine q_aload_n C 0 dX4_digest_20 rfl ?_
    refine q_aload_n C 0 dX4_digest_21 rfl ?_
    refine q_iload_n C 1 dX4_digest_22 rfl ?_
    refine q_cI (q_runV (As := [.int (iI i)]) (rest := [.ref (adr w 110)]) C (k_X4_number (F := G) l hJG.1 hV (k := i) ⟨by omega, by omega⟩) kd110 (by decide) rfl wd_1198 wd_1197 wd_63 wd_81 wd_1195 nd_X4_number rfl (by decide) ⟨Nat.zero_le _, Nat.zero_le _⟩ rfl (Nat.le_of_ble_eq_true rfl) dX4_digest_23) ?_
    rintro z F' ⟨rfl, rfl⟩
    refine q_i2l C dX4_digest_26 ?_
    refine q_cV (q_runV (As := [.long (iL (wI (cntv A i)))]) (rest := []) C (k_X4_mix (F := G) l (x := wI (cntv A i))) kd110 (by decide) rfl wd_1268 wd_1267 wd_73 wd_81 wd_1265 nd_X4_mix rfl (by decide) ⟨Nat.zero_le _, Nat.zero_le _⟩ rfl (Nat.le_of_ble_eq_true rfl) dX4_digest_27) ?_
    rintro F9 hF9
    subst hF9
    have hr13 : (up G 110 16 (31 * G 110 16 + (wI (cntv A i)))) 111 = A.r := (up_k (by decide)).trans hrG
    have hf13 := FrX.up16 (z := 31 * G 110 16 + (wI (cntv A i))) hfG
    have hh13 : (up G 110 16 (31 * G 110 16 + (wI (cntv A i)))) 110 16 = 31 * (hP (cntv A) 3391 i) + (wI (cntv A i)) := by rw [up_eq, hhG]
    refine q_iinc (lv' := [(1, .int (iI (i + 1))), (0, .ref (adr w 110))]) C 1 dX4_digest_30 rfl (by decide) rfl ?_
    refine q_goto C 14 dX4_digest_33 (by decide) ?_
    refine q_lv (lv' := [(0, .ref (adr w 110)), (1, .int (iI (i + 1)))]) [1, 0] rfl ?_
    exact ih14 (i + 1) (up G 110 16 (31 * G 110 16 + (wI (cntv A i)))) (⟨by omega, by omega, hr13, hf13, by rw [hh13]; rw [hP_s hi0]⟩) (by omega)

set_option maxRecDepth 100000 in
set_option maxHeartbeats 4000000 in
theorem k_X4_draftSign (l : Launch) {w : WP} {F : FF} {P : PB} {c : Int} (hT : TD F P) (hP : 0 ≤ P.1 ∧ P.1 < 72) : Con l yX4_draftSign cX4_draftSign 2 none 0 w [.ref (adr w 110), .int (iI c)] F (QV w (fun F' => TD F' (em P c) ∧ FrD F F')) := by
  refine Con.mk (lv := [(0, .ref (adr w 110)), (1, .int (iI c))]) (by decide) (Nat.le_of_ble_eq_true rfl) rfl ?_
  intro pg ev s0 mi be me co C hz
  obtain ⟨hP0, hP1⟩ := hP
  refine q_aload_n C 0 dX4_draftSign_0 rfl ?_
  refine q_get (T := TX4) (i := 14) C kd110 (by decide) rfl uws4 (by decide) wd_879 rfl dX4_draftSign_1 ?_
  refine q_aload_n C 0 dX4_draftSign_4 rfl ?_
  refine q_get (T := TX4) (i := 15) C kd110 (by decide) rfl uws4 (by decide) wd_880 rfl dX4_draftSign_5 ?_
  refine q_top (z' := P.1) hT.1 ?_
  refine q_iload_n C 1 dX4_draftSign_8 rfl ?_
  refine q_iast C kd119 ⟨by omega, by rw [ln119]; omega⟩ dX4_draftSign_9 ?_
  refine q_aload_n C 0 dX4_draftSign_10 rfl ?_
  refine q_dup C dX4_draftSign_11 rfl ?_
  refine q_get (T := TX4) (i := 15) C kd110 (by decide) rfl uws4 (by decide) wd_880 rfl dX4_draftSign_12 ?_
  refine q_top (z' := P.1) ((congrFun (up_k (by decide)) 15).trans hT.1) ?_
  refine q_iconst C 1 dX4_draftSign_15 ?_
  refine q_iadd C dX4_draftSign_16 ?_
  refine q_put (T := TX4) (tyX := tyX4) (i := 15) (j := 15) (z := (P.1 + 1)) (ty := .int) C rfl kd110 (by decide) rfl uws4 tyX4_ok nmX4 (by decide) (kd_ln.2.2.2.2 kd110) wd_880 rfl rfl rfl rfl (fsS_4_15 w _ _ _) (Nat.le_of_ble_eq_true rfl) dX4_draftSign_17 ?_
  refine q_vret C dX4_draftSign_20 ?_
  exact ⟨TD_em hT hP0, (FrD.refl.d).f⟩

set_option maxRecDepth 100000 in
set_option maxHeartbeats 4000000 in
theorem k_X4_draftLine (l : Launch) {w : WP} {F : FF} {P : PB} {r : Rw} {y : Int} (hr : F 111 = r) (hI : Iv r) (hy : 0 ≤ y ∧ y < 16) (hP0 : 0 ≤ P.1) (hT0 : TD F (if 0 < P.1 ∧ 0 < r y then em P 47 else P)) (hle : (emL (wa r y) P (r y).toNat).1 ≤ 72) : Con l yX4_draftLine cX4_draftLine 4 none 1 w [.ref (adr w 110), .int (iI y)] F (QV w (fun F' => TD F' (emL (wa r y) P (r y).toNat) ∧ FrD F F')) := by
  refine Con.mk (lv := [(0, .ref (adr w 110)), (1, .int (iI y))]) (by decide) (Nat.le_of_ble_eq_true rfl) rfl ?_
  intro pg ev s0 mi be me co C hz
  have hsy := hI.sz hy.1 hy.2
  refine q_iconst C 0 dX4_draftLine_0 ?_
  refine q_istore_n (lv' := [(2, .int (iI 0)), (0, .ref (adr w 110)), (1, .int (iI y))]) C dX4_draftLine_1 (by decide) rfl ?_
  refine q_lv (lv' := [(0, .ref (adr w 110)), (1, .int (iI y)), (2, .int (iI 0))]) [1, 2, 0] rfl ?_
  refine wf2 (P := fun (k : Int) (G : FF) => Wq pg l ev _ s0 mi _ be me co _ w _ _ _ 2 [(0, .ref (adr w 110)), (1, .int (iI y)), (2, .int (iI k))] [] G) (I := fun (k : Int) (G : FF) => 0 ≤ k ∧ k ≤ r y ∧ TD G (if k = 0 then (if 0 < P.1 ∧ 0 < r y then em P 47 else P) else emL (wa r y) P k.toNat) ∧ FrD F G) (μ := fun (k : Int) (G : FF) => (r y - k).toNat) ?_ 0 F (⟨by omega, by omega, by rw [if_pos rfl]; exact hT0, FrD.refl⟩)
  intro k G hI' ih2
  (try dsimp only at hI'); (try dsimp only at ih2); (try dsimp only)
  obtain ⟨hk0, hk1, hT, hfk⟩ := hI'
  have hrG : G 111 = r := (hfk.1 111 (by decide) (by decide)).trans hr
  refine q_iload_n C 2 dX4_draftLine_2 rfl ?_
  refine q_aload_n C 0 dX4_draftLine_3 rfl ?_
  refine q_get (T := TX4) (i := 0) C kd110 (by decide) rfl uws4 (by decide) wd_865 rfl dX4_draftLine_4 ?_
  refine q_iconst C 0 dX4_draftLine_7 ?_
  refine q_iload_n C 1 dX4_draftLine_8 rfl ?_
  refine q_iadd C dX4_draftLine_9 ?_
  refine q_iald C kd111 ⟨by omega, by rw [ln111]; omega⟩ dX4_draftLine_10 ?_
  refine q_top (z' := r y) ((congrFun hrG _).trans (congrArg r (by omega))) ?_
  refine q_icmp_ge C 65 dX4_draftLine_11 ⟨by omega, by omega⟩ ⟨by omega, by omega⟩ (by decide) (fun h11 => ?_) (fun h11 => ?_)
  · refine q_vret C dX4_draftLine_65 ?_
    exact ⟨dl_end hk0 (by omega) hT hsy.1, hfk⟩
  · rcases (show k = 0 ∧ 0 < P.1 ∨ k = 0 ∧ ¬ 0 < P.1 ∨ 0 < k by omega) with hsp | hsp | hsp
    · have hle1 : (emL (wa r y) P (k + 1).toNat).1 ≤ 72 := Int.le_trans (emL_mono hP0 (by omega)) hle
      have hTk : TD G (em P 47) := by rw [if_pos (by omega), if_pos (by omega)] at hT; exact hT
      rw [← emL_b0 (show k = 0 by omega) (by omega)] at hle1
      obtain ⟨hle2, hle3⟩ := emN_b hle1
      rw [em_1] at hle2 hle3
      refine q_aload_n C 0 dX4_draftLine_14 rfl ?_
      refine q_iload_n C 1 dX4_draftLine_15 rfl ?_
      refine q_iload_n C 2 dX4_draftLine_16 rfl ?_
      refine q_cI (q_runV (As := [.int (iI y), .int (iI k)]) (rest := []) C (k_X4_wordAt l hrG (x := y) (p := k) ⟨by omega, by omega⟩ ⟨by omega, by omega⟩) kd110 (by decide) rfl wd_948 wd_947 wd_25 wd_81 wd_945 nd_X4_wordAt rfl (by decide) ⟨Nat.zero_le _, Nat.zero_le _⟩ rfl (Nat.le_of_ble_eq_true rfl) dX4_draftLine_17) ?_
      rintro z F' ⟨rfl, rfl⟩
      have q17 := hI.wd (l := y) (p := k) (by omega) (by omega) (by omega) (by omega)
      refine q_istore_n (lv' := [(3, .int (iI (wa r y k))), (0, .ref (adr w 110)), (1, .int (iI y)), (2, .int (iI k))]) C dX4_draftLine_20 (by decide) rfl ?_
      refine q_iload_n C 3 dX4_draftLine_21 rfl ?_
      refine q_if_le C 31 dX4_draftLine_22 ⟨by omega, by omega⟩  (by decide) (fun h22 => ?_) (fun h22 => absurd h22 (by omega))
      refine q_iload_n C 0 dX4_draftLine_31 rfl ?_
      refine q_bipush C 9 dX4_draftLine_32 (by decide) ?_
      refine q_icmp_le C 48 dX4_draftLine_34 ⟨by omega, by omega⟩ ⟨by decide, by decide⟩ (by decide) (fun h34 => ?_) (fun h34 => ?_)
      · refine q_aload_n C 1 dX4_draftLine_48 rfl ?_
        refine q_bipush C 48 dX4_draftLine_49 (by decide) ?_
        refine q_iload_n C 0 dX4_draftLine_51 rfl ?_
        refine q_bipush C 10 dX4_draftLine_52 (by decide) ?_
        refine q_irem C dX4_draftLine_54 ⟨by omega, by omega⟩ ⟨by decide, by decide⟩ ?_
        refine q_iadd C dX4_draftLine_55 ?_
        refine q_cV (q_runV (As := [.int (iI (48 + ((wa r y k) % 10)))]) (rest := []) C (k_X4_draftSign (F := G) (P := (em P 47)) (c := 48 + ((wa r y k) % 10)) l hTk ⟨by (try simp only [em_1]); omega, by (try simp only [em_1]); omega⟩) kd110 (by decide) rfl wd_1131 wd_1130 wd_55 wd_81 wd_1128 nd_X4_draftSign rfl (by decide) ⟨Nat.zero_le _, Nat.zero_le _⟩ rfl (Nat.le_of_ble_eq_true rfl) dX4_draftLine_56) ?_
        rintro G2_ ⟨hTG2_, hfG2_⟩
        have hFG2_ := FrD.trans hfk hfG2_
        have hrG2_ : G2_ 111 = r := (hFG2_.1 111 (by decide) (by decide)).trans hr
        refine q_iinc (lv' := [(2, .int (iI (k + 1))), (3, .int (iI (wa r y k))), (0, .ref (adr w 110)), (1, .int (iI y))]) C 3 dX4_draftLine_59 rfl (by decide) rfl ?_
        refine q_goto C 2 dX4_draftLine_62 (by decide) ?_
        refine q_lv (lv' := [(0, .ref (adr w 110)), (1, .int (iI y)), (2, .int (iI (k + 1)))]) [2, 3, 0] rfl ?_
        exact ih2 (k + 1) G2_ (⟨by omega, by omega, by rw [if_neg (by omega), ← emL_b0 (show k = 0 by omega) (by omega)]; unfold emN; first | (rw [if_pos (by omega)]; exact hTG2_) | (rw [if_neg (by omega)]; exact hTG2_), hFG2_⟩) (by omega)
      · refine q_aload_n C 1 dX4_draftLine_37 rfl ?_
        refine q_bipush C 48 dX4_draftLine_38 (by decide) ?_
        refine q_iload_n C 0 dX4_draftLine_40 rfl ?_
        refine q_bipush C 10 dX4_draftLine_41 (by decide) ?_
        refine q_idiv C dX4_draftLine_43 ⟨by omega, by omega⟩ ⟨by decide, by decide⟩ ?_
        refine q_iadd C dX4_draftLine_44 ?_
        refine q_cV (q_runV (As := [.int (iI (48 + ((wa r y k) / 10)))]) (rest := []) C (k_X4_draftSign (F := G) (P := (em P 47)) (c := 48 + ((wa r y k) / 10)) l hTk ⟨by (try simp only [em_1]); omega, by (try simp only [em_1]); omega⟩) kd110 (by decide) rfl wd_1131 wd_1130 wd_55 wd_81 wd_1128 nd_X4_draftSign rfl (by decide) ⟨Nat.zero_le _, Nat.zero_le _⟩ rfl (Nat.le_of_ble_eq_true rfl) dX4_draftLine_45) ?_
        rintro G3_ ⟨hTG3_, hfG3_⟩
        have hFG3_ := FrD.trans hfk hfG3_
        have hrG3_ : G3_ 111 = r := (hFG3_.1 111 (by decide) (by decide)).trans hr
        refine q_aload_n C 1 dX4_draftLine_48 rfl ?_
        refine q_bipush C 48 dX4_draftLine_49 (by decide) ?_
        refine q_iload_n C 0 dX4_draftLine_51 rfl ?_
        refine q_bipush C 10 dX4_draftLine_52 (by decide) ?_
        refine q_irem C dX4_draftLine_54 ⟨by omega, by omega⟩ ⟨by decide, by decide⟩ ?_
        refine q_iadd C dX4_draftLine_55 ?_
        refine q_cV (q_runV (As := [.int (iI (48 + ((wa r y k) % 10)))]) (rest := []) C (k_X4_draftSign (F := G3_) (P := (em (em P 47) (48 + ((wa r y k) / 10)))) (c := 48 + ((wa r y k) % 10)) l hTG3_ ⟨by (try simp only [em_1]); omega, by (try simp only [em_1]); omega⟩) kd110 (by decide) rfl wd_1131 wd_1130 wd_55 wd_81 wd_1128 nd_X4_draftSign rfl (by decide) ⟨Nat.zero_le _, Nat.zero_le _⟩ rfl (Nat.le_of_ble_eq_true rfl) dX4_draftLine_56) ?_
        rintro G4_ ⟨hTG4_, hfG4_⟩
        have hFG4_ := FrD.trans hFG3_ hfG4_
        have hrG4_ : G4_ 111 = r := (hFG4_.1 111 (by decide) (by decide)).trans hr
        refine q_iinc (lv' := [(2, .int (iI (k + 1))), (3, .int (iI (wa r y k))), (0, .ref (adr w 110)), (1, .int (iI y))]) C 3 dX4_draftLine_59 rfl (by decide) rfl ?_
        refine q_goto C 2 dX4_draftLine_62 (by decide) ?_
        refine q_lv (lv' := [(0, .ref (adr w 110)), (1, .int (iI y)), (2, .int (iI (k + 1)))]) [2, 3, 0] rfl ?_
        exact ih2 (k + 1) G4_ (⟨by omega, by omega, by rw [if_neg (by omega), ← emL_b0 (show k = 0 by omega) (by omega)]; unfold emN; first | (rw [if_pos (by omega)]; exact hTG4_) | (rw [if_neg (by omega)]; exact hTG4_), hFG4_⟩) (by omega)
    · have hle1 : (emL (wa r y) P (k + 1).toNat).1 ≤ 72 := Int.le_trans (emL_mono hP0 (by omega)) hle
      have hTk : TD G P := by rw [if_pos (by omega), if_neg (by omega)] at hT; exact hT
      rw [← emL_c0 (show k = 0 by omega) (by omega)] at hle1
      obtain ⟨hle2, hle3⟩ := emN_b hle1
      refine q_aload_n C 0 dX4_draftLine_14 rfl ?_
      refine q_iload_n C 1 dX4_draftLine_15 rfl ?_
      refine q_iload_n C 2 dX4_draftLine_16 rfl ?_
      refine q_cI (q_runV (As := [.int (iI y), .int (iI k)]) (rest := []) C (k_X4_wordAt l hrG (x := y) (p := k) ⟨by omega, by omega⟩ ⟨by omega, by omega⟩) kd110 (by decide) rfl wd_948 wd_947 wd_25 wd_81 wd_945 nd_X4_wordAt rfl (by decide) ⟨Nat.zero_le _, Nat.zero_le _⟩ rfl (Nat.le_of_ble_eq_true rfl) dX4_draftLine_17) ?_
      rintro z F' ⟨rfl, rfl⟩
      have q17 := hI.wd (l := y) (p := k) (by omega) (by omega) (by omega) (by omega)
      refine q_istore_n (lv' := [(3, .int (iI (wa r y k))), (0, .ref (adr w 110)), (1, .int (iI y)), (2, .int (iI k))]) C dX4_draftLine_20 (by decide) rfl ?_
      refine q_iload_n C 3 dX4_draftLine_21 rfl ?_
      refine q_if_le C 31 dX4_draftLine_22 ⟨by omega, by omega⟩  (by decide) (fun h22 => ?_) (fun h22 => absurd h22 (by omega))
      refine q_iload_n C 0 dX4_draftLine_31 rfl ?_
      refine q_bipush C 9 dX4_draftLine_32 (by decide) ?_
      refine q_icmp_le C 48 dX4_draftLine_34 ⟨by omega, by omega⟩ ⟨by decide, by decide⟩ (by decide) (fun h34 => ?_) (fun h34 => ?_)
      · refine q_aload_n C 1 dX4_draftLine_48 rfl ?_
        refine q_bipush C 48 dX4_draftLine_49 (by decide) ?_
        refine q_iload_n C 0 dX4_draftLine_51 rfl ?_
        refine q_bipush C 10 dX4_draftLine_52 (by decide) ?_
        refine q_irem C dX4_draftLine_54 ⟨by omega, by omega⟩ ⟨by decide, by decide⟩ ?_
        refine q_iadd C dX4_draftLine_55 ?_
        refine q_cV (q_runV (As := [.int (iI (48 + ((wa r y k) % 10)))]) (rest := []) C (k_X4_draftSign (F := G) (P := P) (c := 48 + ((wa r y k) % 10)) l hTk ⟨by (try simp only [em_1]); omega, by (try simp only [em_1]); omega⟩) kd110 (by decide) rfl wd_1131 wd_1130 wd_55 wd_81 wd_1128 nd_X4_draftSign rfl (by decide) ⟨Nat.zero_le _, Nat.zero_le _⟩ rfl (Nat.le_of_ble_eq_true rfl) dX4_draftLine_56) ?_
        rintro G5_ ⟨hTG5_, hfG5_⟩
        have hFG5_ := FrD.trans hfk hfG5_
        have hrG5_ : G5_ 111 = r := (hFG5_.1 111 (by decide) (by decide)).trans hr
        refine q_iinc (lv' := [(2, .int (iI (k + 1))), (3, .int (iI (wa r y k))), (0, .ref (adr w 110)), (1, .int (iI y))]) C 3 dX4_draftLine_59 rfl (by decide) rfl ?_
        refine q_goto C 2 dX4_draftLine_62 (by decide) ?_
        refine q_lv (lv' := [(0, .ref (adr w 110)), (1, .int (iI y)), (2, .int (iI (k + 1)))]) [2, 3, 0] rfl ?_
        exact ih2 (k + 1) G5_ (⟨by omega, by omega, by rw [if_neg (by omega), ← emL_c0 (show k = 0 by omega) (by omega)]; unfold emN; first | (rw [if_pos (by omega)]; exact hTG5_) | (rw [if_neg (by omega)]; exact hTG5_), hFG5_⟩) (by omega)
      · refine q_aload_n C 1 dX4_draftLine_37 rfl ?_
        refine q_bipush C 48 dX4_draftLine_38 (by decide) ?_
        refine q_iload_n C 0 dX4_draftLine_40 rfl ?_
        refine q_bipush C 10 dX4_draftLine_41 (by decide) ?_
        refine q_idiv C dX4_draftLine_43 ⟨by omega, by omega⟩ ⟨by decide, by decide⟩ ?_
        refine q_iadd C dX4_draftLine_44 ?_
        refine q_cV (q_runV (As := [.int (iI (48 + ((wa r y k) / 10)))]) (rest := []) C (k_X4_draftSign (F := G) (P := P) (c := 48 + ((wa r y k) / 10)) l hTk ⟨by (try simp only [em_1]); omega, by (try simp only [em_1]); omega⟩) kd110 (by decide) rfl wd_1131 wd_1130 wd_55 wd_81 wd_1128 nd_X4_draftSign rfl (by decide) ⟨Nat.zero_le _, Nat.zero_le _⟩ rfl (Nat.le_of_ble_eq_true rfl) dX4_draftLine_45) ?_
        rintro G6_ ⟨hTG6_, hfG6_⟩
        have hFG6_ := FrD.trans hfk hfG6_
        have hrG6_ : G6_ 111 = r := (hFG6_.1 111 (by decide) (by decide)).trans hr
        refine q_aload_n C 1 dX4_draftLine_48 rfl ?_
        refine q_bipush C 48 dX4_draftLine_49 (by decide) ?_
        refine q_iload_n C 0 dX4_draftLine_51 rfl ?_
        refine q_bipush C 10 dX4_draftLine_52 (by decide) ?_
        refine q_irem C dX4_draftLine_54 ⟨by omega, by omega⟩ ⟨by decide, by decide⟩ ?_
        refine q_iadd C dX4_draftLine_55 ?_
        refine q_cV (q_runV (As := [.int (iI (48 + ((wa r y k) % 10)))]) (rest := []) C (k_X4_draftSign (F := G6_) (P := (em P (48 + ((wa r y k) / 10)))) (c := 48 + ((wa r y k) % 10)) l hTG6_ ⟨by (try simp only [em_1]); omega, by (try simp only [em_1]); omega⟩) kd110 (by decide) rfl wd_1131 wd_1130 wd_55 wd_81 wd_1128 nd_X4_draftSign rfl (by decide) ⟨Nat.zero_le _, Nat.zero_le _⟩ rfl (Nat.le_of_ble_eq_true rfl) dX4_draftLine_56) ?_
        rintro G7_ ⟨hTG7_, hfG7_⟩
        have hFG7_ := FrD.trans hFG6_ hfG7_
        have hrG7_ : G7_ 111 = r := (hFG7_.1 111 (by decide) (by decide)).trans hr
        refine q_iinc (lv' := [(2, .int (iI (k + 1))), (3, .int (iI (wa r y k))), (0, .ref (adr w 110)), (1, .int (iI y))]) C 3 dX4_draftLine_59 rfl (by decide) rfl ?_
        refine q_goto C 2 dX4_draftLine_62 (by decide) ?_
        refine q_lv (lv' := [(0, .ref (adr w 110)), (1, .int (iI y)), (2, .int (iI (k + 1)))]) [2, 3, 0] rfl ?_
        exact ih2 (k + 1) G7_ (⟨by omega, by omega, by rw [if_neg (by omega), ← emL_c0 (show k = 0 by omega) (by omega)]; unfold emN; first | (rw [if_pos (by omega)]; exact hTG7_) | (rw [if_neg (by omega)]; exact hTG7_), hFG7_⟩) (by omega)
    · have hle1 : (emL (wa r y) P (k + 1).toNat).1 ≤ 72 := Int.le_trans (emL_mono hP0 (by omega)) hle
      have hTk : TD G (emL (wa r y) P k.toNat) := by rw [if_neg (by omega)] at hT; exact hT
      rw [← emL_a hk0 (by omega)] at hle1
      obtain ⟨hle2, hle3⟩ := emN_b hle1
      have hm1 := (emL_1 (f := wa r y) hP0 k.toNat).1
      rw [em_1] at hle2 hle3
      refine q_aload_n C 0 dX4_draftLine_14 rfl ?_
      refine q_iload_n C 1 dX4_draftLine_15 rfl ?_
      refine q_iload_n C 2 dX4_draftLine_16 rfl ?_
      refine q_cI (q_runV (As := [.int (iI y), .int (iI k)]) (rest := []) C (k_X4_wordAt l hrG (x := y) (p := k) ⟨by omega, by omega⟩ ⟨by omega, by omega⟩) kd110 (by decide) rfl wd_948 wd_947 wd_25 wd_81 wd_945 nd_X4_wordAt rfl (by decide) ⟨Nat.zero_le _, Nat.zero_le _⟩ rfl (Nat.le_of_ble_eq_true rfl) dX4_draftLine_17) ?_
      rintro z F' ⟨rfl, rfl⟩
      have q17 := hI.wd (l := y) (p := k) (by omega) (by omega) (by omega) (by omega)
      refine q_istore_n (lv' := [(3, .int (iI (wa r y k))), (0, .ref (adr w 110)), (1, .int (iI y)), (2, .int (iI k))]) C dX4_draftLine_20 (by decide) rfl ?_
      refine q_iload_n C 3 dX4_draftLine_21 rfl ?_
      refine q_if_le C 31 dX4_draftLine_22 ⟨by omega, by omega⟩  (by decide) (fun h22 => absurd h22 (by omega)) (fun h22 => ?_)
      refine q_aload_n C 1 dX4_draftLine_25 rfl ?_
      refine q_bipush C 44 dX4_draftLine_26 (by decide) ?_
      refine q_cV (q_runV (As := [.int (iI 44)]) (rest := []) C (k_X4_draftSign (F := G) (P := (emL (wa r y) P k.toNat)) (c := 44) l hTk ⟨by (try simp only [em_1]); omega, by (try simp only [em_1]); omega⟩) kd110 (by decide) rfl wd_1131 wd_1130 wd_55 wd_81 wd_1128 nd_X4_draftSign rfl (by decide) ⟨Nat.zero_le _, Nat.zero_le _⟩ rfl (Nat.le_of_ble_eq_true rfl) dX4_draftLine_28) ?_
      rintro G8_ ⟨hTG8_, hfG8_⟩
      have hFG8_ := FrD.trans hfk hfG8_
      have hrG8_ : G8_ 111 = r := (hFG8_.1 111 (by decide) (by decide)).trans hr
      refine q_iload_n C 0 dX4_draftLine_31 rfl ?_
      refine q_bipush C 9 dX4_draftLine_32 (by decide) ?_
      refine q_icmp_le C 48 dX4_draftLine_34 ⟨by omega, by omega⟩ ⟨by decide, by decide⟩ (by decide) (fun h34 => ?_) (fun h34 => ?_)
      · refine q_aload_n C 1 dX4_draftLine_48 rfl ?_
        refine q_bipush C 48 dX4_draftLine_49 (by decide) ?_
        refine q_iload_n C 0 dX4_draftLine_51 rfl ?_
        refine q_bipush C 10 dX4_draftLine_52 (by decide) ?_
        refine q_irem C dX4_draftLine_54 ⟨by omega, by omega⟩ ⟨by decide, by decide⟩ ?_
        refine q_iadd C dX4_draftLine_55 ?_
        refine q_cV (q_runV (As := [.int (iI (48 + ((wa r y k) % 10)))]) (rest := []) C (k_X4_draftSign (F := G8_) (P := (em (emL (wa r y) P k.toNat) 44)) (c := 48 + ((wa r y k) % 10)) l hTG8_ ⟨by (try simp only [em_1]); omega, by (try simp only [em_1]); omega⟩) kd110 (by decide) rfl wd_1131 wd_1130 wd_55 wd_81 wd_1128 nd_X4_draftSign rfl (by decide) ⟨Nat.zero_le _, Nat.zero_le _⟩ rfl (Nat.le_of_ble_eq_true rfl) dX4_draftLine_56) ?_
        rintro G9_ ⟨hTG9_, hfG9_⟩
        have hFG9_ := FrD.trans hFG8_ hfG9_
        have hrG9_ : G9_ 111 = r := (hFG9_.1 111 (by decide) (by decide)).trans hr
        refine q_iinc (lv' := [(2, .int (iI (k + 1))), (3, .int (iI (wa r y k))), (0, .ref (adr w 110)), (1, .int (iI y))]) C 3 dX4_draftLine_59 rfl (by decide) rfl ?_
        refine q_goto C 2 dX4_draftLine_62 (by decide) ?_
        refine q_lv (lv' := [(0, .ref (adr w 110)), (1, .int (iI y)), (2, .int (iI (k + 1)))]) [2, 3, 0] rfl ?_
        exact ih2 (k + 1) G9_ (⟨by omega, by omega, by rw [if_neg (by omega), ← emL_a hk0 (by omega)]; unfold emN; first | (rw [if_pos (by omega)]; exact hTG9_) | (rw [if_neg (by omega)]; exact hTG9_), hFG9_⟩) (by omega)
      · refine q_aload_n C 1 dX4_draftLine_37 rfl ?_
        refine q_bipush C 48 dX4_draftLine_38 (by decide) ?_
        refine q_iload_n C 0 dX4_draftLine_40 rfl ?_
        refine q_bipush C 10 dX4_draftLine_41 (by decide) ?_
        refine q_idiv C dX4_draftLine_43 ⟨by omega, by omega⟩ ⟨by decide, by decide⟩ ?_
        refine q_iadd C dX4_draftLine_44 ?_
        refine q_cV (q_runV (As := [.int (iI (48 + ((wa r y k) / 10)))]) (rest := []) C (k_X4_draftSign (F := G8_) (P := (em (emL (wa r y) P k.toNat) 44)) (c := 48 + ((wa r y k) / 10)) l hTG8_ ⟨by (try simp only [em_1]); omega, by (try simp only [em_1]); omega⟩) kd110 (by decide) rfl wd_1131 wd_1130 wd_55 wd_81 wd_1128 nd_X4_draftSign rfl (by decide) ⟨Nat.zero_le _, Nat.zero_le _⟩ rfl (Nat.le_of_ble_eq_true rfl) dX4_draftLine_45) ?_
        rintro G10_ ⟨hTG10_, hfG10_⟩
        have hFG10_ := FrD.trans hFG8_ hfG10_
        have hrG10_ : G10_ 111 = r := (hFG10_.1 111 (by decide) (by decide)).trans hr
        refine q_aload_n C 1 dX4_draftLine_48 rfl ?_
        refine q_bipush C 48 dX4_draftLine_49 (by decide) ?_
        refine q_iload_n C 0 dX4_draftLine_51 rfl ?_
        refine q_bipush C 10 dX4_draftLine_52 (by decide) ?_
        refine q_irem C dX4_draftLine_54 ⟨by omega, by omega⟩ ⟨by decide, by decide⟩ ?_
        refine q_iadd C dX4_draftLine_55 ?_
        refine q_cV (q_runV (As := [.int (iI (48 + ((wa r y k) % 10)))]) (rest := []) C (k_X4_draftSign (F := G10_) (P := (em (em (emL (wa r y) P k.toNat) 44) (48 + ((wa r y k) / 10)))) (c := 48 + ((wa r y k) % 10)) l hTG10_ ⟨by (try simp only [em_1]); omega, by (try simp only [em_1]); omega⟩) kd110 (by decide) rfl wd_1131 wd_1130 wd_55 wd_81 wd_1128 nd_X4_draftSign rfl (by decide) ⟨Nat.zero_le _, Nat.zero_le _⟩ rfl (Nat.le_of_ble_eq_true rfl) dX4_draftLine_56) ?_
        rintro G11_ ⟨hTG11_, hfG11_⟩
        have hFG11_ := FrD.trans hFG10_ hfG11_
        have hrG11_ : G11_ 111 = r := (hFG11_.1 111 (by decide) (by decide)).trans hr
        refine q_iinc (lv' := [(2, .int (iI (k + 1))), (3, .int (iI (wa r y k))), (0, .ref (adr w 110)), (1, .int (iI y))]) C 3 dX4_draftLine_59 rfl (by decide) rfl ?_
        refine q_goto C 2 dX4_draftLine_62 (by decide) ?_
        refine q_lv (lv' := [(0, .ref (adr w 110)), (1, .int (iI y)), (2, .int (iI (k + 1)))]) [2, 3, 0] rfl ?_
        exact ih2 (k + 1) G11_ (⟨by omega, by omega, by rw [if_neg (by omega), ← emL_a hk0 (by omega)]; unfold emN; first | (rw [if_pos (by omega)]; exact hTG11_) | (rw [if_neg (by omega)]; exact hTG11_), hFG11_⟩) (by omega)

set_option maxRecDepth 100000 in
set_option maxHeartbeats 4000000 in
theorem k_X4_write (l : Launch) {w : WP} {F : FF} {A : AS} {d : Int} (hM : MI F A) (hV : AV A) (hd : inR d) : Con l yX4_write cX4_write 3 (some .int) 2 w [.ref (adr w 110), .int (iI d)] F (QI w (fun z F' => (writeT A d = 0 ∧ z = writeZ A d ∧ MJ F F' (writeN A d) 0) ∨ (writeT A d ≠ 0 ∧ MJ F F' A (writeT A d)))) := by
  refine Con.mk (lv := [(0, .ref (adr w 110)), (1, .int (iI d))]) (by decide) (Nat.le_of_ble_eq_true rfl) rfl ?_
  intro pg ev s0 mi be me co C hz
  have hr : F 111 = A.r := hM.r
  have hI : Iv A.r := hM.iv
  have hJ := MJ.refl hM
  have hnb := hV.1
  unfold nb at hnb
  have hlr := hM.lr
  have hnr := hM.s.2.1
  obtain ⟨hd1, hd2⟩ := id hd
  refine q_aload_n C 0 dX4_write_0 rfl ?_
  refine q_iconst C 0 dX4_write_1 ?_
  refine q_put (T := TX4) (tyX := tyX4) (i := 8) (j := 8) (z := 0) (ty := .int) C rfl kd110 (by decide) rfl uws4 tyX4_ok nmX4 (by decide) (kd_ln.2.2.2.2 kd110) wd_873 rfl rfl rfl rfl (fsS_4_8 w _ _ _) (Nat.le_of_ble_eq_true rfl) dX4_write_2 ?_
  have hJ1 := MJ.thr (z := 0) hJ
  have hr1 : (up F 110 8 0) 111 = A.r := hJ1.1.r
  refine q_iload_n C 1 dX4_write_5 rfl ?_
  refine q_cI (q_runS (As := [.int (iI d)]) (rest := []) C (k_X4_isDoor l (x := d) ⟨by omega, by omega⟩) wd_936 wd_935 wd_81 wd_934 nd_X4_isDoor rfl (by decide) ⟨Nat.zero_le _, Nat.zero_le _⟩ rfl (Nat.le_of_ble_eq_true rfl) dX4_write_6) ?_
  rintro z F' ⟨⟨rfl, hq6⟩ | ⟨rfl, hq6⟩, rfl⟩
  · refine q_if_ne C 18 dX4_write_9 ⟨by decide, by decide⟩  (by decide) (fun _ => ?_) (fun h => absurd h (by decide))
    refine q_aload_n C 0 dX4_write_18 rfl ?_
    refine q_iconst C 0 dX4_write_19 ?_
    refine q_put (T := TX4) (tyX := tyX4) (i := 15) (j := 15) (z := 0) (ty := .int) C rfl kd110 (by decide) rfl uws4 tyX4_ok nmX4 (by decide) (kd_ln.2.2.2.2 kd110) wd_880 rfl rfl rfl rfl (fsS_4_15 w _ _ _) (Nat.le_of_ble_eq_true rfl) dX4_write_20 ?_
    have hJ0 := MJ.fld (i := 15) (z := 0) hJ1 ⟨by decide, by decide, by decide⟩
    have hr0 : (up (up F 110 8 0) 110 15 0) 111 = A.r := hJ0.1.r
    refine q_iconst C 4 dX4_write_23 ?_
    refine q_iload_n C 1 dX4_write_24 rfl ?_
    refine q_imul C dX4_write_25 ?_
    refine q_istore_n (lv' := [(2, .int (iI (4 * d))), (0, .ref (adr w 110)), (1, .int (iI d))]) C dX4_write_26 (by decide) rfl ?_
    refine q_lv (lv' := [(0, .ref (adr w 110)), (1, .int (iI d)), (2, .int (iI (4 * d)))]) [1, 2, 0] rfl ?_
    refine wf2 (P := fun (o : Int) (G : FF) => Wq pg l ev _ s0 mi _ be me co _ w _ _ _ 27 [(0, .ref (adr w 110)), (1, .int (iI d)), (2, .int (iI o))] [] G) (I := fun (o : Int) (G : FF) => 4 * d ≤ o ∧ o ≤ 4 * d + 4 ∧ TD G (emD A.r d (o - 4 * d).toNat) ∧ FrD (up (up F 110 8 0) 110 15 0) G) (μ := fun (o : Int) (G : FF) => (4 * d + 4 - o).toNat) ?_ (4 * d) (up (up F 110 8 0) 110 15 0) (⟨by omega, by omega, by rw [show (4 * d - 4 * d).toNat = 0 by omega]; exact ⟨up_eq, fun i a c => by have c2 : i < 0 := c; omega⟩, FrD.refl⟩)
    intro o G hI' ih27
    (try dsimp only at hI'); (try dsimp only at ih27); (try dsimp only)
    obtain ⟨ho0, ho1, hT, hfk⟩ := hI'
    have hrG : G 111 = A.r := (hfk.1 111 (by decide) (by decide)).trans hr0
    refine q_iload_n C 2 dX4_write_27 rfl ?_
    refine q_iconst C 4 dX4_write_28 ?_
    refine q_iload_n C 1 dX4_write_29 rfl ?_
    refine q_imul C dX4_write_30 ?_
    refine q_iconst C 4 dX4_write_31 ?_
    refine q_iadd C dX4_write_32 ?_
    refine q_icmp_ge C 71 dX4_write_33 ⟨by omega, by omega⟩ ⟨by omega, by omega⟩ (by decide) (fun h33 => ?_) (fun h33 => ?_)
    · have hT9 : TD G (txD A.r d) := by rw [show (o - 4 * d).toNat = 4 by omega] at hT; exact hT
      have hJ1 := MJ.dr hJ0 hfk
      have hn0 : 0 ≤ (txD A.r d).1 := emD_1 A.r d 4
      have hn9 : (txD A.r d).1 ≤ 72 := Int.le_trans (emD_le hI ⟨by omega, by omega⟩ 4 (by omega)) (by decide)
      refine q_aload_n C 0 dX4_write_71 rfl ?_
      refine q_get (T := TX4) (i := 15) C kd110 (by decide) rfl uws4 (by decide) wd_880 rfl dX4_write_72 ?_
      refine q_top (z' := (txD A.r d).1) hT9.1 ?_
      refine q_bipush C 60 dX4_write_75 (by decide) ?_
      refine q_icmp_le C 82 dX4_write_77 ⟨by omega, by omega⟩ ⟨by decide, by decide⟩ (by decide) (fun h77 => ?_) (fun h77 => ?_)
      · refine q_iconst C 0 dX4_write_82 ?_
        refine q_istore_n (lv' := [(2, .int (iI 0)), (0, .ref (adr w 110)), (1, .int (iI d))]) C dX4_write_83 (by decide) rfl ?_
        refine q_lv (lv' := [(0, .ref (adr w 110)), (1, .int (iI d)), (2, .int (iI 0))]) [1, 2, 0] rfl ?_
        refine wf2 (P := fun (k : Int) (H : FF) => Wq pg l ev _ s0 mi _ be me co _ w _ _ _ 84 [(0, .ref (adr w 110)), (1, .int (iI d)), (2, .int (iI k))] [] H) (I := fun (k : Int) (H : FF) => 0 ≤ k ∧ k ≤ (txD A.r d).1 ∧ (∀ i, 0 ≤ i → i < k → H 116 i = (txD A.r d).2 i) ∧ (∀ q, q ≠ 116 → H q = G q)) (μ := fun (k : Int) (H : FF) => ((txD A.r d).1 - k).toNat) ?_ 0 G (⟨by omega, by omega, fun i a c => by omega, fun q _ => rfl⟩)
        intro k H hI' ih84
        (try dsimp only at hI'); (try dsimp only at ih84); (try dsimp only)
        obtain ⟨hk0, hk1, hHc, hHf⟩ := hI'
        have hT9 : TD H (txD A.r d) := ⟨(congrFun (hHf 110 (by decide)) 15).trans hT9.1, fun i a c => (congrFun (hHf 119 (by decide)) i).trans (hT9.2 i a c)⟩
        refine q_iload_n C 2 dX4_write_84 rfl ?_
        refine q_aload_n C 0 dX4_write_85 rfl ?_
        refine q_get (T := TX4) (i := 15) C kd110 (by decide) rfl uws4 (by decide) wd_880 rfl dX4_write_86 ?_
        refine q_top (z' := (txD A.r d).1) hT9.1 ?_
        refine q_icmp_ge C 110 dX4_write_89 ⟨by omega, by omega⟩ ⟨by omega, by omega⟩ (by decide) (fun h89 => ?_) (fun h89 => ?_)
        · refine q_aload_n C 0 dX4_write_110 rfl ?_
          refine q_aload_n C 0 dX4_write_111 rfl ?_
          refine q_get (T := TX4) (i := 15) C kd110 (by decide) rfl uws4 (by decide) wd_880 rfl dX4_write_112 ?_
          refine q_top (z' := (txD A.r d).1) hT9.1 ?_
          refine q_put (T := TX4) (tyX := tyX4) (i := 7) (j := 7) (z := ((txD A.r d).1)) (ty := .int) C rfl kd110 (by decide) rfl uws4 tyX4_ok nmX4 (by decide) (kd_ln.2.2.2.2 kd110) wd_872 rfl rfl rfl rfl (fsS_4_7 w _ _ _) (Nat.le_of_ble_eq_true rfl) dX4_write_115 ?_
          have hJE := MJ.txt (P := txD A.r d) (G' := (up H 110 7 ((txD A.r d).1))) hJ1 (fun q a c => by rw [up_k a]; exact hHf q (by omega)) (by rw [up_j (by decide), hHf 110 (by decide)]) (by rw [up_j (by decide), hHf 110 (by decide)]) up_eq ⟨by omega, by omega⟩ (fun i a c => by rw [up_k (by decide)]; exact hHc i a (by omega))
          refine q_aload_n C 0 dX4_write_118 rfl ?_
          refine q_get (T := TX4) (i := 7) C kd110 (by decide) rfl uws4 (by decide) wd_872 rfl dX4_write_119 ?_
          refine q_top (z' := (A.buf (txD A.r d)).len) (hJE.1.l) ?_
          refine q_iret C dX4_write_122 ?_
          exact Or.inl ⟨(by unfold writeT; rw [if_neg (by omega)]), (by unfold writeZ; rw [if_neg (by omega)]; rfl), (by unfold writeN; rw [if_neg (by omega)]; exact hJE)⟩
        · refine q_aload_n C 0 dX4_write_92 rfl ?_
          refine q_get (T := TX4) (i := 6) C kd110 (by decide) rfl uws4 (by decide) wd_871 rfl dX4_write_93 ?_
          refine q_iload_n C 2 dX4_write_96 rfl ?_
          refine q_aload_n C 0 dX4_write_97 rfl ?_
          refine q_get (T := TX4) (i := 14) C kd110 (by decide) rfl uws4 (by decide) wd_879 rfl dX4_write_98 ?_
          refine q_iload_n C 2 dX4_write_101 rfl ?_
          refine q_iald C kd119 ⟨by omega, by rw [ln119]; omega⟩ dX4_write_102 ?_
          refine q_top (z' := (txD A.r d).2 k) (hT9.2 k (by omega) (by omega)) ?_
          refine q_iast C kd116 ⟨by omega, by rw [ln116]; omega⟩ dX4_write_103 ?_
          refine q_iinc (lv' := [(2, .int (iI (k + 1))), (0, .ref (adr w 110)), (1, .int (iI d))]) C 2 dX4_write_104 rfl (by decide) rfl ?_
          refine q_goto C 84 dX4_write_107 (by decide) ?_
          refine q_lv (lv' := [(0, .ref (adr w 110)), (1, .int (iI d)), (2, .int (iI (k + 1)))]) [1, 2, 0] rfl ?_
          exact ih84 (k + 1) (up H 116 k ((txD A.r d).2 k)) (⟨by omega, by omega, fun i a c => by (by_cases e : i = k); (rw [e, up_eq]); (rw [up_j e]; exact hHc i a (by omega)), fun q a => by rw [up_k a]; exact hHf q a⟩) (by omega)
      · refine q_iconst C (-1) dX4_write_80 ?_
        refine q_iret C dX4_write_81 ?_
        exact Or.inl ⟨(by unfold writeT; rw [if_neg (by omega)]), (by unfold writeZ; rw [if_pos (by omega)]), (by unfold writeN; rw [if_pos (by omega)]; exact hJ1)⟩
    · have hso := hI.sz (l := o) (by omega) (by omega)
      have hi4 := emD_le (r := A.r) hI (d := d) ⟨by omega, by omega⟩ (o - 4 * d + 1).toNat (by omega)
      rw [← emD_i (by omega), show 4 * d + (o - 4 * d) = o by omega] at hi4
      have hle9 : (emL (wa A.r o) (emD A.r d (o - 4 * d).toNat) (A.r o).toNat).1 ≤ 72 := by omega
      have hPn := emD_1 A.r d (o - 4 * d).toNat
      have hPx := emD_le (r := A.r) hI (d := d) ⟨by omega, by omega⟩ (o - 4 * d).toNat (by omega)
      refine q_aload_n C 0 dX4_write_36 rfl ?_
      refine q_get (T := TX4) (i := 0) C kd110 (by decide) rfl uws4 (by decide) wd_865 rfl dX4_write_37 ?_
      refine q_iconst C 0 dX4_write_40 ?_
      refine q_iload_n C 2 dX4_write_41 rfl ?_
      refine q_iadd C dX4_write_42 ?_
      refine q_iald C kd111 ⟨by omega, by rw [ln111]; omega⟩ dX4_write_43 ?_
      refine q_top (z' := A.r o) ((congrFun hrG _).trans (congrArg A.r (by omega))) ?_
      refine q_if_le C 60 dX4_write_44 ⟨by omega, by omega⟩  (by decide) (fun h44 => ?_) (fun h44 => ?_)
      · refine q_aload_n C 0 dX4_write_60 rfl ?_
        refine q_iload_n C 2 dX4_write_61 rfl ?_
        refine q_cV (q_runV (As := [.int (iI o)]) (rest := []) C (k_X4_draftLine (F := G) (P := emD A.r d (o - 4 * d).toNat) (y := o) l hrG hI ⟨by omega, by omega⟩ (emD_1 _ _ _) (by first | (rw [if_pos (by omega)]; exact hT) | (rw [if_neg (by omega)]; exact hT)) hle9) kd110 (by decide) rfl wd_1135 wd_1134 wd_56 wd_81 wd_1132 nd_X4_draftLine rfl (by decide) ⟨Nat.zero_le _, Nat.zero_le _⟩ rfl (Nat.le_of_ble_eq_true rfl) dX4_write_62) ?_
        rintro G8 ⟨hT8, hf8⟩
        refine q_iinc (lv' := [(2, .int (iI (o + 1))), (0, .ref (adr w 110)), (1, .int (iI d))]) C 2 dX4_write_65 rfl (by decide) rfl ?_
        refine q_goto C 27 dX4_write_68 (by decide) ?_
        refine q_lv (lv' := [(0, .ref (adr w 110)), (1, .int (iI d)), (2, .int (iI (o + 1)))]) [1, 2, 0] rfl ?_
        exact ih27 (o + 1) G8 (⟨by omega, by omega, by rw [show o + 1 - 4 * d = (o - 4 * d) + 1 by omega, ← emD_i (by omega), show 4 * d + (o - 4 * d) = o by omega]; exact hT8, (FrD.trans hfk hf8)⟩) (by omega)
      · refine q_aload_n C 0 dX4_write_47 rfl ?_
        refine q_get (T := TX4) (i := 15) C kd110 (by decide) rfl uws4 (by decide) wd_880 rfl dX4_write_48 ?_
        refine q_top (z' := (emD A.r d (o - 4 * d).toNat).1) hT.1 ?_
        refine q_if_le C 60 dX4_write_51 ⟨by omega, by omega⟩  (by decide) (fun h51 => ?_) (fun h51 => ?_)
        · refine q_aload_n C 0 dX4_write_60 rfl ?_
          refine q_iload_n C 2 dX4_write_61 rfl ?_
          refine q_cV (q_runV (As := [.int (iI o)]) (rest := []) C (k_X4_draftLine (F := G) (P := emD A.r d (o - 4 * d).toNat) (y := o) l hrG hI ⟨by omega, by omega⟩ (emD_1 _ _ _) (by first | (rw [if_pos (by omega)]; exact hT) | (rw [if_neg (by omega)]; exact hT)) hle9) kd110 (by decide) rfl wd_1135 wd_1134 wd_56 wd_81 wd_1132 nd_X4_draftLine rfl (by decide) ⟨Nat.zero_le _, Nat.zero_le _⟩ rfl (Nat.le_of_ble_eq_true rfl) dX4_write_62) ?_
          rintro G8 ⟨hT8, hf8⟩
          refine q_iinc (lv' := [(2, .int (iI (o + 1))), (0, .ref (adr w 110)), (1, .int (iI d))]) C 2 dX4_write_65 rfl (by decide) rfl ?_
          refine q_goto C 27 dX4_write_68 (by decide) ?_
          refine q_lv (lv' := [(0, .ref (adr w 110)), (1, .int (iI d)), (2, .int (iI (o + 1)))]) [1, 2, 0] rfl ?_
          exact ih27 (o + 1) G8 (⟨by omega, by omega, by rw [show o + 1 - 4 * d = (o - 4 * d) + 1 by omega, ← emD_i (by omega), show 4 * d + (o - 4 * d) = o by omega]; exact hT8, (FrD.trans hfk hf8)⟩) (by omega)
        · refine q_aload_n C 0 dX4_write_54 rfl ?_
          refine q_bipush C 47 dX4_write_55 (by decide) ?_
          refine q_cV (q_runV (As := [.int (iI 47)]) (rest := []) C (k_X4_draftSign (F := G) (P := (emD A.r d (o - 4 * d).toNat)) (c := 47) l hT ⟨by (try simp only [em_1]); omega, by (try simp only [em_1]); omega⟩) kd110 (by decide) rfl wd_1131 wd_1130 wd_55 wd_81 wd_1128 nd_X4_draftSign rfl (by decide) ⟨Nat.zero_le _, Nat.zero_le _⟩ rfl (Nat.le_of_ble_eq_true rfl) dX4_write_57) ?_
          rintro G6_ ⟨hTG6_, hfG6_⟩
          have hFG6_ := FrD.trans hfk hfG6_
          have hrG6_ : G6_ 111 = A.r := (hFG6_.1 111 (by decide) (by decide)).trans hr0
          refine q_aload_n C 0 dX4_write_60 rfl ?_
          refine q_iload_n C 2 dX4_write_61 rfl ?_
          refine q_cV (q_runV (As := [.int (iI o)]) (rest := []) C (k_X4_draftLine (F := G6_) (P := emD A.r d (o - 4 * d).toNat) (y := o) l hrG6_ hI ⟨by omega, by omega⟩ (emD_1 _ _ _) (by first | (rw [if_pos (by omega)]; exact hTG6_) | (rw [if_neg (by omega)]; exact hTG6_)) hle9) kd110 (by decide) rfl wd_1135 wd_1134 wd_56 wd_81 wd_1132 nd_X4_draftLine rfl (by decide) ⟨Nat.zero_le _, Nat.zero_le _⟩ rfl (Nat.le_of_ble_eq_true rfl) dX4_write_62) ?_
          rintro G8 ⟨hT8, hf8⟩
          refine q_iinc (lv' := [(2, .int (iI (o + 1))), (0, .ref (adr w 110)), (1, .int (iI d))]) C 2 dX4_write_65 rfl (by decide) rfl ?_
          refine q_goto C 27 dX4_write_68 (by decide) ?_
          refine q_lv (lv' := [(0, .ref (adr w 110)), (1, .int (iI d)), (2, .int (iI (o + 1)))]) [1, 2, 0] rfl ?_
          exact ih27 (o + 1) G8 (⟨by omega, by omega, by rw [show o + 1 - 4 * d = (o - 4 * d) + 1 by omega, ← emD_i (by omega), show 4 * d + (o - 4 * d) = o by omega]; exact hT8, (FrD.trans hFG6_ hf8)⟩) (by omega)
  · refine q_if_ne C 18 dX4_write_9 ⟨by decide, by decide⟩  (by decide) (fun h => absurd h (by decide)) (fun _ => ?_)
    refine q_aload_n C 0 dX4_write_12 rfl ?_
    refine q_iconst C 1 dX4_write_13 ?_
    refine q_cI (q_runV (As := [.int (iI 1)]) (rest := []) C (k_X4_fails (F := (up F 110 8 0)) l (x := 1)) kd110 (by decide) rfl wd_940 wd_939 wd_23 wd_81 wd_937 nd_X4_fails rfl (by decide) ⟨Nat.zero_le _, Nat.zero_le _⟩ rfl (Nat.le_of_ble_eq_true rfl) dX4_write_14) ?_
    rintro z F9 ⟨hz9, hF9⟩
    subst hz9
    subst hF9
    have hJf := MJ.thr (z := 1) hJ1
    refine q_iret C dX4_write_17 ?_
    have hT : writeT A d = 1 := (by unfold writeT; rw [if_pos (by omega)])
    exact Or.inr ⟨by rw [hT]; decide, by rw [hT]; exact hJf⟩
