/-! the reference: its whole state, its calls -/
def MI (F : FF) (A : AS) : Prop :=
  F 111 = A.r ∧ Iv A.r ∧ SI F A.n A.sv ∧ (∀ k, 0 ≤ k → k < 2 → F 114 k = A.kp k ∧ (A.kp k = 0 ∨ A.kp k = 1) ∧ (A.kp k = 1 → Iv (A.sl k) ∧ ∀ j, 0 ≤ j → j < 182 → F 113 (182 * k + j) = A.sl k j)) ∧ F 110 7 = A.len ∧ (0 ≤ A.len ∧ A.len ≤ 60) ∧ ∀ i, 0 ≤ i → i < A.len → F 116 i = A.B i
section MIS
variable {F G G' : FF} {A : AS} {t : Int}
theorem MI.r (h : MI F A) : F 111 = A.r := h.1
theorem MI.iv (h : MI F A) : Iv A.r := h.2.1
theorem MI.s (h : MI F A) : SI F A.n A.sv := h.2.2.1
theorem MI.k (h : MI F A) {k : Int} (h0 : 0 ≤ k) (h1 : k < 2) : F 114 k = A.kp k ∧ (A.kp k = 0 ∨ A.kp k = 1) ∧ (A.kp k = 1 → Iv (A.sl k) ∧ ∀ j, 0 ≤ j → j < 182 → F 113 (182 * k + j) = A.sl k j) := h.2.2.2.1 k h0 h1
theorem MI.l (h : MI F A) : F 110 7 = A.len := h.2.2.2.2.1
theorem MI.lr (h : MI F A) : 0 ≤ A.len ∧ A.len ≤ 60 := h.2.2.2.2.2.1
theorem MI.c (h : MI F A) {i : Int} (h0 : 0 ≤ i) (h1 : i < A.len) : F 116 i = A.B i := h.2.2.2.2.2.2 i h0 h1
def FrM (F F' : FF) : Prop := ∀ k, (k < 110 ∨ 119 < k) → F' k = F k
def MJ (F F' : FF) (A : AS) (t : Int) : Prop := MI F' A ∧ FrM F F' ∧ F' 110 8 = t
theorem MJ.refl (h : MI F A) : MJ F F A (F 110 8) := ⟨h, fun _ _ => rfl, rfl⟩
theorem SI.of {n : Int} {sv : Int → Rw} (h : SI G n sv) (h2 : G' 110 2 = G 110 2) (hs : G' 112 = G 112) : SI G' n sv := by
  obtain ⟨a, b, c⟩ := h
  refine ⟨by rw [h2]; exact a, b, fun k q1 q2 => ⟨(c k q1 q2).1, fun j q3 q4 => ?_⟩⟩
  rw [hs]; exact (c k q1 q2).2 j q3 q4
theorem MI.of (h : MI G A) (hr : G' 111 = A.r) (h2 : G' 110 2 = G 110 2) (h7 : G' 110 7 = G 110 7) (a : G' 112 = G 112) (b : G' 113 = G 113) (c : G' 114 = G 114) (d : G' 116 = G 116) : MI G' A := by
  obtain ⟨h1, h3, h4, h5, h6, h8, h9⟩ := h
  exact ⟨hr, h3, h4.of h2 a, by rw [b, c]; exact h5, by rw [h7]; exact h6, h8, by rw [d]; exact h9⟩
theorem MJ.thr {z : Int} (h : MJ F G A t) : MJ F (up G 110 8 z) A z :=
  ⟨h.1.of (by rw [up_k (by decide)]; exact h.1.r) (up_j (by decide)) (up_j (by decide)) (up_k (by decide)) (up_k (by decide)) (up_k (by decide)) (up_k (by decide)), fun k q => by rw [up_k (by omega)]; exact h.2.1 k q, up_eq⟩
theorem MJ.fld {i z : Int} (h : MJ F G A t) (hi : i ≠ 2 ∧ i ≠ 7 ∧ i ≠ 8) : MJ F (up G 110 i z) A t :=
  ⟨h.1.of (by rw [up_k (by decide)]; exact h.1.r) (up_j (by omega)) (up_j (by omega)) (up_k (by decide)) (up_k (by decide)) (up_k (by decide)) (up_k (by decide)), fun k q => by rw [up_k (by omega)]; exact h.2.1 k q, by rw [up_j (by omega)]; exact h.2.2⟩
theorem MJ.scr {k : Nat} {i z : Int} (h : MJ F G A t) (hk : k = 115 ∨ k = 117 ∨ k = 118 ∨ k = 119) : MJ F (up G k i z) A t :=
  ⟨h.1.of (by rw [up_k (by omega)]; exact h.1.r) (by rw [up_k (by omega)]) (by rw [up_k (by omega)]) (up_k (by omega)) (up_k (by omega)) (up_k (by omega)) (up_k (by omega)), fun q a => by rw [up_k (by omega)]; exact h.2.1 q a, by rw [up_k (by omega)]; exact h.2.2⟩
theorem MI.row {r : Rw} (h : MI G A) (hr : G' 111 = r) (hI : Iv r) (hf : FrW G G') : MI G' (A.wr r) := by
  obtain ⟨h1, h3, h4, h5, h6, h8, h9⟩ := h
  refine ⟨hr, hI, h4.of (by rw [hf 110 (by decide)]) (hf 112 (by decide)), ?_, ?_, h8, ?_⟩
  · rw [hf 113 (by decide), hf 114 (by decide)]; exact h5
  · rw [hf 110 (by decide)]; exact h6
  · rw [hf 116 (by decide)]; exact h9
theorem MJ.wr {r : Rw} (h : MJ F G A t) (hr : G' 111 = r) (hI : Iv r) (hf : FrW G G') : MJ F G' (A.wr r) t :=
  ⟨h.1.row hr hI hf, fun k q => (hf k (by omega)).trans (h.2.1 k q), (congrFun (hf 110 (by decide)) 8).trans h.2.2⟩
theorem MJ.tr (h : MJ F G A t) (hr : G' 111 = A.r) (hf : FrA G G') : MJ F G' A t :=
  ⟨h.1.of hr (congrFun (hf 110 (by decide) (by decide)) 2) (congrFun (hf 110 (by decide) (by decide)) 7) (hf 112 (by decide) (by decide)) (hf 113 (by decide) (by decide)) (hf 114 (by decide) (by decide)) (hf 116 (by decide) (by decide)), fun k q => (hf k (by omega) (by omega)).trans (h.2.1 k q), (congrFun (hf 110 (by decide) (by decide)) 8).trans h.2.2⟩
theorem MJ.hx (h : MJ F G A t) (hr : G' 111 = A.r) (hf : FrX G G') : MJ F G' A t :=
  ⟨h.1.of hr (hf.2 2 (by decide)) (hf.2 7 (by decide)) (hf.1 112 (by decide) (by decide) (by decide)) (hf.1 113 (by decide) (by decide) (by decide)) (hf.1 114 (by decide) (by decide) (by decide)) (hf.1 116 (by decide) (by decide) (by decide)), fun k q => (hf.1 k (by omega) (by omega) (by omega)).trans (h.2.1 k q), (hf.2 8 (by decide)).trans h.2.2⟩
theorem MJ.sav (h : MJ F G A t) (hS : SI G' (if A.n = 6 then 6 else A.n + 1) (psh A.n A.sv A.r)) (hr : G' 111 = A.r) (hf : FrS G G') : MJ F G' A.sav t := by
  obtain ⟨⟨h1, h3, h4, h5, h6, h8, h9⟩, hC, ht⟩ := h
  refine ⟨⟨hr, h3, hS, ?_, ?_, h8, ?_⟩, fun k q => (hf.1 k (by omega) (by omega)).trans (hC k q), (hf.2 8 (by decide)).trans ht⟩
  · rw [hf.1 113 (by decide) (by decide), hf.1 114 (by decide) (by decide)]; exact h5
  · rw [hf.2 7 (by decide)]; exact h6
  · rw [hf.1 116 (by decide) (by decide)]; exact h9
theorem MJ.txt {P : Int × (Int → Int)} (h : MJ F G A t) (hk : ∀ k, k ≠ 110 → (k < 115 ∨ 119 < k) → G' k = G k) (h2 : G' 110 2 = G 110 2) (h8 : G' 110 8 = G 110 8) (hl : G' 110 7 = P.1) (hp : 0 ≤ P.1 ∧ P.1 ≤ 60) (hc : ∀ i, 0 ≤ i → i < P.1 → G' 116 i = P.2 i) : MJ F G' (A.buf P) t := by
  obtain ⟨⟨h1, h3, h4, h5, h6, h9, h10⟩, hC, ht⟩ := h
  refine ⟨⟨by rw [hk 111 (by decide) (by decide)]; exact h1, h3, h4.of h2 (hk 112 (by decide) (by decide)), ?_, hl, hp, hc⟩, fun k q => (hk k (by omega) (by omega)).trans (hC k q), h8.trans ht⟩
  rw [hk 113 (by decide) (by decide), hk 114 (by decide) (by decide)]; exact h5
theorem em_cell {c : Int} (h : MI G A) : ∀ i, 0 ≤ i → i < (em (A.len, A.B) c).1 → up G 116 A.len c 116 i = (em (A.len, A.B) c).2 i := by
  intro i a q
  have q2 : i < A.len + 1 := q
  show _ = if i = A.len then c else A.B i
  by_cases e : i = A.len
  · rw [if_pos e, e, up_eq]
  · rw [if_neg e, up_j e]; exact h.c a (by omega)
end MIS
theorem iv_ru {r : Rw} {i z : Int} (hI : Iv r) (hi : 136 ≤ i ∧ i < 176 ∨ 179 ≤ i ∧ i < 182) : Iv (ru r i z) := by
  have hlo : ∀ j, j ≠ i → ru r i z j = r j := fun j a => if_neg a
  have hse := hI.se
  exact (iv_hi hI (fun j a c => hlo j (by omega)) (fun d a c => by rw [hlo _ (by omega)]; exact hI.wt a c) (by rw [hlo _ (by omega), hlo _ (by omega), hlo _ (by omega)]; exact hse) (fun j hj => by rw [hlo _ (by omega)]; exact hI.zr hj)).1
theorem setr_iv {r : Rw} {k v : Int} (hI : Iv r) (hk : 0 ≤ k ∧ k < 3) (hv : 0 ≤ v ∧ v ≤ mostS k) : Iv (setr r k v) := by
  have hlo : ∀ j, j ≠ 176 + k → setr r k v j = r j := fun j a => if_neg a
  have hse := hI.se
  refine (iv_hi hI (fun j a c => hlo j (by omega)) (fun d a c => by rw [hlo _ (by omega)]; exact hI.wt a c) ?_ (fun j hj => by rw [hlo _ (by omega)]; exact hI.zr hj)).1
  unfold mostS at hv
  unfold setr
  rcases (show k = 0 ∨ k = 1 ∨ k = 2 by omega) with e | e | e <;> subst e
  · rw [if_pos (by decide), if_neg (by decide), if_neg (by decide)]; rw [if_pos rfl] at hv; omega
  · rw [if_neg (by decide), if_pos (by decide), if_neg (by decide)]; rw [if_neg (by decide), if_pos rfl] at hv; omega
  · rw [if_neg (by decide), if_neg (by decide), if_pos (by decide)]; rw [if_neg (by decide), if_neg (by decide)] at hv; omega

set_option maxRecDepth 100000 in
set_option maxHeartbeats 4000000 in
theorem k_X4_put (l : Launch) {w : WP} {F : FF} {A : AS} {x d y p : Int} (hM : MI F A) (hV : AV A) (hx : inR x) (hd : inR d) (hy : inR y) (hp : inR p) : Con l yX4_put cX4_put 6 (some .int) 4 w [.ref (adr w 110), .int (iI x), .int (iI d), .int (iI y), .int (iI p)] F (QI w (fun z F' => (putT A x d y p = 0 ∧ z = putZ A x d y p ∧ MJ F F' (putN A x d y p) 0) ∨ (putT A x d y p ≠ 0 ∧ MJ F F' A (putT A x d y p)))) := by
  refine Con.mk (lv := [(0, .ref (adr w 110)), (1, .int (iI x)), (2, .int (iI d)), (3, .int (iI y)), (4, .int (iI p))]) (by decide) (Nat.le_of_ble_eq_true rfl) rfl ?_
  intro pg ev s0 mi be me co C hz
  have hr : F 111 = A.r := hM.r
  have hI : Iv A.r := hM.iv
  have hJ := MJ.refl hM
  have hnb := hV.1
  unfold nb at hnb
  have hlr := hM.lr
  have hnr := hM.s.2.1
  obtain ⟨hx1, hx2⟩ := id hx
  obtain ⟨hd1, hd2⟩ := id hd
  obtain ⟨hy1, hy2⟩ := id hy
  obtain ⟨hp1, hp2⟩ := id hp
  refine q_aload_n C 0 dX4_put_0 rfl ?_
  refine q_iconst C 0 dX4_put_1 ?_
  refine q_put (T := TX4) (tyX := tyX4) (i := 8) (j := 8) (z := 0) (ty := .int) C rfl kd110 (by decide) rfl uws4 tyX4_ok nmX4 (by decide) (kd_ln.2.2.2.2 kd110) wd_873 rfl rfl rfl rfl (fsS_4_8 w _ _ _) (Nat.le_of_ble_eq_true rfl) dX4_put_2 ?_
  have hJ1 := MJ.thr (z := 0) hJ
  have hr1 : (up F 110 8 0) 111 = A.r := hJ1.1.r
  refine q_iload_n C 1 dX4_put_5 rfl ?_
  refine q_cI (q_runS (As := [.int (iI x)]) (rest := []) C (k_X4_isWord l (x := x) ⟨by omega, by omega⟩) wd_927 wd_926 wd_81 wd_925 nd_X4_isWord rfl (by decide) ⟨Nat.zero_le _, Nat.zero_le _⟩ rfl (Nat.le_of_ble_eq_true rfl) dX4_put_6) ?_
  rintro z F' ⟨⟨rfl, hq6⟩ | ⟨rfl, hq6⟩, rfl⟩
  · refine q_if_eq C 41 dX4_put_9 ⟨by decide, by decide⟩  (by decide) (fun h => absurd h (by decide)) (fun _ => ?_)
    refine q_iload_n C 2 dX4_put_12 rfl ?_
    refine q_iload_n C 3 dX4_put_13 rfl ?_
    refine q_cI (q_runS (As := [.int (iI d), .int (iI y)]) (rest := []) C (k_X4_isLine l (x := d) (y := y) ⟨by omega, by omega⟩ ⟨by omega, by omega⟩) wd_933 wd_932 wd_81 wd_931 nd_X4_isLine rfl (by decide) ⟨Nat.zero_le _, Nat.zero_le _⟩ rfl (Nat.le_of_ble_eq_true rfl) dX4_put_14) ?_
    rintro z F' ⟨⟨rfl, hq14⟩ | ⟨rfl, hq14⟩, rfl⟩
    · refine q_if_eq C 41 dX4_put_17 ⟨by decide, by decide⟩  (by decide) (fun h => absurd h (by decide)) (fun _ => ?_)
      refine q_iload C 4 dX4_put_20 rfl ?_
      refine q_iconst C 0 dX4_put_22 ?_
      refine q_aload_n C 0 dX4_put_23 rfl ?_
      refine q_get (T := TX4) (i := 0) C kd110 (by decide) rfl uws4 (by decide) wd_865 rfl dX4_put_24 ?_
      refine q_iconst C 0 dX4_put_27 ?_
      refine q_iconst C 4 dX4_put_28 ?_
      refine q_iload_n C 2 dX4_put_29 rfl ?_
      refine q_imul C dX4_put_30 ?_
      refine q_iadd C dX4_put_31 ?_
      refine q_iload_n C 3 dX4_put_32 rfl ?_
      refine q_iadd C dX4_put_33 ?_
      refine q_iald C kd111 ⟨by omega, by rw [ln111]; omega⟩ dX4_put_34 ?_
      refine q_top (z' := A.r (4 * d + y)) ((congrFun hr1 _).trans (congrArg A.r (by omega))) ?_
      have q_2 := hI.sz (l := 4 * d + y) (by omega) (by omega)
      refine q_cI (q_runS (As := [.int (iI p), .int (iI 0), .int (iI (A.r (4 * d + y)))]) (rest := []) C (k_X4_in l (x := p) (a := 0) (b := A.r (4 * d + y)) ⟨by omega, by omega⟩ ⟨by omega, by omega⟩ ⟨by omega, by omega⟩) wd_930 wd_929 wd_81 wd_928 nd_X4_in rfl (by decide) ⟨Nat.zero_le _, Nat.zero_le _⟩ rfl (Nat.le_of_ble_eq_true rfl) dX4_put_35) ?_
      rintro z F' ⟨⟨rfl, hq35⟩ | ⟨rfl, hq35⟩, rfl⟩
      · refine q_if_ne C 47 dX4_put_38 ⟨by decide, by decide⟩  (by decide) (fun _ => ?_) (fun h => absurd h (by decide))
        refine q_aload_n C 0 dX4_put_47 rfl ?_
        refine q_iload_n C 1 dX4_put_48 rfl ?_
        refine q_cI (q_runV (As := [.int (iI x)]) (rest := []) C (k_X4_lineOfWord l hr1 hI (x := x) ⟨by omega, by omega⟩) kd110 (by decide) rfl wd_944 wd_943 wd_24 wd_81 wd_941 nd_X4_lineOfWord rfl (by decide) ⟨Nat.zero_le _, Nat.zero_le _⟩ rfl (Nat.le_of_ble_eq_true rfl) dX4_put_49) ?_
        rintro z F' ⟨rfl, rfl⟩
        have q49 := home_range A.r x
        refine q_iconst C (-1) dX4_put_52 ?_
        refine q_icmp_eq C 62 dX4_put_53 ⟨by omega, by omega⟩ ⟨by decide, by decide⟩ (by decide) (fun h53 => ?_) (fun h53 => ?_)
        · refine q_aload_n C 0 dX4_put_62 rfl ?_
          refine q_cV (q_runV (As := []) (rest := []) C (k_X4_save (F := (up F 110 8 0)) l hr1 hI hJ1.1.s) kd110 (by decide) rfl wd_952 wd_951 wd_26 wd_81 wd_949 nd_X4_save rfl (by decide) ⟨Nat.zero_le _, Nat.zero_le _⟩ rfl (Nat.le_of_ble_eq_true rfl) dX4_put_63) ?_
          rintro G3 ⟨hSG3, hEG3, hfG3⟩
          have hJG3 := MJ.sav hJ1 hSG3 hEG3 hfG3
          refine q_aload_n C 0 dX4_put_66 rfl ?_
          refine q_iload_n C 1 dX4_put_67 rfl ?_
          refine q_iconst C 4 dX4_put_68 ?_
          refine q_iload_n C 2 dX4_put_69 rfl ?_
          refine q_imul C dX4_put_70 ?_
          refine q_iload_n C 3 dX4_put_71 rfl ?_
          refine q_iadd C dX4_put_72 ?_
          refine q_iload C 4 dX4_put_73 rfl ?_
          refine q_cI (q_runV (As := [.int (iI x), .int (iI ((4 * d) + y)), .int (iI p)]) (rest := []) C (k_X4_reason l hEG3 hI (x := x) (y := (4 * d) + y) (p := p) ⟨by omega, by omega⟩ ⟨by omega, by omega⟩ ⟨by omega, by omega⟩) kd110 (by decide) rfl wd_956 wd_955 wd_27 wd_81 wd_953 nd_X4_reason rfl (by decide) ⟨Nat.zero_le _, Nat.zero_le _⟩ rfl (Nat.le_of_ble_eq_true rfl) dX4_put_75) ?_
          rintro z F' ⟨rfl, rfl⟩
          have q75 := rea_range A.r x ((4 * d) + y) p
          refine q_istore (lv' := [(5, .int (iI (rea A.r x ((4 * d) + y) p))), (0, .ref (adr w 110)), (1, .int (iI x)), (2, .int (iI d)), (3, .int (iI y)), (4, .int (iI p))]) C dX4_put_78 (by decide) rfl ?_
          refine q_iload C 0 dX4_put_80 rfl ?_
          refine q_if_ne C 112 dX4_put_82 ⟨by omega, by omega⟩  (by decide) (fun h82 => ?_) (fun h82 => ?_)
          · refine q_aload_n C 1 dX4_put_112 rfl ?_
            refine q_get (T := TX4) (i := 0) C kd110 (by decide) rfl uws4 (by decide) wd_865 rfl dX4_put_113 ?_
            refine q_sipush C 181 dX4_put_116 (by decide) ?_
            refine q_dup2 C dX4_put_119 rfl rfl ?_
            refine q_iald C kd111 ⟨by omega, by rw [ln111]; omega⟩ dX4_put_120 ?_
            refine q_top (z' := A.r 181) ((congrFun hEG3 _).trans (congrArg A.r (by omega))) ?_
            refine q_iconst C 1 dX4_put_121 ?_
            refine q_iadd C dX4_put_122 ?_
            refine q_iast C kd111 ⟨by omega, by rw [ln111]; omega⟩ dX4_put_123 ?_
            have hr5 : (up G3 111 181 ((A.r 181) + 1)) 111 = (rf A.r) := ru_r hEG3 (show (181 : Int) = 181 by omega)
            have hI5 : Iv (rf A.r) := iv_ru hI (by omega)
            have hJ5 := MJ.wr hJG3 hr5 hI5 (FrW.up FrW.refl)
            refine q_iload C 0 dX4_put_124 rfl ?_
            refine q_iret C dX4_put_126 ?_
            exact Or.inl ⟨(by unfold putT; rw [if_neg (by omega), if_neg (by omega)]), rfl, (by unfold putN; rw [if_neg (by omega)]; exact hJ5)⟩
          · have qlt := rea_lt hI (l := 4 * d + y) ⟨by omega, by omega⟩ h82
            refine q_aload_n C 1 dX4_put_85 rfl ?_
            refine q_iload_n C 2 dX4_put_86 rfl ?_
            refine q_iconst C 4 dX4_put_87 ?_
            refine q_iload_n C 3 dX4_put_88 rfl ?_
            refine q_imul C dX4_put_89 ?_
            refine q_iload_n C 4 dX4_put_90 rfl ?_
            refine q_iadd C dX4_put_91 ?_
            refine q_iload C 5 dX4_put_92 rfl ?_
            refine q_cV (q_runV (As := [.int (iI x), .int (iI ((4 * d) + y)), .int (iI p)]) (rest := []) C (k_X4_insert (F := G3) l hEG3 hI (x := x) (y := (4 * d) + y) (p := p) ⟨by omega, by omega⟩ (by first | assumption | omega) ⟨by omega, by omega⟩ ⟨by omega, by omega⟩ (by omega)) kd110 (by decide) rfl wd_977 wd_976 wd_30 wd_81 wd_974 nd_X4_insert rfl (by decide) ⟨Nat.zero_le _, Nat.zero_le _⟩ rfl (Nat.le_of_ble_eq_true rfl) dX4_put_94) ?_
            rintro G6 ⟨hEG6, hfG6⟩
            have hIG6 := ins_iv hI (x := x) (y := (4 * d) + y) (q := p) ⟨by omega, by omega⟩ (by first | assumption | omega) ⟨by omega, by omega⟩ ⟨by omega, by omega⟩ (by omega)
            have hJG6 := MJ.wr hJG3 hEG6 hIG6 hfG6
            refine q_aload_n C 1 dX4_put_97 rfl ?_
            refine q_get (T := TX4) (i := 0) C kd110 (by decide) rfl uws4 (by decide) wd_865 rfl dX4_put_98 ?_
            refine q_sipush C 180 dX4_put_101 (by decide) ?_
            refine q_dup2 C dX4_put_104 rfl rfl ?_
            refine q_iald C kd111 ⟨by omega, by rw [ln111]; omega⟩ dX4_put_105 ?_
            refine q_top (z' := (ins A.r x ((4 * d) + y) p) 180) ((congrFun hEG6 _).trans (congrArg (ins A.r x ((4 * d) + y) p) (by omega))) ?_
            refine q_iconst C 1 dX4_put_106 ?_
            refine q_iadd C dX4_put_107 ?_
            refine q_iast C kd111 ⟨by omega, by rw [ln111]; omega⟩ dX4_put_108 ?_
            have hr8 : (up G6 111 180 (((ins A.r x ((4 * d) + y) p) 180) + 1)) 111 = (pt (ins A.r x ((4 * d) + y) p)) := ru_r hEG6 (show (180 : Int) = 180 by omega)
            have hI8 : Iv (pt (ins A.r x ((4 * d) + y) p)) := iv_ru hIG6 (by omega)
            have hJ8 := MJ.wr hJG6 hr8 hI8 (FrW.up FrW.refl)
            refine q_goto C 124 dX4_put_109 (by decide) ?_
            refine q_iload C 0 dX4_put_124 rfl ?_
            refine q_iret C dX4_put_126 ?_
            exact Or.inl ⟨(by unfold putT; rw [if_neg (by omega), if_neg (by omega)]), rfl, (by unfold putN; rw [if_pos (by omega)]; exact hJ8)⟩
        · refine q_aload_n C 0 dX4_put_56 rfl ?_
          refine q_iconst C 2 dX4_put_57 ?_
          refine q_cI (q_runV (As := [.int (iI 2)]) (rest := []) C (k_X4_fails (F := (up F 110 8 0)) l (x := 2)) kd110 (by decide) rfl wd_940 wd_939 wd_23 wd_81 wd_937 nd_X4_fails rfl (by decide) ⟨Nat.zero_le _, Nat.zero_le _⟩ rfl (Nat.le_of_ble_eq_true rfl) dX4_put_58) ?_
          rintro z F9 ⟨hz9, hF9⟩
          subst hz9
          subst hF9
          have hJf := MJ.thr (z := 2) hJ1
          refine q_iret C dX4_put_61 ?_
          have hT : putT A x d y p = 2 := (by unfold putT; rw [if_neg (by omega), if_pos (by omega)])
          exact Or.inr ⟨by rw [hT]; decide, by rw [hT]; exact hJf⟩
      · refine q_if_ne C 47 dX4_put_38 ⟨by decide, by decide⟩  (by decide) (fun h => absurd h (by decide)) (fun _ => ?_)
        refine q_aload_n C 0 dX4_put_41 rfl ?_
        refine q_iconst C 1 dX4_put_42 ?_
        refine q_cI (q_runV (As := [.int (iI 1)]) (rest := []) C (k_X4_fails (F := (up F 110 8 0)) l (x := 1)) kd110 (by decide) rfl wd_940 wd_939 wd_23 wd_81 wd_937 nd_X4_fails rfl (by decide) ⟨Nat.zero_le _, Nat.zero_le _⟩ rfl (Nat.le_of_ble_eq_true rfl) dX4_put_43) ?_
        rintro z F9 ⟨hz9, hF9⟩
        subst hz9
        subst hF9
        have hJf := MJ.thr (z := 1) hJ1
        refine q_iret C dX4_put_46 ?_
        have hT : putT A x d y p = 1 := (by unfold putT; rw [if_pos (by omega)])
        exact Or.inr ⟨by rw [hT]; decide, by rw [hT]; exact hJf⟩
    · refine q_if_eq C 41 dX4_put_17 ⟨by decide, by decide⟩  (by decide) (fun _ => ?_) (fun h => absurd h (by decide))
      refine q_aload_n C 0 dX4_put_41 rfl ?_
      refine q_iconst C 1 dX4_put_42 ?_
      refine q_cI (q_runV (As := [.int (iI 1)]) (rest := []) C (k_X4_fails (F := (up F 110 8 0)) l (x := 1)) kd110 (by decide) rfl wd_940 wd_939 wd_23 wd_81 wd_937 nd_X4_fails rfl (by decide) ⟨Nat.zero_le _, Nat.zero_le _⟩ rfl (Nat.le_of_ble_eq_true rfl) dX4_put_43) ?_
      rintro z F9 ⟨hz9, hF9⟩
      subst hz9
      subst hF9
      have hJf := MJ.thr (z := 1) hJ1
      refine q_iret C dX4_put_46 ?_
      have hT : putT A x d y p = 1 := (by unfold putT; rw [if_pos (by omega)])
      exact Or.inr ⟨by rw [hT]; decide, by rw [hT]; exact hJf⟩
  · refine q_if_eq C 41 dX4_put_9 ⟨by decide, by decide⟩  (by decide) (fun _ => ?_) (fun h => absurd h (by decide))
    refine q_aload_n C 0 dX4_put_41 rfl ?_
    refine q_iconst C 1 dX4_put_42 ?_
    refine q_cI (q_runV (As := [.int (iI 1)]) (rest := []) C (k_X4_fails (F := (up F 110 8 0)) l (x := 1)) kd110 (by decide) rfl wd_940 wd_939 wd_23 wd_81 wd_937 nd_X4_fails rfl (by decide) ⟨Nat.zero_le _, Nat.zero_le _⟩ rfl (Nat.le_of_ble_eq_true rfl) dX4_put_43) ?_
    rintro z F9 ⟨hz9, hF9⟩
    subst hz9
    subst hF9
    have hJf := MJ.thr (z := 1) hJ1
    refine q_iret C dX4_put_46 ?_
    have hT : putT A x d y p = 1 := (by unfold putT; rw [if_pos (by omega)])
    exact Or.inr ⟨by rw [hT]; decide, by rw [hT]; exact hJf⟩

set_option maxRecDepth 100000 in
set_option maxHeartbeats 4000000 in
theorem k_X4_takeOff (l : Launch) {w : WP} {F : FF} {A : AS} {x : Int} (hM : MI F A) (hV : AV A) (hx : inR x) : Con l yX4_takeOff cX4_takeOff 3 (some .int) 4 w [.ref (adr w 110), .int (iI x)] F (QI w (fun z F' => (takeOffT A x = 0 ∧ z = takeOffZ A x ∧ MJ F F' (takeOffN A x) 0) ∨ (takeOffT A x ≠ 0 ∧ MJ F F' A (takeOffT A x)))) := by
  refine Con.mk (lv := [(0, .ref (adr w 110)), (1, .int (iI x))]) (by decide) (Nat.le_of_ble_eq_true rfl) rfl ?_
  intro pg ev s0 mi be me co C hz
  have hr : F 111 = A.r := hM.r
  have hI : Iv A.r := hM.iv
  have hJ := MJ.refl hM
  have hnb := hV.1
  unfold nb at hnb
  have hlr := hM.lr
  have hnr := hM.s.2.1
  obtain ⟨hx1, hx2⟩ := id hx
  refine q_aload_n C 0 dX4_takeOff_0 rfl ?_
  refine q_iconst C 0 dX4_takeOff_1 ?_
  refine q_put (T := TX4) (tyX := tyX4) (i := 8) (j := 8) (z := 0) (ty := .int) C rfl kd110 (by decide) rfl uws4 tyX4_ok nmX4 (by decide) (kd_ln.2.2.2.2 kd110) wd_873 rfl rfl rfl rfl (fsS_4_8 w _ _ _) (Nat.le_of_ble_eq_true rfl) dX4_takeOff_2 ?_
  have hJ1 := MJ.thr (z := 0) hJ
  have hr1 : (up F 110 8 0) 111 = A.r := hJ1.1.r
  refine q_iload_n C 1 dX4_takeOff_5 rfl ?_
  refine q_cI (q_runS (As := [.int (iI x)]) (rest := []) C (k_X4_isWord l (x := x) ⟨by omega, by omega⟩) wd_927 wd_926 wd_81 wd_925 nd_X4_isWord rfl (by decide) ⟨Nat.zero_le _, Nat.zero_le _⟩ rfl (Nat.le_of_ble_eq_true rfl) dX4_takeOff_6) ?_
  rintro z F' ⟨⟨rfl, hq6⟩ | ⟨rfl, hq6⟩, rfl⟩
  · refine q_if_ne C 18 dX4_takeOff_9 ⟨by decide, by decide⟩  (by decide) (fun _ => ?_) (fun h => absurd h (by decide))
    refine q_aload_n C 0 dX4_takeOff_18 rfl ?_
    refine q_iload_n C 1 dX4_takeOff_19 rfl ?_
    refine q_cI (q_runV (As := [.int (iI x)]) (rest := []) C (k_X4_lineOfWord l hr1 hI (x := x) ⟨by omega, by omega⟩) kd110 (by decide) rfl wd_944 wd_943 wd_24 wd_81 wd_941 nd_X4_lineOfWord rfl (by decide) ⟨Nat.zero_le _, Nat.zero_le _⟩ rfl (Nat.le_of_ble_eq_true rfl) dX4_takeOff_20) ?_
    rintro z F' ⟨rfl, rfl⟩
    have q20 := home_range A.r x
    refine q_istore_n (lv' := [(2, .int (iI (home A.r x))), (0, .ref (adr w 110)), (1, .int (iI x))]) C dX4_takeOff_23 (by decide) rfl ?_
    refine q_iload_n C 0 dX4_takeOff_24 rfl ?_
    refine q_iconst C (-1) dX4_takeOff_25 ?_
    refine q_icmp_ne C 35 dX4_takeOff_26 ⟨by omega, by omega⟩ ⟨by decide, by decide⟩ (by decide) (fun h26 => ?_) (fun h26 => ?_)
    · obtain ⟨hh0, hh1, hh2, hh3, hh4⟩ := home_at hI (x := x) (by omega)
      refine q_aload_n C 1 dX4_takeOff_35 rfl ?_
      refine q_cV (q_runV (As := []) (rest := []) C (k_X4_save (F := (up F 110 8 0)) l hr1 hI hJ1.1.s) kd110 (by decide) rfl wd_952 wd_951 wd_26 wd_81 wd_949 nd_X4_save rfl (by decide) ⟨Nat.zero_le _, Nat.zero_le _⟩ rfl (Nat.le_of_ble_eq_true rfl) dX4_takeOff_36) ?_
      rintro G2 ⟨hSG2, hEG2, hfG2⟩
      have hJG2 := MJ.sav hJ1 hSG2 hEG2 hfG2
      refine q_aload_n C 1 dX4_takeOff_39 rfl ?_
      refine q_iload_n C 0 dX4_takeOff_40 rfl ?_
      refine q_aload_n C 1 dX4_takeOff_41 rfl ?_
      refine q_iload_n C 2 dX4_takeOff_42 rfl ?_
      refine q_cI (q_runV (As := [.int (iI x)]) (rest := [.int (iI (home A.r x)), .ref (adr w 110)]) C (k_X4_placeOfWord l hEG2 hI (x := x) ⟨by omega, by omega⟩) kd110 (by decide) rfl wd_993 wd_992 wd_33 wd_81 wd_990 nd_X4_placeOfWord rfl (by decide) ⟨Nat.zero_le _, Nat.zero_le _⟩ rfl (Nat.le_of_ble_eq_true rfl) dX4_takeOff_43) ?_
      rintro z F' ⟨rfl, rfl⟩
      have q43 := plc_range hI (x := x)
      refine q_cV (q_runV (As := [.int (iI (home A.r x)), .int (iI (plc A.r x))]) (rest := []) C (k_X4_removeAt (F := G2) l hEG2 hI (y := home A.r x) (q := plc A.r x) ⟨by omega, by omega⟩ ⟨by omega, by omega⟩) kd110 (by decide) rfl wd_997 wd_996 wd_34 wd_81 wd_994 nd_X4_removeAt rfl (by decide) ⟨Nat.zero_le _, Nat.zero_le _⟩ rfl (Nat.le_of_ble_eq_true rfl) dX4_takeOff_46) ?_
      rintro G3 ⟨hEG3, hfG3⟩
      have hIG3 := rem_iv hI (y := home A.r x) (q := plc A.r x) ⟨by omega, by omega⟩ ⟨by omega, by omega⟩
      have hJG3 := MJ.wr hJG2 hEG3 hIG3 hfG3
      refine q_bipush C 10 dX4_takeOff_49 (by decide) ?_
      refine q_iload_n C 0 dX4_takeOff_51 rfl ?_
      refine q_iconst C 4 dX4_takeOff_52 ?_
      refine q_idiv C dX4_takeOff_53 ⟨by omega, by omega⟩ ⟨by decide, by decide⟩ ?_
      refine q_imul C dX4_takeOff_54 ?_
      refine q_iload_n C 0 dX4_takeOff_55 rfl ?_
      refine q_iconst C 4 dX4_takeOff_56 ?_
      refine q_irem C dX4_takeOff_57 ⟨by omega, by omega⟩ ⟨by decide, by decide⟩ ?_
      refine q_iadd C dX4_takeOff_58 ?_
      refine q_iret C dX4_takeOff_59 ?_
      exact Or.inl ⟨(by unfold takeOffT; rw [if_neg (by omega), if_neg (by omega)]), (by unfold takeOffZ lc; rw [if_neg (by omega)]), hJG3⟩
    · refine q_aload_n C 1 dX4_takeOff_29 rfl ?_
      refine q_iconst C 2 dX4_takeOff_30 ?_
      refine q_cI (q_runV (As := [.int (iI 2)]) (rest := []) C (k_X4_fails (F := (up F 110 8 0)) l (x := 2)) kd110 (by decide) rfl wd_940 wd_939 wd_23 wd_81 wd_937 nd_X4_fails rfl (by decide) ⟨Nat.zero_le _, Nat.zero_le _⟩ rfl (Nat.le_of_ble_eq_true rfl) dX4_takeOff_31) ?_
      rintro z F9 ⟨hz9, hF9⟩
      subst hz9
      subst hF9
      have hJf := MJ.thr (z := 2) hJ1
      refine q_iret C dX4_takeOff_34 ?_
      have hT : takeOffT A x = 2 := (by unfold takeOffT; rw [if_neg (by omega), if_pos (by omega)])
      exact Or.inr ⟨by rw [hT]; decide, by rw [hT]; exact hJf⟩
  · refine q_if_ne C 18 dX4_takeOff_9 ⟨by decide, by decide⟩  (by decide) (fun h => absurd h (by decide)) (fun _ => ?_)
    refine q_aload_n C 0 dX4_takeOff_12 rfl ?_
    refine q_iconst C 1 dX4_takeOff_13 ?_
    refine q_cI (q_runV (As := [.int (iI 1)]) (rest := []) C (k_X4_fails (F := (up F 110 8 0)) l (x := 1)) kd110 (by decide) rfl wd_940 wd_939 wd_23 wd_81 wd_937 nd_X4_fails rfl (by decide) ⟨Nat.zero_le _, Nat.zero_le _⟩ rfl (Nat.le_of_ble_eq_true rfl) dX4_takeOff_14) ?_
    rintro z F9 ⟨hz9, hF9⟩
    subst hz9
    subst hF9
    have hJf := MJ.thr (z := 1) hJ1
    refine q_iret C dX4_takeOff_17 ?_
    have hT : takeOffT A x = 1 := (by unfold takeOffT; rw [if_pos (by omega)])
    exact Or.inr ⟨by rw [hT]; decide, by rw [hT]; exact hJf⟩

set_option maxRecDepth 100000 in
set_option maxHeartbeats 4000000 in
theorem k_X4_move (l : Launch) {w : WP} {F : FF} {A : AS} {x d y : Int} (hM : MI F A) (hV : AV A) (hx : inR x) (hd : inR d) (hy : inR y) : Con l yX4_move cX4_move 7 (some .int) 4 w [.ref (adr w 110), .int (iI x), .int (iI d), .int (iI y)] F (QI w (fun z F' => (moveT A x d y = 0 ∧ z = moveZ A x d y ∧ MJ F F' (moveN A x d y) 0) ∨ (moveT A x d y ≠ 0 ∧ MJ F F' A (moveT A x d y)))) := by
  refine Con.mk (lv := [(0, .ref (adr w 110)), (1, .int (iI x)), (2, .int (iI d)), (3, .int (iI y))]) (by decide) (Nat.le_of_ble_eq_true rfl) rfl ?_
  intro pg ev s0 mi be me co C hz
  have hr : F 111 = A.r := hM.r
  have hI : Iv A.r := hM.iv
  have hJ := MJ.refl hM
  have hnb := hV.1
  unfold nb at hnb
  have hlr := hM.lr
  have hnr := hM.s.2.1
  obtain ⟨hx1, hx2⟩ := id hx
  obtain ⟨hd1, hd2⟩ := id hd
  obtain ⟨hy1, hy2⟩ := id hy
  refine q_aload_n C 0 dX4_move_0 rfl ?_
  refine q_iconst C 0 dX4_move_1 ?_
  refine q_put (T := TX4) (tyX := tyX4) (i := 8) (j := 8) (z := 0) (ty := .int) C rfl kd110 (by decide) rfl uws4 tyX4_ok nmX4 (by decide) (kd_ln.2.2.2.2 kd110) wd_873 rfl rfl rfl rfl (fsS_4_8 w _ _ _) (Nat.le_of_ble_eq_true rfl) dX4_move_2 ?_
  have hJ1 := MJ.thr (z := 0) hJ
  have hr1 : (up F 110 8 0) 111 = A.r := hJ1.1.r
  refine q_iload_n C 1 dX4_move_5 rfl ?_
  refine q_cI (q_runS (As := [.int (iI x)]) (rest := []) C (k_X4_isWord l (x := x) ⟨by omega, by omega⟩) wd_927 wd_926 wd_81 wd_925 nd_X4_isWord rfl (by decide) ⟨Nat.zero_le _, Nat.zero_le _⟩ rfl (Nat.le_of_ble_eq_true rfl) dX4_move_6) ?_
  rintro z F' ⟨⟨rfl, hq6⟩ | ⟨rfl, hq6⟩, rfl⟩
  · refine q_if_eq C 20 dX4_move_9 ⟨by decide, by decide⟩  (by decide) (fun h => absurd h (by decide)) (fun _ => ?_)
    refine q_iload_n C 2 dX4_move_12 rfl ?_
    refine q_iload_n C 3 dX4_move_13 rfl ?_
    refine q_cI (q_runS (As := [.int (iI d), .int (iI y)]) (rest := []) C (k_X4_isLine l (x := d) (y := y) ⟨by omega, by omega⟩ ⟨by omega, by omega⟩) wd_933 wd_932 wd_81 wd_931 nd_X4_isLine rfl (by decide) ⟨Nat.zero_le _, Nat.zero_le _⟩ rfl (Nat.le_of_ble_eq_true rfl) dX4_move_14) ?_
    rintro z F' ⟨⟨rfl, hq14⟩ | ⟨rfl, hq14⟩, rfl⟩
    · refine q_if_ne C 26 dX4_move_17 ⟨by decide, by decide⟩  (by decide) (fun _ => ?_) (fun h => absurd h (by decide))
      refine q_aload_n C 0 dX4_move_26 rfl ?_
      refine q_iload_n C 1 dX4_move_27 rfl ?_
      refine q_cI (q_runV (As := [.int (iI x)]) (rest := []) C (k_X4_lineOfWord l hr1 hI (x := x) ⟨by omega, by omega⟩) kd110 (by decide) rfl wd_944 wd_943 wd_24 wd_81 wd_941 nd_X4_lineOfWord rfl (by decide) ⟨Nat.zero_le _, Nat.zero_le _⟩ rfl (Nat.le_of_ble_eq_true rfl) dX4_move_28) ?_
      rintro z F' ⟨rfl, rfl⟩
      have q28 := home_range A.r x
      refine q_istore (lv' := [(4, .int (iI (home A.r x))), (0, .ref (adr w 110)), (1, .int (iI x)), (2, .int (iI d)), (3, .int (iI y))]) C dX4_move_31 (by decide) rfl ?_
      refine q_iconst C 4 dX4_move_33 ?_
      refine q_iload_n C 3 dX4_move_34 rfl ?_
      refine q_imul C dX4_move_35 ?_
      refine q_iload_n C 4 dX4_move_36 rfl ?_
      refine q_iadd C dX4_move_37 ?_
      refine q_istore (lv' := [(5, .int (iI ((4 * d) + y))), (4, .int (iI (home A.r x))), (0, .ref (adr w 110)), (1, .int (iI x)), (2, .int (iI d)), (3, .int (iI y))]) C dX4_move_38 (by decide) rfl ?_
      refine q_iload C 1 dX4_move_40 rfl ?_
      refine q_iconst C (-1) dX4_move_42 ?_
      refine q_icmp_eq C 53 dX4_move_43 ⟨by omega, by omega⟩ ⟨by decide, by decide⟩ (by decide) (fun h43 => ?_) (fun h43 => ?_)
      · refine q_aload_n C 2 dX4_move_53 rfl ?_
        refine q_iconst C 2 dX4_move_54 ?_
        refine q_cI (q_runV (As := [.int (iI 2)]) (rest := []) C (k_X4_fails (F := (up F 110 8 0)) l (x := 2)) kd110 (by decide) rfl wd_940 wd_939 wd_23 wd_81 wd_937 nd_X4_fails rfl (by decide) ⟨Nat.zero_le _, Nat.zero_le _⟩ rfl (Nat.le_of_ble_eq_true rfl) dX4_move_55) ?_
        rintro z F9 ⟨hz9, hF9⟩
        subst hz9
        subst hF9
        have hJf := MJ.thr (z := 2) hJ1
        refine q_iret C dX4_move_58 ?_
        have hT : moveT A x d y = 2 := (by unfold moveT; rw [if_neg (by omega), if_pos (by omega)])
        exact Or.inr ⟨by rw [hT]; decide, by rw [hT]; exact hJf⟩
      · refine q_iload C 1 dX4_move_46 rfl ?_
        refine q_iload C 0 dX4_move_48 rfl ?_
        refine q_icmp_ne C 59 dX4_move_50 ⟨by omega, by omega⟩ ⟨by omega, by omega⟩ (by decide) (fun h50 => ?_) (fun h50 => ?_)
        · refine q_aload_n C 2 dX4_move_59 rfl ?_
          refine q_cV (q_runV (As := []) (rest := []) C (k_X4_save (F := (up F 110 8 0)) l hr1 hI hJ1.1.s) kd110 (by decide) rfl wd_952 wd_951 wd_26 wd_81 wd_949 nd_X4_save rfl (by decide) ⟨Nat.zero_le _, Nat.zero_le _⟩ rfl (Nat.le_of_ble_eq_true rfl) dX4_move_60) ?_
          rintro G2 ⟨hSG2, hEG2, hfG2⟩
          have hJG2 := MJ.sav hJ1 hSG2 hEG2 hfG2
          refine q_aload_n C 2 dX4_move_63 rfl ?_
          refine q_iload_n C 3 dX4_move_64 rfl ?_
          refine q_iload C 0 dX4_move_65 rfl ?_
          refine q_aload_n C 2 dX4_move_67 rfl ?_
          refine q_get (T := TX4) (i := 0) C kd110 (by decide) rfl uws4 (by decide) wd_865 rfl dX4_move_68 ?_
          refine q_iconst C 0 dX4_move_71 ?_
          refine q_iload C 0 dX4_move_72 rfl ?_
          refine q_iadd C dX4_move_74 ?_
          refine q_iald C kd111 ⟨by omega, by rw [ln111]; omega⟩ dX4_move_75 ?_
          refine q_top (z' := A.r (4 * d + y)) ((congrFun hEG2 _).trans (congrArg A.r (by omega))) ?_
          have q_3 := hI.sz (l := 4 * d + y) (by omega) (by omega)
          refine q_cI (q_runV (As := [.int (iI x), .int (iI ((4 * d) + y)), .int (iI (A.r (4 * d + y)))]) (rest := []) C (k_X4_reason l hEG2 hI (x := x) (y := (4 * d) + y) (p := A.r (4 * d + y)) ⟨by omega, by omega⟩ ⟨by omega, by omega⟩ ⟨by omega, by omega⟩) kd110 (by decide) rfl wd_956 wd_955 wd_27 wd_81 wd_953 nd_X4_reason rfl (by decide) ⟨Nat.zero_le _, Nat.zero_le _⟩ rfl (Nat.le_of_ble_eq_true rfl) dX4_move_76) ?_
          rintro z F' ⟨rfl, rfl⟩
          have q76 := rea_range A.r x ((4 * d) + y) (A.r (4 * d + y))
          refine q_istore (lv' := [(6, .int (iI (rea A.r x ((4 * d) + y) (A.r (4 * d + y))))), (5, .int (iI ((4 * d) + y))), (4, .int (iI (home A.r x))), (0, .ref (adr w 110)), (1, .int (iI x)), (2, .int (iI d)), (3, .int (iI y))]) C dX4_move_79 (by decide) rfl ?_
          refine q_iload C 0 dX4_move_81 rfl ?_
          refine q_if_ne C 128 dX4_move_83 ⟨by omega, by omega⟩  (by decide) (fun h83 => ?_) (fun h83 => ?_)
          · refine q_aload_n C 3 dX4_move_128 rfl ?_
            refine q_get (T := TX4) (i := 0) C kd110 (by decide) rfl uws4 (by decide) wd_865 rfl dX4_move_129 ?_
            refine q_sipush C 181 dX4_move_132 (by decide) ?_
            refine q_dup2 C dX4_move_135 rfl rfl ?_
            refine q_iald C kd111 ⟨by omega, by rw [ln111]; omega⟩ dX4_move_136 ?_
            refine q_top (z' := A.r 181) ((congrFun hEG2 _).trans (congrArg A.r (by omega))) ?_
            refine q_iconst C 1 dX4_move_137 ?_
            refine q_iadd C dX4_move_138 ?_
            refine q_iast C kd111 ⟨by omega, by rw [ln111]; omega⟩ dX4_move_139 ?_
            have hr5 : (up G2 111 181 ((A.r 181) + 1)) 111 = (rf A.r) := ru_r hEG2 (show (181 : Int) = 181 by omega)
            have hI5 : Iv (rf A.r) := iv_ru hI (by omega)
            have hJ5 := MJ.wr hJG2 hr5 hI5 (FrW.up FrW.refl)
            refine q_iload C 0 dX4_move_140 rfl ?_
            refine q_iret C dX4_move_142 ?_
            exact Or.inl ⟨(by unfold moveT; rw [if_neg (by omega), if_neg (by omega)]), rfl, (by unfold moveN; rw [if_neg (by omega)]; exact hJ5)⟩
          · have qlt := rea_lt hI (l := 4 * d + y) ⟨by omega, by omega⟩ h83
            obtain ⟨hh0, hh1, hh2, hh3, hh4⟩ := home_at hI (x := x) (by omega)
            refine q_aload_n C 3 dX4_move_86 rfl ?_
            refine q_iload C 2 dX4_move_87 rfl ?_
            refine q_aload_n C 3 dX4_move_89 rfl ?_
            refine q_iload_n C 4 dX4_move_90 rfl ?_
            refine q_cI (q_runV (As := [.int (iI x)]) (rest := [.int (iI (home A.r x)), .ref (adr w 110)]) C (k_X4_placeOfWord l hEG2 hI (x := x) ⟨by omega, by omega⟩) kd110 (by decide) rfl wd_993 wd_992 wd_33 wd_81 wd_990 nd_X4_placeOfWord rfl (by decide) ⟨Nat.zero_le _, Nat.zero_le _⟩ rfl (Nat.le_of_ble_eq_true rfl) dX4_move_91) ?_
            rintro z F' ⟨rfl, rfl⟩
            have q91 := plc_range hI (x := x)
            refine q_cV (q_runV (As := [.int (iI (home A.r x)), .int (iI (plc A.r x))]) (rest := []) C (k_X4_removeAt (F := G2) l hEG2 hI (y := home A.r x) (q := plc A.r x) ⟨by omega, by omega⟩ ⟨by omega, by omega⟩) kd110 (by decide) rfl wd_997 wd_996 wd_34 wd_81 wd_994 nd_X4_removeAt rfl (by decide) ⟨Nat.zero_le _, Nat.zero_le _⟩ rfl (Nat.le_of_ble_eq_true rfl) dX4_move_94) ?_
            rintro G6 ⟨hEG6, hfG6⟩
            have hIG6 := rem_iv hI (y := home A.r x) (q := plc A.r x) ⟨by omega, by omega⟩ ⟨by omega, by omega⟩
            have hJG6 := MJ.wr hJG2 hEG6 hIG6 hfG6
            have qro := rem_other hI (x := x) (by omega) (l := 4 * d + y) (by omega) (by omega) (by omega)
            have hrx := rem_home_x hI (x := x) (by omega)
            refine q_aload_n C 3 dX4_move_97 rfl ?_
            refine q_iload_n C 4 dX4_move_98 rfl ?_
            refine q_iload C 1 dX4_move_99 rfl ?_
            refine q_aload_n C 3 dX4_move_101 rfl ?_
            refine q_get (T := TX4) (i := 0) C kd110 (by decide) rfl uws4 (by decide) wd_865 rfl dX4_move_102 ?_
            refine q_iconst C 0 dX4_move_105 ?_
            refine q_iload C 1 dX4_move_106 rfl ?_
            refine q_iadd C dX4_move_108 ?_
            refine q_iald C kd111 ⟨by omega, by rw [ln111]; omega⟩ dX4_move_109 ?_
            refine q_top (z' := A.r (4 * d + y)) ((congrFun hEG6 _).trans ((congrArg (rem A.r (home A.r x) (plc A.r x)) (by omega)).trans qro)) ?_
            refine q_cV (q_runV (As := [.int (iI x), .int (iI ((4 * d) + y)), .int (iI (A.r (4 * d + y)))]) (rest := []) C (k_X4_insert (F := G6) l hEG6 hIG6 (x := x) (y := (4 * d) + y) (p := A.r (4 * d + y)) ⟨by omega, by omega⟩ (by first | assumption | omega) ⟨by omega, by omega⟩ ⟨by omega, by omega⟩ (by omega)) kd110 (by decide) rfl wd_977 wd_976 wd_30 wd_81 wd_974 nd_X4_insert rfl (by decide) ⟨Nat.zero_le _, Nat.zero_le _⟩ rfl (Nat.le_of_ble_eq_true rfl) dX4_move_110) ?_
            rintro G7 ⟨hEG7, hfG7⟩
            have hIG7 := ins_iv hIG6 (x := x) (y := (4 * d) + y) (q := A.r (4 * d + y)) ⟨by omega, by omega⟩ (by first | assumption | omega) ⟨by omega, by omega⟩ ⟨by omega, by omega⟩ (by omega)
            have hJG7 := MJ.wr hJG6 hEG7 hIG7 hfG7
            refine q_aload_n C 3 dX4_move_113 rfl ?_
            refine q_get (T := TX4) (i := 0) C kd110 (by decide) rfl uws4 (by decide) wd_865 rfl dX4_move_114 ?_
            refine q_sipush C 180 dX4_move_117 (by decide) ?_
            refine q_dup2 C dX4_move_120 rfl rfl ?_
            refine q_iald C kd111 ⟨by omega, by rw [ln111]; omega⟩ dX4_move_121 ?_
            refine q_top (z' := (ins (rem A.r (home A.r x) (plc A.r x)) x ((4 * d) + y) (A.r (4 * d + y))) 180) ((congrFun hEG7 _).trans (congrArg (ins (rem A.r (home A.r x) (plc A.r x)) x ((4 * d) + y) (A.r (4 * d + y))) (by omega))) ?_
            refine q_iconst C 1 dX4_move_122 ?_
            refine q_iadd C dX4_move_123 ?_
            refine q_iast C kd111 ⟨by omega, by rw [ln111]; omega⟩ dX4_move_124 ?_
            have hr9 : (up G7 111 180 (((ins (rem A.r (home A.r x) (plc A.r x)) x ((4 * d) + y) (A.r (4 * d + y))) 180) + 1)) 111 = (pt (ins (rem A.r (home A.r x) (plc A.r x)) x ((4 * d) + y) (A.r (4 * d + y)))) := ru_r hEG7 (show (180 : Int) = 180 by omega)
            have hI9 : Iv (pt (ins (rem A.r (home A.r x) (plc A.r x)) x ((4 * d) + y) (A.r (4 * d + y)))) := iv_ru hIG7 (by omega)
            have hJ9 := MJ.wr hJG7 hr9 hI9 (FrW.up FrW.refl)
            refine q_goto C 140 dX4_move_125 (by decide) ?_
            refine q_iload C 0 dX4_move_140 rfl ?_
            refine q_iret C dX4_move_142 ?_
            exact Or.inl ⟨(by unfold moveT; rw [if_neg (by omega), if_neg (by omega)]), rfl, (by unfold moveN; rw [if_pos (by omega)]; exact hJ9)⟩
        · refine q_aload_n C 2 dX4_move_53 rfl ?_
          refine q_iconst C 2 dX4_move_54 ?_
          refine q_cI (q_runV (As := [.int (iI 2)]) (rest := []) C (k_X4_fails (F := (up F 110 8 0)) l (x := 2)) kd110 (by decide) rfl wd_940 wd_939 wd_23 wd_81 wd_937 nd_X4_fails rfl (by decide) ⟨Nat.zero_le _, Nat.zero_le _⟩ rfl (Nat.le_of_ble_eq_true rfl) dX4_move_55) ?_
          rintro z F9 ⟨hz9, hF9⟩
          subst hz9
          subst hF9
          have hJf := MJ.thr (z := 2) hJ1
          refine q_iret C dX4_move_58 ?_
          have hT : moveT A x d y = 2 := (by unfold moveT; rw [if_neg (by omega), if_pos (by omega)])
          exact Or.inr ⟨by rw [hT]; decide, by rw [hT]; exact hJf⟩
    · refine q_if_ne C 26 dX4_move_17 ⟨by decide, by decide⟩  (by decide) (fun h => absurd h (by decide)) (fun _ => ?_)
      refine q_aload_n C 0 dX4_move_20 rfl ?_
      refine q_iconst C 1 dX4_move_21 ?_
      refine q_cI (q_runV (As := [.int (iI 1)]) (rest := []) C (k_X4_fails (F := (up F 110 8 0)) l (x := 1)) kd110 (by decide) rfl wd_940 wd_939 wd_23 wd_81 wd_937 nd_X4_fails rfl (by decide) ⟨Nat.zero_le _, Nat.zero_le _⟩ rfl (Nat.le_of_ble_eq_true rfl) dX4_move_22) ?_
      rintro z F9 ⟨hz9, hF9⟩
      subst hz9
      subst hF9
      have hJf := MJ.thr (z := 1) hJ1
      refine q_iret C dX4_move_25 ?_
      have hT : moveT A x d y = 1 := (by unfold moveT; rw [if_pos (by omega)])
      exact Or.inr ⟨by rw [hT]; decide, by rw [hT]; exact hJf⟩
  · refine q_if_eq C 20 dX4_move_9 ⟨by decide, by decide⟩  (by decide) (fun _ => ?_) (fun h => absurd h (by decide))
    refine q_aload_n C 0 dX4_move_20 rfl ?_
    refine q_iconst C 1 dX4_move_21 ?_
    refine q_cI (q_runV (As := [.int (iI 1)]) (rest := []) C (k_X4_fails (F := (up F 110 8 0)) l (x := 1)) kd110 (by decide) rfl wd_940 wd_939 wd_23 wd_81 wd_937 nd_X4_fails rfl (by decide) ⟨Nat.zero_le _, Nat.zero_le _⟩ rfl (Nat.le_of_ble_eq_true rfl) dX4_move_22) ?_
    rintro z F9 ⟨hz9, hF9⟩
    subst hz9
    subst hF9
    have hJf := MJ.thr (z := 1) hJ1
    refine q_iret C dX4_move_25 ?_
    have hT : moveT A x d y = 1 := (by unfold moveT; rw [if_pos (by omega)])
    exact Or.inr ⟨by rw [hT]; decide, by rw [hT]; exact hJf⟩

set_option maxRecDepth 100000 in
set_option maxHeartbeats 4000000 in
theorem k_X4_clearDoor (l : Launch) {w : WP} {F : FF} {A : AS} {d : Int} (hM : MI F A) (hV : AV A) (hd : inR d) : Con l yX4_clearDoor cX4_clearDoor 2 (some .int) 5 w [.ref (adr w 110), .int (iI d)] F (QI w (fun z F' => (clearDoorT A d = 0 ∧ z = clearDoorZ A d ∧ MJ F F' (clearDoorN A d) 0) ∨ (clearDoorT A d ≠ 0 ∧ MJ F F' A (clearDoorT A d)))) := by
  refine Con.mk (lv := [(0, .ref (adr w 110)), (1, .int (iI d))]) (by decide) (Nat.le_of_ble_eq_true rfl) rfl ?_
  intro pg ev s0 mi be me co C hz
  have hr : F 111 = A.r := hM.r
  have hI : Iv A.r := hM.iv
  have hJ := MJ.refl hM
  have hnb := hV.1
  unfold nb at hnb
  have hlr := hM.lr
  have hnr := hM.s.2.1
  obtain ⟨hd1, hd2⟩ := id hd
  refine q_aload_n C 0 dX4_clearDoor_0 rfl ?_
  refine q_iconst C 0 dX4_clearDoor_1 ?_
  refine q_put (T := TX4) (tyX := tyX4) (i := 8) (j := 8) (z := 0) (ty := .int) C rfl kd110 (by decide) rfl uws4 tyX4_ok nmX4 (by decide) (kd_ln.2.2.2.2 kd110) wd_873 rfl rfl rfl rfl (fsS_4_8 w _ _ _) (Nat.le_of_ble_eq_true rfl) dX4_clearDoor_2 ?_
  have hJ1 := MJ.thr (z := 0) hJ
  have hr1 : (up F 110 8 0) 111 = A.r := hJ1.1.r
  refine q_iload_n C 1 dX4_clearDoor_5 rfl ?_
  refine q_cI (q_runS (As := [.int (iI d)]) (rest := []) C (k_X4_isDoor l (x := d) ⟨by omega, by omega⟩) wd_936 wd_935 wd_81 wd_934 nd_X4_isDoor rfl (by decide) ⟨Nat.zero_le _, Nat.zero_le _⟩ rfl (Nat.le_of_ble_eq_true rfl) dX4_clearDoor_6) ?_
  rintro z F' ⟨⟨rfl, hq6⟩ | ⟨rfl, hq6⟩, rfl⟩
  · refine q_if_ne C 18 dX4_clearDoor_9 ⟨by decide, by decide⟩  (by decide) (fun _ => ?_) (fun h => absurd h (by decide))
    refine q_aload_n C 0 dX4_clearDoor_18 rfl ?_
    refine q_cV (q_runV (As := []) (rest := []) C (k_X4_save (F := (up F 110 8 0)) l hr1 hI hJ1.1.s) kd110 (by decide) rfl wd_952 wd_951 wd_26 wd_81 wd_949 nd_X4_save rfl (by decide) ⟨Nat.zero_le _, Nat.zero_le _⟩ rfl (Nat.le_of_ble_eq_true rfl) dX4_clearDoor_19) ?_
    rintro G2 ⟨hSG2, hEG2, hfG2⟩
    have hJG2 := MJ.sav hJ1 hSG2 hEG2 hfG2
    refine q_aload_n C 0 dX4_clearDoor_22 rfl ?_
    refine q_iload_n C 1 dX4_clearDoor_23 rfl ?_
    refine q_cI (q_runV (As := [.int (iI d)]) (rest := []) C (k_X4_emptyDoor (F := G2) l hEG2 hI (d := d) ⟨by omega, by omega⟩) kd110 (by decide) rfl wd_1009 wd_1008 wd_35 wd_81 wd_1006 nd_X4_emptyDoor rfl (by decide) ⟨Nat.zero_le _, Nat.zero_le _⟩ rfl (Nat.le_of_ble_eq_true rfl) dX4_clearDoor_24) ?_
    rintro z G3 ⟨rfl, hEG3, hIG3, hfG3⟩
    have hJG3 := MJ.wr hJG2 hEG3 hIG3 hfG3
    refine q_iret C dX4_clearDoor_27 ?_
    exact Or.inl ⟨(by unfold clearDoorT; rw [if_neg (by omega)]), rfl, hJG3⟩
  · refine q_if_ne C 18 dX4_clearDoor_9 ⟨by decide, by decide⟩  (by decide) (fun h => absurd h (by decide)) (fun _ => ?_)
    refine q_aload_n C 0 dX4_clearDoor_12 rfl ?_
    refine q_iconst C 1 dX4_clearDoor_13 ?_
    refine q_cI (q_runV (As := [.int (iI 1)]) (rest := []) C (k_X4_fails (F := (up F 110 8 0)) l (x := 1)) kd110 (by decide) rfl wd_940 wd_939 wd_23 wd_81 wd_937 nd_X4_fails rfl (by decide) ⟨Nat.zero_le _, Nat.zero_le _⟩ rfl (Nat.le_of_ble_eq_true rfl) dX4_clearDoor_14) ?_
    rintro z F9 ⟨hz9, hF9⟩
    subst hz9
    subst hF9
    have hJf := MJ.thr (z := 1) hJ1
    refine q_iret C dX4_clearDoor_17 ?_
    have hT : clearDoorT A d = 1 := (by unfold clearDoorT; rw [if_pos (by omega)])
    exact Or.inr ⟨by rw [hT]; decide, by rw [hT]; exact hJf⟩

set_option maxRecDepth 100000 in
set_option maxHeartbeats 4000000 in
theorem k_X4_borrow (l : Launch) {w : WP} {F : FF} {A : AS} {d y e g : Int} (hM : MI F A) (hV : AV A) (hd : inR d) (hy : inR y) (he : inR e) (hg : inR g) : Con l yX4_borrow cX4_borrow 7 (some .int) 3 w [.ref (adr w 110), .int (iI d), .int (iI y), .int (iI e), .int (iI g)] F (QI w (fun z F' => (borrowT A d y e g = 0 ∧ z = borrowZ A d y e g ∧ MJ F F' (borrowN A d y e g) 0) ∨ (borrowT A d y e g ≠ 0 ∧ MJ F F' A (borrowT A d y e g)))) := by
  refine Con.mk (lv := [(0, .ref (adr w 110)), (1, .int (iI d)), (2, .int (iI y)), (3, .int (iI e)), (4, .int (iI g))]) (by decide) (Nat.le_of_ble_eq_true rfl) rfl ?_
  intro pg ev s0 mi be me co C hz
  have hr : F 111 = A.r := hM.r
  have hI : Iv A.r := hM.iv
  have hJ := MJ.refl hM
  have hnb := hV.1
  unfold nb at hnb
  have hlr := hM.lr
  have hnr := hM.s.2.1
  obtain ⟨hd1, hd2⟩ := id hd
  obtain ⟨hy1, hy2⟩ := id hy
  obtain ⟨he1, he2⟩ := id he
  obtain ⟨hg1, hg2⟩ := id hg
  refine q_aload_n C 0 dX4_borrow_0 rfl ?_
  refine q_iconst C 0 dX4_borrow_1 ?_
  refine q_put (T := TX4) (tyX := tyX4) (i := 8) (j := 8) (z := 0) (ty := .int) C rfl kd110 (by decide) rfl uws4 tyX4_ok nmX4 (by decide) (kd_ln.2.2.2.2 kd110) wd_873 rfl rfl rfl rfl (fsS_4_8 w _ _ _) (Nat.le_of_ble_eq_true rfl) dX4_borrow_2 ?_
  have hJ1 := MJ.thr (z := 0) hJ
  have hr1 : (up F 110 8 0) 111 = A.r := hJ1.1.r
  refine q_iload_n C 1 dX4_borrow_5 rfl ?_
  refine q_iload_n C 2 dX4_borrow_6 rfl ?_
  refine q_cI (q_runS (As := [.int (iI d), .int (iI y)]) (rest := []) C (k_X4_isLine l (x := d) (y := y) ⟨by omega, by omega⟩ ⟨by omega, by omega⟩) wd_933 wd_932 wd_81 wd_931 nd_X4_isLine rfl (by decide) ⟨Nat.zero_le _, Nat.zero_le _⟩ rfl (Nat.le_of_ble_eq_true rfl) dX4_borrow_7) ?_
  rintro z F' ⟨⟨rfl, hq7⟩ | ⟨rfl, hq7⟩, rfl⟩
  · refine q_if_eq C 22 dX4_borrow_10 ⟨by decide, by decide⟩  (by decide) (fun h => absurd h (by decide)) (fun _ => ?_)
    refine q_iload_n C 3 dX4_borrow_13 rfl ?_
    refine q_iload C 4 dX4_borrow_14 rfl ?_
    refine q_cI (q_runS (As := [.int (iI e), .int (iI g)]) (rest := []) C (k_X4_isLine l (x := e) (y := g) ⟨by omega, by omega⟩ ⟨by omega, by omega⟩) wd_933 wd_932 wd_81 wd_931 nd_X4_isLine rfl (by decide) ⟨Nat.zero_le _, Nat.zero_le _⟩ rfl (Nat.le_of_ble_eq_true rfl) dX4_borrow_16) ?_
    rintro z F' ⟨⟨rfl, hq16⟩ | ⟨rfl, hq16⟩, rfl⟩
    · refine q_if_ne C 28 dX4_borrow_19 ⟨by decide, by decide⟩  (by decide) (fun _ => ?_) (fun h => absurd h (by decide))
      refine q_iload_n C 1 dX4_borrow_28 rfl ?_
      refine q_iload_n C 3 dX4_borrow_29 rfl ?_
      refine q_icmp_ne C 39 dX4_borrow_30 ⟨by omega, by omega⟩ ⟨by omega, by omega⟩ (by decide) (fun h30 => ?_) (fun h30 => ?_)
      · refine q_iconst C 4 dX4_borrow_39 ?_
        refine q_iload_n C 1 dX4_borrow_40 rfl ?_
        refine q_imul C dX4_borrow_41 ?_
        refine q_iload_n C 2 dX4_borrow_42 rfl ?_
        refine q_iadd C dX4_borrow_43 ?_
        refine q_istore (lv' := [(5, .int (iI ((4 * d) + y))), (0, .ref (adr w 110)), (1, .int (iI d)), (2, .int (iI y)), (3, .int (iI e)), (4, .int (iI g))]) C dX4_borrow_44 (by decide) rfl ?_
        refine q_iconst C 4 dX4_borrow_46 ?_
        refine q_iload_n C 4 dX4_borrow_47 rfl ?_
        refine q_imul C dX4_borrow_48 ?_
        refine q_iload C 5 dX4_borrow_49 rfl ?_
        refine q_iadd C dX4_borrow_51 ?_
        refine q_istore (lv' := [(6, .int (iI ((4 * e) + g))), (5, .int (iI ((4 * d) + y))), (0, .ref (adr w 110)), (1, .int (iI d)), (2, .int (iI y)), (3, .int (iI e)), (4, .int (iI g))]) C dX4_borrow_52 (by decide) rfl ?_
        refine q_aload_n C 2 dX4_borrow_54 rfl ?_
        refine q_iload C 1 dX4_borrow_55 rfl ?_
        refine q_cI (q_runV (As := [.int (iI ((4 * d) + y))]) (rest := []) C (k_X4_canLend (F := (up F 110 8 0)) l hr1 hI (x := (4 * d) + y) ⟨by omega, by omega⟩) kd110 (by decide) rfl wd_1017 wd_1016 wd_36 wd_81 wd_1014 nd_X4_canLend rfl (by decide) ⟨Nat.zero_le _, Nat.zero_le _⟩ rfl (Nat.le_of_ble_eq_true rfl) dX4_borrow_57) ?_
        rintro z F' ⟨⟨rfl, hq57⟩ | ⟨rfl, hq57⟩, rfl⟩
        · refine q_if_eq C 72 dX4_borrow_60 ⟨by decide, by decide⟩  (by decide) (fun h => absurd h (by decide)) (fun _ => ?_)
          refine q_aload_n C 2 dX4_borrow_63 rfl ?_
          refine q_iload C 0 dX4_borrow_64 rfl ?_
          refine q_cI (q_runV (As := [.int (iI ((4 * e) + g))]) (rest := []) C (k_X4_canLend (F := (up F 110 8 0)) l hr1 hI (x := (4 * e) + g) ⟨by omega, by omega⟩) kd110 (by decide) rfl wd_1017 wd_1016 wd_36 wd_81 wd_1014 nd_X4_canLend rfl (by decide) ⟨Nat.zero_le _, Nat.zero_le _⟩ rfl (Nat.le_of_ble_eq_true rfl) dX4_borrow_66) ?_
          rintro z F' ⟨⟨rfl, hq66⟩ | ⟨rfl, hq66⟩, rfl⟩
          · refine q_if_ne C 78 dX4_borrow_69 ⟨by decide, by decide⟩  (by decide) (fun _ => ?_) (fun h => absurd h (by decide))
            refine q_aload_n C 2 dX4_borrow_78 rfl ?_
            refine q_cV (q_runV (As := []) (rest := []) C (k_X4_save (F := (up F 110 8 0)) l hr1 hI hJ1.1.s) kd110 (by decide) rfl wd_952 wd_951 wd_26 wd_81 wd_949 nd_X4_save rfl (by decide) ⟨Nat.zero_le _, Nat.zero_le _⟩ rfl (Nat.le_of_ble_eq_true rfl) dX4_borrow_79) ?_
            rintro G2 ⟨hSG2, hEG2, hfG2⟩
            have hJG2 := MJ.sav hJ1 hSG2 hEG2 hfG2
            refine q_aload_n C 2 dX4_borrow_82 rfl ?_
            refine q_get (T := TX4) (i := 0) C kd110 (by decide) rfl uws4 (by decide) wd_865 rfl dX4_borrow_83 ?_
            refine q_bipush C 112 dX4_borrow_86 (by decide) ?_
            refine q_iload C 1 dX4_borrow_88 rfl ?_
            refine q_iadd C dX4_borrow_90 ?_
            refine q_iload C 0 dX4_borrow_91 rfl ?_
            refine q_iconst C 1 dX4_borrow_93 ?_
            refine q_iadd C dX4_borrow_94 ?_
            refine q_iast C kd111 ⟨by omega, by rw [ln111]; omega⟩ dX4_borrow_95 ?_
            have hr3 : (up G2 111 (112 + ((4 * d) + y)) (((4 * e) + g) + 1)) 111 = (lnd A.r (4 * d + y) (4 * e + g)) := ru_r hEG2 (show (112 + ((4 * d) + y) : Int) = 112 + (4 * d + y) by omega)
            have hI3 : Iv (lnd A.r (4 * d + y) (4 * e + g)) := lnd_iv hI ⟨by omega, by omega⟩ ⟨by omega, by omega⟩ (by omega) (by omega) (by omega) (by omega) (by omega) (by omega) (by omega)
            have hJ3 := MJ.wr hJG2 hr3 hI3 (FrW.up FrW.refl)
            refine q_aload_n C 2 dX4_borrow_96 rfl ?_
            refine q_iload C 1 dX4_borrow_97 rfl ?_
            refine q_cI (q_runV (As := [.int (iI ((4 * d) + y))]) (rest := []) C (k_X4_lineEnding l hr3 hI3 (x := (4 * d) + y) ⟨by omega, by omega⟩) kd110 (by decide) rfl wd_1025 wd_1024 wd_38 wd_81 wd_1022 nd_X4_lineEnding rfl (by decide) ⟨Nat.zero_le _, Nat.zero_le _⟩ rfl (Nat.le_of_ble_eq_true rfl) dX4_borrow_99) ?_
            rintro z F' ⟨rfl, rfl⟩
            have q99 := le_range hI3 (l := (4 * d) + y) (by omega) (by omega)
            refine q_iret C dX4_borrow_102 ?_
            exact Or.inl ⟨(by unfold borrowT; rw [if_neg (by omega), if_neg (by omega), if_neg (by omega)]), rfl, hJ3⟩
          · refine q_if_ne C 78 dX4_borrow_69 ⟨by decide, by decide⟩  (by decide) (fun h => absurd h (by decide)) (fun _ => ?_)
            refine q_aload_n C 2 dX4_borrow_72 rfl ?_
            refine q_iconst C 3 dX4_borrow_73 ?_
            refine q_cI (q_runV (As := [.int (iI 3)]) (rest := []) C (k_X4_fails (F := (up F 110 8 0)) l (x := 3)) kd110 (by decide) rfl wd_940 wd_939 wd_23 wd_81 wd_937 nd_X4_fails rfl (by decide) ⟨Nat.zero_le _, Nat.zero_le _⟩ rfl (Nat.le_of_ble_eq_true rfl) dX4_borrow_74) ?_
            rintro z F9 ⟨hz9, hF9⟩
            subst hz9
            subst hF9
            have hJf := MJ.thr (z := 3) hJ1
            refine q_iret C dX4_borrow_77 ?_
            have hT : borrowT A d y e g = 3 := (by unfold borrowT; rw [if_neg (by omega), if_neg (by omega), if_pos (by omega)])
            exact Or.inr ⟨by rw [hT]; decide, by rw [hT]; exact hJf⟩
        · refine q_if_eq C 72 dX4_borrow_60 ⟨by decide, by decide⟩  (by decide) (fun _ => ?_) (fun h => absurd h (by decide))
          refine q_aload_n C 2 dX4_borrow_72 rfl ?_
          refine q_iconst C 3 dX4_borrow_73 ?_
          refine q_cI (q_runV (As := [.int (iI 3)]) (rest := []) C (k_X4_fails (F := (up F 110 8 0)) l (x := 3)) kd110 (by decide) rfl wd_940 wd_939 wd_23 wd_81 wd_937 nd_X4_fails rfl (by decide) ⟨Nat.zero_le _, Nat.zero_le _⟩ rfl (Nat.le_of_ble_eq_true rfl) dX4_borrow_74) ?_
          rintro z F9 ⟨hz9, hF9⟩
          subst hz9
          subst hF9
          have hJf := MJ.thr (z := 3) hJ1
          refine q_iret C dX4_borrow_77 ?_
          have hT : borrowT A d y e g = 3 := (by unfold borrowT; rw [if_neg (by omega), if_neg (by omega), if_pos (by omega)])
          exact Or.inr ⟨by rw [hT]; decide, by rw [hT]; exact hJf⟩
      · refine q_aload_n C 0 dX4_borrow_33 rfl ?_
        refine q_iconst C 2 dX4_borrow_34 ?_
        refine q_cI (q_runV (As := [.int (iI 2)]) (rest := []) C (k_X4_fails (F := (up F 110 8 0)) l (x := 2)) kd110 (by decide) rfl wd_940 wd_939 wd_23 wd_81 wd_937 nd_X4_fails rfl (by decide) ⟨Nat.zero_le _, Nat.zero_le _⟩ rfl (Nat.le_of_ble_eq_true rfl) dX4_borrow_35) ?_
        rintro z F9 ⟨hz9, hF9⟩
        subst hz9
        subst hF9
        have hJf := MJ.thr (z := 2) hJ1
        refine q_iret C dX4_borrow_38 ?_
        have hT : borrowT A d y e g = 2 := (by unfold borrowT; rw [if_neg (by omega), if_pos (by omega)])
        exact Or.inr ⟨by rw [hT]; decide, by rw [hT]; exact hJf⟩
    · refine q_if_ne C 28 dX4_borrow_19 ⟨by decide, by decide⟩  (by decide) (fun h => absurd h (by decide)) (fun _ => ?_)
      refine q_aload_n C 0 dX4_borrow_22 rfl ?_
      refine q_iconst C 1 dX4_borrow_23 ?_
      refine q_cI (q_runV (As := [.int (iI 1)]) (rest := []) C (k_X4_fails (F := (up F 110 8 0)) l (x := 1)) kd110 (by decide) rfl wd_940 wd_939 wd_23 wd_81 wd_937 nd_X4_fails rfl (by decide) ⟨Nat.zero_le _, Nat.zero_le _⟩ rfl (Nat.le_of_ble_eq_true rfl) dX4_borrow_24) ?_
      rintro z F9 ⟨hz9, hF9⟩
      subst hz9
      subst hF9
      have hJf := MJ.thr (z := 1) hJ1
      refine q_iret C dX4_borrow_27 ?_
      have hT : borrowT A d y e g = 1 := (by unfold borrowT; rw [if_pos (by omega)])
      exact Or.inr ⟨by rw [hT]; decide, by rw [hT]; exact hJf⟩
  · refine q_if_eq C 22 dX4_borrow_10 ⟨by decide, by decide⟩  (by decide) (fun _ => ?_) (fun h => absurd h (by decide))
    refine q_aload_n C 0 dX4_borrow_22 rfl ?_
    refine q_iconst C 1 dX4_borrow_23 ?_
    refine q_cI (q_runV (As := [.int (iI 1)]) (rest := []) C (k_X4_fails (F := (up F 110 8 0)) l (x := 1)) kd110 (by decide) rfl wd_940 wd_939 wd_23 wd_81 wd_937 nd_X4_fails rfl (by decide) ⟨Nat.zero_le _, Nat.zero_le _⟩ rfl (Nat.le_of_ble_eq_true rfl) dX4_borrow_24) ?_
    rintro z F9 ⟨hz9, hF9⟩
    subst hz9
    subst hF9
    have hJf := MJ.thr (z := 1) hJ1
    refine q_iret C dX4_borrow_27 ?_
    have hT : borrowT A d y e g = 1 := (by unfold borrowT; rw [if_pos (by omega)])
    exact Or.inr ⟨by rw [hT]; decide, by rw [hT]; exact hJf⟩

set_option maxRecDepth 100000 in
set_option maxHeartbeats 4000000 in
theorem k_X4_bringBack (l : Launch) {w : WP} {F : FF} {A : AS} {d y : Int} (hM : MI F A) (hV : AV A) (hd : inR d) (hy : inR y) : Con l yX4_bringBack cX4_bringBack 3 (some .int) 3 w [.ref (adr w 110), .int (iI d), .int (iI y)] F (QI w (fun z F' => (bringBackT A d y = 0 ∧ z = bringBackZ A d y ∧ MJ F F' (bringBackN A d y) 0) ∨ (bringBackT A d y ≠ 0 ∧ MJ F F' A (bringBackT A d y)))) := by
  refine Con.mk (lv := [(0, .ref (adr w 110)), (1, .int (iI d)), (2, .int (iI y))]) (by decide) (Nat.le_of_ble_eq_true rfl) rfl ?_
  intro pg ev s0 mi be me co C hz
  have hr : F 111 = A.r := hM.r
  have hI : Iv A.r := hM.iv
  have hJ := MJ.refl hM
  have hnb := hV.1
  unfold nb at hnb
  have hlr := hM.lr
  have hnr := hM.s.2.1
  obtain ⟨hd1, hd2⟩ := id hd
  obtain ⟨hy1, hy2⟩ := id hy
  refine q_aload_n C 0 dX4_bringBack_0 rfl ?_
  refine q_iconst C 0 dX4_bringBack_1 ?_
  refine q_put (T := TX4) (tyX := tyX4) (i := 8) (j := 8) (z := 0) (ty := .int) C rfl kd110 (by decide) rfl uws4 tyX4_ok nmX4 (by decide) (kd_ln.2.2.2.2 kd110) wd_873 rfl rfl rfl rfl (fsS_4_8 w _ _ _) (Nat.le_of_ble_eq_true rfl) dX4_bringBack_2 ?_
  have hJ1 := MJ.thr (z := 0) hJ
  have hr1 : (up F 110 8 0) 111 = A.r := hJ1.1.r
  refine q_iload_n C 1 dX4_bringBack_5 rfl ?_
  refine q_iload_n C 2 dX4_bringBack_6 rfl ?_
  refine q_cI (q_runS (As := [.int (iI d), .int (iI y)]) (rest := []) C (k_X4_isLine l (x := d) (y := y) ⟨by omega, by omega⟩ ⟨by omega, by omega⟩) wd_933 wd_932 wd_81 wd_931 nd_X4_isLine rfl (by decide) ⟨Nat.zero_le _, Nat.zero_le _⟩ rfl (Nat.le_of_ble_eq_true rfl) dX4_bringBack_7) ?_
  rintro z F' ⟨⟨rfl, hq7⟩ | ⟨rfl, hq7⟩, rfl⟩
  · refine q_if_ne C 19 dX4_bringBack_10 ⟨by decide, by decide⟩  (by decide) (fun _ => ?_) (fun h => absurd h (by decide))
    refine q_aload_n C 0 dX4_bringBack_19 rfl ?_
    refine q_get (T := TX4) (i := 0) C kd110 (by decide) rfl uws4 (by decide) wd_865 rfl dX4_bringBack_20 ?_
    refine q_bipush C 112 dX4_bringBack_23 (by decide) ?_
    refine q_iconst C 4 dX4_bringBack_25 ?_
    refine q_iload_n C 1 dX4_bringBack_26 rfl ?_
    refine q_imul C dX4_bringBack_27 ?_
    refine q_iadd C dX4_bringBack_28 ?_
    refine q_iload_n C 2 dX4_bringBack_29 rfl ?_
    refine q_iadd C dX4_bringBack_30 ?_
    refine q_iald C kd111 ⟨by omega, by rw [ln111]; omega⟩ dX4_bringBack_31 ?_
    refine q_top (z' := A.r (112 + (4 * d + y))) ((congrFun hr1 _).trans (congrArg A.r (by omega))) ?_
    have q_2 := hI.ld (l := 4 * d + y) (by omega) (by omega)
    refine q_if_ne C 41 dX4_bringBack_32 ⟨by omega, by omega⟩  (by decide) (fun h32 => ?_) (fun h32 => ?_)
    · refine q_aload_n C 0 dX4_bringBack_41 rfl ?_
      refine q_cV (q_runV (As := []) (rest := []) C (k_X4_save (F := (up F 110 8 0)) l hr1 hI hJ1.1.s) kd110 (by decide) rfl wd_952 wd_951 wd_26 wd_81 wd_949 nd_X4_save rfl (by decide) ⟨Nat.zero_le _, Nat.zero_le _⟩ rfl (Nat.le_of_ble_eq_true rfl) dX4_bringBack_42) ?_
      rintro G3 ⟨hSG3, hEG3, hfG3⟩
      have hJG3 := MJ.sav hJ1 hSG3 hEG3 hfG3
      refine q_aload_n C 0 dX4_bringBack_45 rfl ?_
      refine q_get (T := TX4) (i := 0) C kd110 (by decide) rfl uws4 (by decide) wd_865 rfl dX4_bringBack_46 ?_
      refine q_bipush C 112 dX4_bringBack_49 (by decide) ?_
      refine q_iconst C 4 dX4_bringBack_51 ?_
      refine q_iload_n C 1 dX4_bringBack_52 rfl ?_
      refine q_imul C dX4_bringBack_53 ?_
      refine q_iadd C dX4_bringBack_54 ?_
      refine q_iload_n C 2 dX4_bringBack_55 rfl ?_
      refine q_iadd C dX4_bringBack_56 ?_
      refine q_iconst C 0 dX4_bringBack_57 ?_
      refine q_iast C kd111 ⟨by omega, by rw [ln111]; omega⟩ dX4_bringBack_58 ?_
      have hr4 : (up G3 111 ((112 + (4 * d)) + y) 0) 111 = (brb A.r (4 * d + y)) := ru_r hEG3 (show ((112 + (4 * d)) + y : Int) = 112 + (4 * d + y) by omega)
      have hI4 : Iv (brb A.r (4 * d + y)) := brb_iv hI ⟨by omega, by omega⟩
      have hJ4 := MJ.wr hJG3 hr4 hI4 (FrW.up FrW.refl)
      refine q_aload_n C 0 dX4_bringBack_59 rfl ?_
      refine q_iconst C 4 dX4_bringBack_60 ?_
      refine q_iload_n C 1 dX4_bringBack_61 rfl ?_
      refine q_imul C dX4_bringBack_62 ?_
      refine q_iload_n C 2 dX4_bringBack_63 rfl ?_
      refine q_iadd C dX4_bringBack_64 ?_
      refine q_cI (q_runV (As := [.int (iI ((4 * d) + y))]) (rest := []) C (k_X4_lineEnding l hr4 hI4 (x := (4 * d) + y) ⟨by omega, by omega⟩) kd110 (by decide) rfl wd_1025 wd_1024 wd_38 wd_81 wd_1022 nd_X4_lineEnding rfl (by decide) ⟨Nat.zero_le _, Nat.zero_le _⟩ rfl (Nat.le_of_ble_eq_true rfl) dX4_bringBack_65) ?_
      rintro z F' ⟨rfl, rfl⟩
      have q65 := le_range hI4 (l := (4 * d) + y) (by omega) (by omega)
      refine q_iret C dX4_bringBack_68 ?_
      exact Or.inl ⟨(by unfold bringBackT; rw [if_neg (by omega), if_neg (by omega)]), rfl, hJ4⟩
    · refine q_aload_n C 0 dX4_bringBack_35 rfl ?_
      refine q_iconst C 2 dX4_bringBack_36 ?_
      refine q_cI (q_runV (As := [.int (iI 2)]) (rest := []) C (k_X4_fails (F := (up F 110 8 0)) l (x := 2)) kd110 (by decide) rfl wd_940 wd_939 wd_23 wd_81 wd_937 nd_X4_fails rfl (by decide) ⟨Nat.zero_le _, Nat.zero_le _⟩ rfl (Nat.le_of_ble_eq_true rfl) dX4_bringBack_37) ?_
      rintro z F9 ⟨hz9, hF9⟩
      subst hz9
      subst hF9
      have hJf := MJ.thr (z := 2) hJ1
      refine q_iret C dX4_bringBack_40 ?_
      have hT : bringBackT A d y = 2 := (by unfold bringBackT; rw [if_neg (by omega), if_pos (by omega)])
      exact Or.inr ⟨by rw [hT]; decide, by rw [hT]; exact hJf⟩
  · refine q_if_ne C 19 dX4_bringBack_10 ⟨by decide, by decide⟩  (by decide) (fun h => absurd h (by decide)) (fun _ => ?_)
    refine q_aload_n C 0 dX4_bringBack_13 rfl ?_
    refine q_iconst C 1 dX4_bringBack_14 ?_
    refine q_cI (q_runV (As := [.int (iI 1)]) (rest := []) C (k_X4_fails (F := (up F 110 8 0)) l (x := 1)) kd110 (by decide) rfl wd_940 wd_939 wd_23 wd_81 wd_937 nd_X4_fails rfl (by decide) ⟨Nat.zero_le _, Nat.zero_le _⟩ rfl (Nat.le_of_ble_eq_true rfl) dX4_bringBack_15) ?_
    rintro z F9 ⟨hz9, hF9⟩
    subst hz9
    subst hF9
    have hJf := MJ.thr (z := 1) hJ1
    refine q_iret C dX4_bringBack_18 ?_
    have hT : bringBackT A d y = 1 := (by unfold bringBackT; rw [if_pos (by omega)])
    exact Or.inr ⟨by rw [hT]; decide, by rw [hT]; exact hJf⟩

set_option maxRecDepth 100000 in
set_option maxHeartbeats 4000000 in
theorem k_X4_sleep (l : Launch) {w : WP} {F : FF} {A : AS} {m : Int} (hM : MI F A) (hV : AV A) (hm : inR m) : Con l yX4_sleep cX4_sleep 2 (some .int) 10 w [.ref (adr w 110), .int (iI m)] F (QI w (fun z F' => (sleepT A m = 0 ∧ z = sleepZ A m ∧ MJ F F' (sleepN A m) 0) ∨ (sleepT A m ≠ 0 ∧ MJ F F' A (sleepT A m)))) := by
  refine Con.mk (lv := [(0, .ref (adr w 110)), (1, .int (iI m))]) (by decide) (Nat.le_of_ble_eq_true rfl) rfl ?_
  intro pg ev s0 mi be me co C hz
  have hr : F 111 = A.r := hM.r
  have hI : Iv A.r := hM.iv
  have hJ := MJ.refl hM
  have hnb := hV.1
  unfold nb at hnb
  have hlr := hM.lr
  have hnr := hM.s.2.1
  obtain ⟨hm1, hm2⟩ := id hm
  refine q_aload_n C 0 dX4_sleep_0 rfl ?_
  refine q_iconst C 0 dX4_sleep_1 ?_
  refine q_put (T := TX4) (tyX := tyX4) (i := 8) (j := 8) (z := 0) (ty := .int) C rfl kd110 (by decide) rfl uws4 tyX4_ok nmX4 (by decide) (kd_ln.2.2.2.2 kd110) wd_873 rfl rfl rfl rfl (fsS_4_8 w _ _ _) (Nat.le_of_ble_eq_true rfl) dX4_sleep_2 ?_
  have hJ1 := MJ.thr (z := 0) hJ
  have hr1 : (up F 110 8 0) 111 = A.r := hJ1.1.r
  refine q_iload_n C 1 dX4_sleep_5 rfl ?_
  refine q_iconst C 1 dX4_sleep_6 ?_
  refine q_bipush C 20 dX4_sleep_7 (by decide) ?_
  refine q_cI (q_runS (As := [.int (iI m), .int (iI 1), .int (iI 20)]) (rest := []) C (k_X4_in l (x := m) (a := 1) (b := 20) ⟨by omega, by omega⟩ ⟨by omega, by omega⟩ ⟨by omega, by omega⟩) wd_930 wd_929 wd_81 wd_928 nd_X4_in rfl (by decide) ⟨Nat.zero_le _, Nat.zero_le _⟩ rfl (Nat.le_of_ble_eq_true rfl) dX4_sleep_9) ?_
  rintro z F' ⟨⟨rfl, hq9⟩ | ⟨rfl, hq9⟩, rfl⟩
  · refine q_if_ne C 21 dX4_sleep_12 ⟨by decide, by decide⟩  (by decide) (fun _ => ?_) (fun h => absurd h (by decide))
    refine q_aload_n C 0 dX4_sleep_21 rfl ?_
    refine q_get (T := TX4) (i := 0) C kd110 (by decide) rfl uws4 (by decide) wd_865 rfl dX4_sleep_22 ?_
    refine q_sipush C 179 dX4_sleep_25 (by decide) ?_
    refine q_iald C kd111 ⟨by omega, by rw [ln111]; omega⟩ dX4_sleep_28 ?_
    refine q_top (z' := A.r 179) ((congrFun hr1 _).trans (congrArg A.r (by omega))) ?_
    refine q_iload_n C 1 dX4_sleep_29 rfl ?_
    refine q_iadd C dX4_sleep_30 ?_
    refine q_sipush C 9999 dX4_sleep_31 (by decide) ?_
    refine q_icmp_le C 43 dX4_sleep_34 ⟨by omega, by omega⟩ ⟨by decide, by decide⟩ (by decide) (fun h34 => ?_) (fun h34 => ?_)
    · refine q_aload_n C 0 dX4_sleep_43 rfl ?_
      refine q_cV (q_runV (As := []) (rest := []) C (k_X4_save (F := (up F 110 8 0)) l hr1 hI hJ1.1.s) kd110 (by decide) rfl wd_952 wd_951 wd_26 wd_81 wd_949 nd_X4_save rfl (by decide) ⟨Nat.zero_le _, Nat.zero_le _⟩ rfl (Nat.le_of_ble_eq_true rfl) dX4_sleep_44) ?_
      rintro G3 ⟨hSG3, hEG3, hfG3⟩
      have hJG3 := MJ.sav hJ1 hSG3 hEG3 hfG3
      refine q_aload_n C 0 dX4_sleep_47 rfl ?_
      refine q_iload_n C 1 dX4_sleep_48 rfl ?_
      refine q_cI (q_runV (As := [.int (iI m)]) (rest := []) C (k_X4_nights (F := G3) l hEG3 hI (x := m) ⟨by omega, by omega⟩) kd110 (by decide) rfl wd_1040 wd_1039 wd_39 wd_81 wd_1037 nd_X4_nights rfl (by decide) ⟨Nat.zero_le _, Nat.zero_le _⟩ rfl (Nat.le_of_ble_eq_true rfl) dX4_sleep_49) ?_
      rintro z G4 ⟨rfl, hEG4, hfG4⟩
      have hIG4 := (ngs_iv hI (m : Int).toNat).1
      have hJG4 := MJ.wr hJG3 hEG4 hIG4 hfG4
      refine q_iret C dX4_sleep_52 ?_
      exact Or.inl ⟨(by unfold sleepT; rw [if_neg (by omega), if_neg (by omega)]), rfl, hJG4⟩
    · refine q_aload_n C 0 dX4_sleep_37 rfl ?_
      refine q_iconst C 2 dX4_sleep_38 ?_
      refine q_cI (q_runV (As := [.int (iI 2)]) (rest := []) C (k_X4_fails (F := (up F 110 8 0)) l (x := 2)) kd110 (by decide) rfl wd_940 wd_939 wd_23 wd_81 wd_937 nd_X4_fails rfl (by decide) ⟨Nat.zero_le _, Nat.zero_le _⟩ rfl (Nat.le_of_ble_eq_true rfl) dX4_sleep_39) ?_
      rintro z F9 ⟨hz9, hF9⟩
      subst hz9
      subst hF9
      have hJf := MJ.thr (z := 2) hJ1
      refine q_iret C dX4_sleep_42 ?_
      have hT : sleepT A m = 2 := (by unfold sleepT; rw [if_neg (by omega), if_pos (by omega)])
      exact Or.inr ⟨by rw [hT]; decide, by rw [hT]; exact hJf⟩
  · refine q_if_ne C 21 dX4_sleep_12 ⟨by decide, by decide⟩  (by decide) (fun h => absurd h (by decide)) (fun _ => ?_)
    refine q_aload_n C 0 dX4_sleep_15 rfl ?_
    refine q_iconst C 1 dX4_sleep_16 ?_
    refine q_cI (q_runV (As := [.int (iI 1)]) (rest := []) C (k_X4_fails (F := (up F 110 8 0)) l (x := 1)) kd110 (by decide) rfl wd_940 wd_939 wd_23 wd_81 wd_937 nd_X4_fails rfl (by decide) ⟨Nat.zero_le _, Nat.zero_le _⟩ rfl (Nat.le_of_ble_eq_true rfl) dX4_sleep_17) ?_
    rintro z F9 ⟨hz9, hF9⟩
    subst hz9
    subst hF9
    have hJf := MJ.thr (z := 1) hJ1
    refine q_iret C dX4_sleep_20 ?_
    have hT : sleepT A m = 1 := (by unfold sleepT; rw [if_pos (by omega)])
    exact Or.inr ⟨by rw [hT]; decide, by rw [hT]; exact hJf⟩

set_option maxRecDepth 100000 in
set_option maxHeartbeats 4000000 in
theorem k_X4_set (l : Launch) {w : WP} {F : FF} {A : AS} {k v : Int} (hM : MI F A) (hV : AV A) (hk : inR k) (hv : inR v) : Con l yX4_set cX4_set 4 (some .int) 1 w [.ref (adr w 110), .int (iI k), .int (iI v)] F (QI w (fun z F' => (setT A k v = 0 ∧ z = setZ A k v ∧ MJ F F' (setN A k v) 0) ∨ (setT A k v ≠ 0 ∧ MJ F F' A (setT A k v)))) := by
  refine Con.mk (lv := [(0, .ref (adr w 110)), (1, .int (iI k)), (2, .int (iI v))]) (by decide) (Nat.le_of_ble_eq_true rfl) rfl ?_
  intro pg ev s0 mi be me co C hz
  have hr : F 111 = A.r := hM.r
  have hI : Iv A.r := hM.iv
  have hJ := MJ.refl hM
  have hnb := hV.1
  unfold nb at hnb
  have hlr := hM.lr
  have hnr := hM.s.2.1
  obtain ⟨hk1, hk2⟩ := id hk
  obtain ⟨hv1, hv2⟩ := id hv
  refine q_aload_n C 0 dX4_set_0 rfl ?_
  refine q_iconst C 0 dX4_set_1 ?_
  refine q_put (T := TX4) (tyX := tyX4) (i := 8) (j := 8) (z := 0) (ty := .int) C rfl kd110 (by decide) rfl uws4 tyX4_ok nmX4 (by decide) (kd_ln.2.2.2.2 kd110) wd_873 rfl rfl rfl rfl (fsS_4_8 w _ _ _) (Nat.le_of_ble_eq_true rfl) dX4_set_2 ?_
  have hJ1 := MJ.thr (z := 0) hJ
  have hr1 : (up F 110 8 0) 111 = A.r := hJ1.1.r
  refine q_iload_n C 1 dX4_set_5 rfl ?_
  refine q_iconst C 0 dX4_set_6 ?_
  refine q_iconst C 2 dX4_set_7 ?_
  refine q_cI (q_runS (As := [.int (iI k), .int (iI 0), .int (iI 2)]) (rest := []) C (k_X4_in l (x := k) (a := 0) (b := 2) ⟨by omega, by omega⟩ ⟨by omega, by omega⟩ ⟨by omega, by omega⟩) wd_930 wd_929 wd_81 wd_928 nd_X4_in rfl (by decide) ⟨Nat.zero_le _, Nat.zero_le _⟩ rfl (Nat.le_of_ble_eq_true rfl) dX4_set_8) ?_
  rintro z F' ⟨⟨rfl, hq8⟩ | ⟨rfl, hq8⟩, rfl⟩
  · refine q_if_ne C 20 dX4_set_11 ⟨by decide, by decide⟩  (by decide) (fun _ => ?_) (fun h => absurd h (by decide))
    refine q_iload_n C 2 dX4_set_20 rfl ?_
    refine q_iconst C 0 dX4_set_21 ?_
    refine q_iload_n C 1 dX4_set_22 rfl ?_
    refine q_cI (q_runS (As := [.int (iI k)]) (rest := [.int (iI 0), .int (iI v)]) C (k_X4_mostOf l (k := k) ⟨by omega, by omega⟩) wd_1087 wd_1086 wd_81 wd_1085 nd_X4_mostOf rfl (by decide) ⟨Nat.zero_le _, Nat.zero_le _⟩ rfl (Nat.le_of_ble_eq_true rfl) dX4_set_23) ?_
    rintro z F' ⟨rfl, rfl⟩
    have qms := mostS_range k
    refine q_cI (q_runS (As := [.int (iI v), .int (iI 0), .int (iI (mostS k))]) (rest := []) C (k_X4_in l (x := v) (a := 0) (b := mostS k) ⟨by omega, by omega⟩ ⟨by omega, by omega⟩ ⟨by omega, by omega⟩) wd_930 wd_929 wd_81 wd_928 nd_X4_in rfl (by decide) ⟨Nat.zero_le _, Nat.zero_le _⟩ rfl (Nat.le_of_ble_eq_true rfl) dX4_set_26) ?_
    rintro z F' ⟨⟨rfl, hq26⟩ | ⟨rfl, hq26⟩, rfl⟩
    · refine q_if_ne C 38 dX4_set_29 ⟨by decide, by decide⟩  (by decide) (fun _ => ?_) (fun h => absurd h (by decide))
      refine q_aload_n C 0 dX4_set_38 rfl ?_
      refine q_cV (q_runV (As := []) (rest := []) C (k_X4_save (F := (up F 110 8 0)) l hr1 hI hJ1.1.s) kd110 (by decide) rfl wd_952 wd_951 wd_26 wd_81 wd_949 nd_X4_save rfl (by decide) ⟨Nat.zero_le _, Nat.zero_le _⟩ rfl (Nat.le_of_ble_eq_true rfl) dX4_set_39) ?_
      rintro G2 ⟨hSG2, hEG2, hfG2⟩
      have hJG2 := MJ.sav hJ1 hSG2 hEG2 hfG2
      refine q_aload_n C 0 dX4_set_42 rfl ?_
      refine q_get (T := TX4) (i := 0) C kd110 (by decide) rfl uws4 (by decide) wd_865 rfl dX4_set_43 ?_
      refine q_sipush C 176 dX4_set_46 (by decide) ?_
      refine q_iload_n C 1 dX4_set_49 rfl ?_
      refine q_iadd C dX4_set_50 ?_
      refine q_iald C kd111 ⟨by omega, by rw [ln111]; omega⟩ dX4_set_51 ?_
      refine q_top (z' := A.r (176 + k)) ((congrFun hEG2 _).trans (congrArg A.r (by omega))) ?_
      refine q_istore_n (lv' := [(3, .int (iI (A.r (176 + k)))), (0, .ref (adr w 110)), (1, .int (iI k)), (2, .int (iI v))]) C dX4_set_52 (by decide) rfl ?_
      refine q_aload_n C 1 dX4_set_53 rfl ?_
      refine q_get (T := TX4) (i := 0) C kd110 (by decide) rfl uws4 (by decide) wd_865 rfl dX4_set_54 ?_
      refine q_sipush C 176 dX4_set_57 (by decide) ?_
      refine q_iload_n C 2 dX4_set_60 rfl ?_
      refine q_iadd C dX4_set_61 ?_
      refine q_iload_n C 3 dX4_set_62 rfl ?_
      refine q_iast C kd111 ⟨by omega, by rw [ln111]; omega⟩ dX4_set_63 ?_
      have hr4 : (up G2 111 (176 + k) v) 111 = (setr A.r k v) := ru_r hEG2 (show (176 + k : Int) = 176 + k by omega)
      have hI4 : Iv (setr A.r k v) := setr_iv hI ⟨by omega, by omega⟩ ⟨by omega, by omega⟩
      have hJ4 := MJ.wr hJG2 hr4 hI4 (FrW.up FrW.refl)
      refine q_iload_n C 0 dX4_set_64 rfl ?_
      refine q_iret C dX4_set_65 ?_
      exact Or.inl ⟨(by unfold setT; rw [if_neg (by omega), if_neg (by omega)]), rfl, hJ4⟩
    · refine q_if_ne C 38 dX4_set_29 ⟨by decide, by decide⟩  (by decide) (fun h => absurd h (by decide)) (fun _ => ?_)
      refine q_aload_n C 0 dX4_set_32 rfl ?_
      refine q_iconst C 2 dX4_set_33 ?_
      refine q_cI (q_runV (As := [.int (iI 2)]) (rest := []) C (k_X4_fails (F := (up F 110 8 0)) l (x := 2)) kd110 (by decide) rfl wd_940 wd_939 wd_23 wd_81 wd_937 nd_X4_fails rfl (by decide) ⟨Nat.zero_le _, Nat.zero_le _⟩ rfl (Nat.le_of_ble_eq_true rfl) dX4_set_34) ?_
      rintro z F9 ⟨hz9, hF9⟩
      subst hz9
      subst hF9
      have hJf := MJ.thr (z := 2) hJ1
      refine q_iret C dX4_set_37 ?_
      have hT : setT A k v = 2 := (by unfold setT; rw [if_neg (by omega), if_pos (by omega)])
      exact Or.inr ⟨by rw [hT]; decide, by rw [hT]; exact hJf⟩
  · refine q_if_ne C 20 dX4_set_11 ⟨by decide, by decide⟩  (by decide) (fun h => absurd h (by decide)) (fun _ => ?_)
    refine q_aload_n C 0 dX4_set_14 rfl ?_
    refine q_iconst C 1 dX4_set_15 ?_
    refine q_cI (q_runV (As := [.int (iI 1)]) (rest := []) C (k_X4_fails (F := (up F 110 8 0)) l (x := 1)) kd110 (by decide) rfl wd_940 wd_939 wd_23 wd_81 wd_937 nd_X4_fails rfl (by decide) ⟨Nat.zero_le _, Nat.zero_le _⟩ rfl (Nat.le_of_ble_eq_true rfl) dX4_set_16) ?_
    rintro z F9 ⟨hz9, hF9⟩
    subst hz9
    subst hF9
    have hJf := MJ.thr (z := 1) hJ1
    refine q_iret C dX4_set_19 ?_
    have hT : setT A k v = 1 := (by unfold setT; rw [if_pos (by omega)])
    exact Or.inr ⟨by rw [hT]; decide, by rw [hT]; exact hJf⟩

set_option maxRecDepth 100000 in
set_option maxHeartbeats 4000000 in
theorem k_X4_wordOf (l : Launch) {w : WP} {F : FF} {A : AS} {x k : Int} (hM : MI F A) (hV : AV A) (hx : inR x) (hk : inR k) : Con l yX4_wordOf cX4_wordOf 3 (some .int) 4 w [.ref (adr w 110), .int (iI x), .int (iI k)] F (QI w (fun z F' => (wordOfT A x k = 0 ∧ z = wordOfZ A x k ∧ MJ F F' (wordOfN A x k) 0) ∨ (wordOfT A x k ≠ 0 ∧ MJ F F' A (wordOfT A x k)))) := by
  refine Con.mk (lv := [(0, .ref (adr w 110)), (1, .int (iI x)), (2, .int (iI k))]) (by decide) (Nat.le_of_ble_eq_true rfl) rfl ?_
  intro pg ev s0 mi be me co C hz
  have hr : F 111 = A.r := hM.r
  have hI : Iv A.r := hM.iv
  have hJ := MJ.refl hM
  have hnb := hV.1
  unfold nb at hnb
  have hlr := hM.lr
  have hnr := hM.s.2.1
  obtain ⟨hx1, hx2⟩ := id hx
  obtain ⟨hk1, hk2⟩ := id hk
  refine q_aload_n C 0 dX4_wordOf_0 rfl ?_
  refine q_iconst C 0 dX4_wordOf_1 ?_
  refine q_put (T := TX4) (tyX := tyX4) (i := 8) (j := 8) (z := 0) (ty := .int) C rfl kd110 (by decide) rfl uws4 tyX4_ok nmX4 (by decide) (kd_ln.2.2.2.2 kd110) wd_873 rfl rfl rfl rfl (fsS_4_8 w _ _ _) (Nat.le_of_ble_eq_true rfl) dX4_wordOf_2 ?_
  have hJ1 := MJ.thr (z := 0) hJ
  have hr1 : (up F 110 8 0) 111 = A.r := hJ1.1.r
  refine q_iload_n C 1 dX4_wordOf_5 rfl ?_
  refine q_cI (q_runS (As := [.int (iI x)]) (rest := []) C (k_X4_isWord l (x := x) ⟨by omega, by omega⟩) wd_927 wd_926 wd_81 wd_925 nd_X4_isWord rfl (by decide) ⟨Nat.zero_le _, Nat.zero_le _⟩ rfl (Nat.le_of_ble_eq_true rfl) dX4_wordOf_6) ?_
  rintro z F' ⟨⟨rfl, hq6⟩ | ⟨rfl, hq6⟩, rfl⟩
  · refine q_if_ne C 18 dX4_wordOf_9 ⟨by decide, by decide⟩  (by decide) (fun _ => ?_) (fun h => absurd h (by decide))
    refine q_iload_n C 2 dX4_wordOf_18 rfl ?_
    refine q_iconst C 0 dX4_wordOf_19 ?_
    refine q_bipush C 6 dX4_wordOf_20 (by decide) ?_
    refine q_cI (q_runS (As := [.int (iI k), .int (iI 0), .int (iI 6)]) (rest := []) C (k_X4_in l (x := k) (a := 0) (b := 6) ⟨by omega, by omega⟩ ⟨by omega, by omega⟩ ⟨by omega, by omega⟩) wd_930 wd_929 wd_81 wd_928 nd_X4_in rfl (by decide) ⟨Nat.zero_le _, Nat.zero_le _⟩ rfl (Nat.le_of_ble_eq_true rfl) dX4_wordOf_22) ?_
    rintro z F' ⟨⟨rfl, hq22⟩ | ⟨rfl, hq22⟩, rfl⟩
    · refine q_if_eq C 37 dX4_wordOf_25 ⟨by decide, by decide⟩  (by decide) (fun h => absurd h (by decide)) (fun _ => ?_)
      refine q_aload_n C 0 dX4_wordOf_28 rfl ?_
      refine q_iload_n C 1 dX4_wordOf_29 rfl ?_
      refine q_iload_n C 2 dX4_wordOf_30 rfl ?_
      refine q_cI (q_runV (As := [.int (iI x), .int (iI k)]) (rest := []) C (k_X4_wordProperty l hr1 hI (x := x) (k := k) ⟨by omega, by omega⟩ ⟨by omega, by omega⟩) kd110 (by decide) rfl wd_1159 wd_1158 wd_58 wd_81 wd_1156 nd_X4_wordProperty rfl (by decide) ⟨Nat.zero_le _, Nat.zero_le _⟩ rfl (Nat.le_of_ble_eq_true rfl) dX4_wordOf_31) ?_
      rintro z F' ⟨rfl, rfl⟩
      refine q_goto C 42 dX4_wordOf_34 (by decide) ?_
      refine q_iret C dX4_wordOf_42 ?_
      exact Or.inl ⟨(by unfold wordOfT; rw [if_neg (by omega), if_neg (by omega)]), rfl, hJ1⟩
    · refine q_if_eq C 37 dX4_wordOf_25 ⟨by decide, by decide⟩  (by decide) (fun _ => ?_) (fun h => absurd h (by decide))
      refine q_aload_n C 0 dX4_wordOf_37 rfl ?_
      refine q_iconst C 2 dX4_wordOf_38 ?_
      refine q_cI (q_runV (As := [.int (iI 2)]) (rest := []) C (k_X4_fails (F := (up F 110 8 0)) l (x := 2)) kd110 (by decide) rfl wd_940 wd_939 wd_23 wd_81 wd_937 nd_X4_fails rfl (by decide) ⟨Nat.zero_le _, Nat.zero_le _⟩ rfl (Nat.le_of_ble_eq_true rfl) dX4_wordOf_39) ?_
      rintro z F9 ⟨hz9, hF9⟩
      subst hz9
      subst hF9
      have hJf := MJ.thr (z := 2) hJ1
      refine q_iret C dX4_wordOf_42 ?_
      have hT : wordOfT A x k = 2 := (by unfold wordOfT; rw [if_neg (by omega), if_pos (by omega)])
      exact Or.inr ⟨by rw [hT]; decide, by rw [hT]; exact hJf⟩
  · refine q_if_ne C 18 dX4_wordOf_9 ⟨by decide, by decide⟩  (by decide) (fun h => absurd h (by decide)) (fun _ => ?_)
    refine q_aload_n C 0 dX4_wordOf_12 rfl ?_
    refine q_iconst C 1 dX4_wordOf_13 ?_
    refine q_cI (q_runV (As := [.int (iI 1)]) (rest := []) C (k_X4_fails (F := (up F 110 8 0)) l (x := 1)) kd110 (by decide) rfl wd_940 wd_939 wd_23 wd_81 wd_937 nd_X4_fails rfl (by decide) ⟨Nat.zero_le _, Nat.zero_le _⟩ rfl (Nat.le_of_ble_eq_true rfl) dX4_wordOf_14) ?_
    rintro z F9 ⟨hz9, hF9⟩
    subst hz9
    subst hF9
    have hJf := MJ.thr (z := 1) hJ1
    refine q_iret C dX4_wordOf_17 ?_
    have hT : wordOfT A x k = 1 := (by unfold wordOfT; rw [if_pos (by omega)])
    exact Or.inr ⟨by rw [hT]; decide, by rw [hT]; exact hJf⟩

set_option maxRecDepth 100000 in
set_option maxHeartbeats 4000000 in
theorem k_X4_at (l : Launch) {w : WP} {F : FF} {A : AS} {d y p : Int} (hM : MI F A) (hV : AV A) (hd : inR d) (hy : inR y) (hp : inR p) : Con l yX4_at cX4_at 4 (some .int) 3 w [.ref (adr w 110), .int (iI d), .int (iI y), .int (iI p)] F (QI w (fun z F' => (atT A d y p = 0 ∧ z = atZ A d y p ∧ MJ F F' (atN A d y p) 0) ∨ (atT A d y p ≠ 0 ∧ MJ F F' A (atT A d y p)))) := by
  refine Con.mk (lv := [(0, .ref (adr w 110)), (1, .int (iI d)), (2, .int (iI y)), (3, .int (iI p))]) (by decide) (Nat.le_of_ble_eq_true rfl) rfl ?_
  intro pg ev s0 mi be me co C hz
  have hr : F 111 = A.r := hM.r
  have hI : Iv A.r := hM.iv
  have hJ := MJ.refl hM
  have hnb := hV.1
  unfold nb at hnb
  have hlr := hM.lr
  have hnr := hM.s.2.1
  obtain ⟨hd1, hd2⟩ := id hd
  obtain ⟨hy1, hy2⟩ := id hy
  obtain ⟨hp1, hp2⟩ := id hp
  refine q_aload_n C 0 dX4_at_0 rfl ?_
  refine q_iconst C 0 dX4_at_1 ?_
  refine q_put (T := TX4) (tyX := tyX4) (i := 8) (j := 8) (z := 0) (ty := .int) C rfl kd110 (by decide) rfl uws4 tyX4_ok nmX4 (by decide) (kd_ln.2.2.2.2 kd110) wd_873 rfl rfl rfl rfl (fsS_4_8 w _ _ _) (Nat.le_of_ble_eq_true rfl) dX4_at_2 ?_
  have hJ1 := MJ.thr (z := 0) hJ
  have hr1 : (up F 110 8 0) 111 = A.r := hJ1.1.r
  refine q_iload_n C 1 dX4_at_5 rfl ?_
  refine q_iload_n C 2 dX4_at_6 rfl ?_
  refine q_cI (q_runS (As := [.int (iI d), .int (iI y)]) (rest := []) C (k_X4_isLine l (x := d) (y := y) ⟨by omega, by omega⟩ ⟨by omega, by omega⟩) wd_933 wd_932 wd_81 wd_931 nd_X4_isLine rfl (by decide) ⟨Nat.zero_le _, Nat.zero_le _⟩ rfl (Nat.le_of_ble_eq_true rfl) dX4_at_7) ?_
  rintro z F' ⟨⟨rfl, hq7⟩ | ⟨rfl, hq7⟩, rfl⟩
  · refine q_if_eq C 35 dX4_at_10 ⟨by decide, by decide⟩  (by decide) (fun h => absurd h (by decide)) (fun _ => ?_)
    refine q_iload_n C 3 dX4_at_13 rfl ?_
    refine q_iconst C 0 dX4_at_14 ?_
    refine q_iconst C 5 dX4_at_15 ?_
    refine q_cI (q_runS (As := [.int (iI p), .int (iI 0), .int (iI 5)]) (rest := []) C (k_X4_in l (x := p) (a := 0) (b := 5) ⟨by omega, by omega⟩ ⟨by omega, by omega⟩ ⟨by omega, by omega⟩) wd_930 wd_929 wd_81 wd_928 nd_X4_in rfl (by decide) ⟨Nat.zero_le _, Nat.zero_le _⟩ rfl (Nat.le_of_ble_eq_true rfl) dX4_at_16) ?_
    rintro z F' ⟨⟨rfl, hq16⟩ | ⟨rfl, hq16⟩, rfl⟩
    · refine q_if_eq C 35 dX4_at_19 ⟨by decide, by decide⟩  (by decide) (fun h => absurd h (by decide)) (fun _ => ?_)
      refine q_aload_n C 0 dX4_at_22 rfl ?_
      refine q_iconst C 4 dX4_at_23 ?_
      refine q_iload_n C 1 dX4_at_24 rfl ?_
      refine q_imul C dX4_at_25 ?_
      refine q_iload_n C 2 dX4_at_26 rfl ?_
      refine q_iadd C dX4_at_27 ?_
      refine q_iload_n C 3 dX4_at_28 rfl ?_
      refine q_cI (q_runV (As := [.int (iI ((4 * d) + y)), .int (iI p)]) (rest := []) C (k_X4_wordOrNone l hr1 hI (x := (4 * d) + y) (p := p) ⟨by omega, by omega⟩ ⟨by omega, by omega⟩) kd110 (by decide) rfl wd_1167 wd_1166 wd_59 wd_81 wd_1164 nd_X4_wordOrNone rfl (by decide) ⟨Nat.zero_le _, Nat.zero_le _⟩ rfl (Nat.le_of_ble_eq_true rfl) dX4_at_29) ?_
      rintro z F' ⟨rfl, rfl⟩
      have q29 := W0_range (l := (4 * d) + y) (p := p) hI (by omega) (by omega)
      refine q_goto C 40 dX4_at_32 (by decide) ?_
      refine q_iret C dX4_at_40 ?_
      exact Or.inl ⟨(by unfold atT; rw [if_neg (by omega)]), rfl, hJ1⟩
    · refine q_if_eq C 35 dX4_at_19 ⟨by decide, by decide⟩  (by decide) (fun _ => ?_) (fun h => absurd h (by decide))
      refine q_aload_n C 0 dX4_at_35 rfl ?_
      refine q_iconst C 1 dX4_at_36 ?_
      refine q_cI (q_runV (As := [.int (iI 1)]) (rest := []) C (k_X4_fails (F := (up F 110 8 0)) l (x := 1)) kd110 (by decide) rfl wd_940 wd_939 wd_23 wd_81 wd_937 nd_X4_fails rfl (by decide) ⟨Nat.zero_le _, Nat.zero_le _⟩ rfl (Nat.le_of_ble_eq_true rfl) dX4_at_37) ?_
      rintro z F9 ⟨hz9, hF9⟩
      subst hz9
      subst hF9
      have hJf := MJ.thr (z := 1) hJ1
      refine q_iret C dX4_at_40 ?_
      have hT : atT A d y p = 1 := (by unfold atT; rw [if_pos (by omega)])
      exact Or.inr ⟨by rw [hT]; decide, by rw [hT]; exact hJf⟩
  · refine q_if_eq C 35 dX4_at_10 ⟨by decide, by decide⟩  (by decide) (fun _ => ?_) (fun h => absurd h (by decide))
    refine q_aload_n C 0 dX4_at_35 rfl ?_
    refine q_iconst C 1 dX4_at_36 ?_
    refine q_cI (q_runV (As := [.int (iI 1)]) (rest := []) C (k_X4_fails (F := (up F 110 8 0)) l (x := 1)) kd110 (by decide) rfl wd_940 wd_939 wd_23 wd_81 wd_937 nd_X4_fails rfl (by decide) ⟨Nat.zero_le _, Nat.zero_le _⟩ rfl (Nat.le_of_ble_eq_true rfl) dX4_at_37) ?_
    rintro z F9 ⟨hz9, hF9⟩
    subst hz9
    subst hF9
    have hJf := MJ.thr (z := 1) hJ1
    refine q_iret C dX4_at_40 ?_
    have hT : atT A d y p = 1 := (by unfold atT; rw [if_pos (by omega)])
    exact Or.inr ⟨by rw [hT]; decide, by rw [hT]; exact hJf⟩

set_option maxRecDepth 100000 in
set_option maxHeartbeats 4000000 in
theorem k_X4_lineOf (l : Launch) {w : WP} {F : FF} {A : AS} {d y k : Int} (hM : MI F A) (hV : AV A) (hd : inR d) (hy : inR y) (hk : inR k) : Con l yX4_lineOf cX4_lineOf 4 (some .int) 5 w [.ref (adr w 110), .int (iI d), .int (iI y), .int (iI k)] F (QI w (fun z F' => (lineOfT A d y k = 0 ∧ z = lineOfZ A d y k ∧ MJ F F' (lineOfN A d y k) 0) ∨ (lineOfT A d y k ≠ 0 ∧ MJ F F' A (lineOfT A d y k)))) := by
  refine Con.mk (lv := [(0, .ref (adr w 110)), (1, .int (iI d)), (2, .int (iI y)), (3, .int (iI k))]) (by decide) (Nat.le_of_ble_eq_true rfl) rfl ?_
  intro pg ev s0 mi be me co C hz
  have hr : F 111 = A.r := hM.r
  have hI : Iv A.r := hM.iv
  have hJ := MJ.refl hM
  have hnb := hV.1
  unfold nb at hnb
  have hlr := hM.lr
  have hnr := hM.s.2.1
  obtain ⟨hd1, hd2⟩ := id hd
  obtain ⟨hy1, hy2⟩ := id hy
  obtain ⟨hk1, hk2⟩ := id hk
  refine q_aload_n C 0 dX4_lineOf_0 rfl ?_
  refine q_iconst C 0 dX4_lineOf_1 ?_
  refine q_put (T := TX4) (tyX := tyX4) (i := 8) (j := 8) (z := 0) (ty := .int) C rfl kd110 (by decide) rfl uws4 tyX4_ok nmX4 (by decide) (kd_ln.2.2.2.2 kd110) wd_873 rfl rfl rfl rfl (fsS_4_8 w _ _ _) (Nat.le_of_ble_eq_true rfl) dX4_lineOf_2 ?_
  have hJ1 := MJ.thr (z := 0) hJ
  have hr1 : (up F 110 8 0) 111 = A.r := hJ1.1.r
  refine q_iload_n C 1 dX4_lineOf_5 rfl ?_
  refine q_iload_n C 2 dX4_lineOf_6 rfl ?_
  refine q_cI (q_runS (As := [.int (iI d), .int (iI y)]) (rest := []) C (k_X4_isLine l (x := d) (y := y) ⟨by omega, by omega⟩ ⟨by omega, by omega⟩) wd_933 wd_932 wd_81 wd_931 nd_X4_isLine rfl (by decide) ⟨Nat.zero_le _, Nat.zero_le _⟩ rfl (Nat.le_of_ble_eq_true rfl) dX4_lineOf_7) ?_
  rintro z F' ⟨⟨rfl, hq7⟩ | ⟨rfl, hq7⟩, rfl⟩
  · refine q_if_ne C 19 dX4_lineOf_10 ⟨by decide, by decide⟩  (by decide) (fun _ => ?_) (fun h => absurd h (by decide))
    refine q_iload_n C 3 dX4_lineOf_19 rfl ?_
    refine q_iconst C 0 dX4_lineOf_20 ?_
    refine q_bipush C 7 dX4_lineOf_21 (by decide) ?_
    refine q_cI (q_runS (As := [.int (iI k), .int (iI 0), .int (iI 7)]) (rest := []) C (k_X4_in l (x := k) (a := 0) (b := 7) ⟨by omega, by omega⟩ ⟨by omega, by omega⟩ ⟨by omega, by omega⟩) wd_930 wd_929 wd_81 wd_928 nd_X4_in rfl (by decide) ⟨Nat.zero_le _, Nat.zero_le _⟩ rfl (Nat.le_of_ble_eq_true rfl) dX4_lineOf_23) ?_
    rintro z F' ⟨⟨rfl, hq23⟩ | ⟨rfl, hq23⟩, rfl⟩
    · refine q_if_eq C 42 dX4_lineOf_26 ⟨by decide, by decide⟩  (by decide) (fun h => absurd h (by decide)) (fun _ => ?_)
      refine q_aload_n C 0 dX4_lineOf_29 rfl ?_
      refine q_iconst C 4 dX4_lineOf_30 ?_
      refine q_iload_n C 1 dX4_lineOf_31 rfl ?_
      refine q_imul C dX4_lineOf_32 ?_
      refine q_iload_n C 2 dX4_lineOf_33 rfl ?_
      refine q_iadd C dX4_lineOf_34 ?_
      refine q_iload_n C 3 dX4_lineOf_35 rfl ?_
      refine q_cI (q_runV (As := [.int (iI ((4 * d) + y)), .int (iI k)]) (rest := []) C (k_X4_lineProperty l hr1 hI (x := (4 * d) + y) (k := k) ⟨by omega, by omega⟩ ⟨by omega, by omega⟩) kd110 (by decide) rfl wd_1175 wd_1174 wd_60 wd_81 wd_1172 nd_X4_lineProperty rfl (by decide) ⟨Nat.zero_le _, Nat.zero_le _⟩ rfl (Nat.le_of_ble_eq_true rfl) dX4_lineOf_36) ?_
      rintro z F' ⟨rfl, rfl⟩
      refine q_goto C 47 dX4_lineOf_39 (by decide) ?_
      refine q_iret C dX4_lineOf_47 ?_
      exact Or.inl ⟨(by unfold lineOfT; rw [if_neg (by omega), if_neg (by omega)]), rfl, hJ1⟩
    · refine q_if_eq C 42 dX4_lineOf_26 ⟨by decide, by decide⟩  (by decide) (fun _ => ?_) (fun h => absurd h (by decide))
      refine q_aload_n C 0 dX4_lineOf_42 rfl ?_
      refine q_iconst C 2 dX4_lineOf_43 ?_
      refine q_cI (q_runV (As := [.int (iI 2)]) (rest := []) C (k_X4_fails (F := (up F 110 8 0)) l (x := 2)) kd110 (by decide) rfl wd_940 wd_939 wd_23 wd_81 wd_937 nd_X4_fails rfl (by decide) ⟨Nat.zero_le _, Nat.zero_le _⟩ rfl (Nat.le_of_ble_eq_true rfl) dX4_lineOf_44) ?_
      rintro z F9 ⟨hz9, hF9⟩
      subst hz9
      subst hF9
      have hJf := MJ.thr (z := 2) hJ1
      refine q_iret C dX4_lineOf_47 ?_
      have hT : lineOfT A d y k = 2 := (by unfold lineOfT; rw [if_neg (by omega), if_pos (by omega)])
      exact Or.inr ⟨by rw [hT]; decide, by rw [hT]; exact hJf⟩
  · refine q_if_ne C 19 dX4_lineOf_10 ⟨by decide, by decide⟩  (by decide) (fun h => absurd h (by decide)) (fun _ => ?_)
    refine q_aload_n C 0 dX4_lineOf_13 rfl ?_
    refine q_iconst C 1 dX4_lineOf_14 ?_
    refine q_cI (q_runV (As := [.int (iI 1)]) (rest := []) C (k_X4_fails (F := (up F 110 8 0)) l (x := 1)) kd110 (by decide) rfl wd_940 wd_939 wd_23 wd_81 wd_937 nd_X4_fails rfl (by decide) ⟨Nat.zero_le _, Nat.zero_le _⟩ rfl (Nat.le_of_ble_eq_true rfl) dX4_lineOf_15) ?_
    rintro z F9 ⟨hz9, hF9⟩
    subst hz9
    subst hF9
    have hJf := MJ.thr (z := 1) hJ1
    refine q_iret C dX4_lineOf_18 ?_
    have hT : lineOfT A d y k = 1 := (by unfold lineOfT; rw [if_pos (by omega)])
    exact Or.inr ⟨by rw [hT]; decide, by rw [hT]; exact hJf⟩

set_option maxRecDepth 100000 in
set_option maxHeartbeats 4000000 in
theorem k_X4_doorOf (l : Launch) {w : WP} {F : FF} {A : AS} {d k : Int} (hM : MI F A) (hV : AV A) (hd : inR d) (hk : inR k) : Con l yX4_doorOf cX4_doorOf 3 (some .int) 7 w [.ref (adr w 110), .int (iI d), .int (iI k)] F (QI w (fun z F' => (doorOfT A d k = 0 ∧ z = doorOfZ A d k ∧ MJ F F' (doorOfN A d k) 0) ∨ (doorOfT A d k ≠ 0 ∧ MJ F F' A (doorOfT A d k)))) := by
  refine Con.mk (lv := [(0, .ref (adr w 110)), (1, .int (iI d)), (2, .int (iI k))]) (by decide) (Nat.le_of_ble_eq_true rfl) rfl ?_
  intro pg ev s0 mi be me co C hz
  have hr : F 111 = A.r := hM.r
  have hI : Iv A.r := hM.iv
  have hJ := MJ.refl hM
  have hnb := hV.1
  unfold nb at hnb
  have hlr := hM.lr
  have hnr := hM.s.2.1
  obtain ⟨hd1, hd2⟩ := id hd
  obtain ⟨hk1, hk2⟩ := id hk
  refine q_aload_n C 0 dX4_doorOf_0 rfl ?_
  refine q_iconst C 0 dX4_doorOf_1 ?_
  refine q_put (T := TX4) (tyX := tyX4) (i := 8) (j := 8) (z := 0) (ty := .int) C rfl kd110 (by decide) rfl uws4 tyX4_ok nmX4 (by decide) (kd_ln.2.2.2.2 kd110) wd_873 rfl rfl rfl rfl (fsS_4_8 w _ _ _) (Nat.le_of_ble_eq_true rfl) dX4_doorOf_2 ?_
  have hJ1 := MJ.thr (z := 0) hJ
  have hr1 : (up F 110 8 0) 111 = A.r := hJ1.1.r
  refine q_iload_n C 1 dX4_doorOf_5 rfl ?_
  refine q_cI (q_runS (As := [.int (iI d)]) (rest := []) C (k_X4_isDoor l (x := d) ⟨by omega, by omega⟩) wd_936 wd_935 wd_81 wd_934 nd_X4_isDoor rfl (by decide) ⟨Nat.zero_le _, Nat.zero_le _⟩ rfl (Nat.le_of_ble_eq_true rfl) dX4_doorOf_6) ?_
  rintro z F' ⟨⟨rfl, hq6⟩ | ⟨rfl, hq6⟩, rfl⟩
  · refine q_if_ne C 18 dX4_doorOf_9 ⟨by decide, by decide⟩  (by decide) (fun _ => ?_) (fun h => absurd h (by decide))
    refine q_iload_n C 2 dX4_doorOf_18 rfl ?_
    refine q_iconst C 0 dX4_doorOf_19 ?_
    refine q_iconst C 4 dX4_doorOf_20 ?_
    refine q_cI (q_runS (As := [.int (iI k), .int (iI 0), .int (iI 4)]) (rest := []) C (k_X4_in l (x := k) (a := 0) (b := 4) ⟨by omega, by omega⟩ ⟨by omega, by omega⟩ ⟨by omega, by omega⟩) wd_930 wd_929 wd_81 wd_928 nd_X4_in rfl (by decide) ⟨Nat.zero_le _, Nat.zero_le _⟩ rfl (Nat.le_of_ble_eq_true rfl) dX4_doorOf_21) ?_
    rintro z F' ⟨⟨rfl, hq21⟩ | ⟨rfl, hq21⟩, rfl⟩
    · refine q_if_eq C 36 dX4_doorOf_24 ⟨by decide, by decide⟩  (by decide) (fun h => absurd h (by decide)) (fun _ => ?_)
      refine q_aload_n C 0 dX4_doorOf_27 rfl ?_
      refine q_iload_n C 1 dX4_doorOf_28 rfl ?_
      refine q_iload_n C 2 dX4_doorOf_29 rfl ?_
      refine q_cI (q_runV (As := [.int (iI d), .int (iI k)]) (rest := []) C (k_X4_doorProperty l hr1 hI (d := d) (k := k) ⟨by omega, by omega⟩ ⟨by omega, by omega⟩) kd110 (by decide) rfl wd_1190 wd_1189 wd_62 wd_81 wd_1187 nd_X4_doorProperty rfl (by decide) ⟨Nat.zero_le _, Nat.zero_le _⟩ rfl (Nat.le_of_ble_eq_true rfl) dX4_doorOf_30) ?_
      rintro z F' ⟨rfl, rfl⟩
      refine q_goto C 41 dX4_doorOf_33 (by decide) ?_
      refine q_iret C dX4_doorOf_41 ?_
      exact Or.inl ⟨(by unfold doorOfT; rw [if_neg (by omega), if_neg (by omega)]), rfl, hJ1⟩
    · refine q_if_eq C 36 dX4_doorOf_24 ⟨by decide, by decide⟩  (by decide) (fun _ => ?_) (fun h => absurd h (by decide))
      refine q_aload_n C 0 dX4_doorOf_36 rfl ?_
      refine q_iconst C 2 dX4_doorOf_37 ?_
      refine q_cI (q_runV (As := [.int (iI 2)]) (rest := []) C (k_X4_fails (F := (up F 110 8 0)) l (x := 2)) kd110 (by decide) rfl wd_940 wd_939 wd_23 wd_81 wd_937 nd_X4_fails rfl (by decide) ⟨Nat.zero_le _, Nat.zero_le _⟩ rfl (Nat.le_of_ble_eq_true rfl) dX4_doorOf_38) ?_
      rintro z F9 ⟨hz9, hF9⟩
      subst hz9
      subst hF9
      have hJf := MJ.thr (z := 2) hJ1
      refine q_iret C dX4_doorOf_41 ?_
      have hT : doorOfT A d k = 2 := (by unfold doorOfT; rw [if_neg (by omega), if_pos (by omega)])
      exact Or.inr ⟨by rw [hT]; decide, by rw [hT]; exact hJf⟩
  · refine q_if_ne C 18 dX4_doorOf_9 ⟨by decide, by decide⟩  (by decide) (fun h => absurd h (by decide)) (fun _ => ?_)
    refine q_aload_n C 0 dX4_doorOf_12 rfl ?_
    refine q_iconst C 1 dX4_doorOf_13 ?_
    refine q_cI (q_runV (As := [.int (iI 1)]) (rest := []) C (k_X4_fails (F := (up F 110 8 0)) l (x := 1)) kd110 (by decide) rfl wd_940 wd_939 wd_23 wd_81 wd_937 nd_X4_fails rfl (by decide) ⟨Nat.zero_le _, Nat.zero_le _⟩ rfl (Nat.le_of_ble_eq_true rfl) dX4_doorOf_14) ?_
    rintro z F9 ⟨hz9, hF9⟩
    subst hz9
    subst hF9
    have hJf := MJ.thr (z := 1) hJ1
    refine q_iret C dX4_doorOf_17 ?_
    have hT : doorOfT A d k = 1 := (by unfold doorOfT; rw [if_pos (by omega)])
    exact Or.inr ⟨by rw [hT]; decide, by rw [hT]; exact hJf⟩

set_option maxRecDepth 100000 in
set_option maxHeartbeats 4000000 in
theorem k_X4_setting (l : Launch) {w : WP} {F : FF} {A : AS} {k : Int} (hM : MI F A) (hV : AV A) (hk : inR k) : Con l yX4_setting cX4_setting 2 (some .int) 1 w [.ref (adr w 110), .int (iI k)] F (QI w (fun z F' => (settingT A k = 0 ∧ z = settingZ A k ∧ MJ F F' (settingN A k) 0) ∨ (settingT A k ≠ 0 ∧ MJ F F' A (settingT A k)))) := by
  refine Con.mk (lv := [(0, .ref (adr w 110)), (1, .int (iI k))]) (by decide) (Nat.le_of_ble_eq_true rfl) rfl ?_
  intro pg ev s0 mi be me co C hz
  have hr : F 111 = A.r := hM.r
  have hI : Iv A.r := hM.iv
  have hJ := MJ.refl hM
  have hnb := hV.1
  unfold nb at hnb
  have hlr := hM.lr
  have hnr := hM.s.2.1
  obtain ⟨hk1, hk2⟩ := id hk
  refine q_aload_n C 0 dX4_setting_0 rfl ?_
  refine q_iconst C 0 dX4_setting_1 ?_
  refine q_put (T := TX4) (tyX := tyX4) (i := 8) (j := 8) (z := 0) (ty := .int) C rfl kd110 (by decide) rfl uws4 tyX4_ok nmX4 (by decide) (kd_ln.2.2.2.2 kd110) wd_873 rfl rfl rfl rfl (fsS_4_8 w _ _ _) (Nat.le_of_ble_eq_true rfl) dX4_setting_2 ?_
  have hJ1 := MJ.thr (z := 0) hJ
  have hr1 : (up F 110 8 0) 111 = A.r := hJ1.1.r
  refine q_iload_n C 1 dX4_setting_5 rfl ?_
  refine q_iconst C 0 dX4_setting_6 ?_
  refine q_iconst C 2 dX4_setting_7 ?_
  refine q_cI (q_runS (As := [.int (iI k), .int (iI 0), .int (iI 2)]) (rest := []) C (k_X4_in l (x := k) (a := 0) (b := 2) ⟨by omega, by omega⟩ ⟨by omega, by omega⟩ ⟨by omega, by omega⟩) wd_930 wd_929 wd_81 wd_928 nd_X4_in rfl (by decide) ⟨Nat.zero_le _, Nat.zero_le _⟩ rfl (Nat.le_of_ble_eq_true rfl) dX4_setting_8) ?_
  rintro z F' ⟨⟨rfl, hq8⟩ | ⟨rfl, hq8⟩, rfl⟩
  · refine q_if_eq C 27 dX4_setting_11 ⟨by decide, by decide⟩  (by decide) (fun h => absurd h (by decide)) (fun _ => ?_)
    refine q_aload_n C 0 dX4_setting_14 rfl ?_
    refine q_get (T := TX4) (i := 0) C kd110 (by decide) rfl uws4 (by decide) wd_865 rfl dX4_setting_15 ?_
    refine q_sipush C 176 dX4_setting_18 (by decide) ?_
    refine q_iload_n C 1 dX4_setting_21 rfl ?_
    refine q_iadd C dX4_setting_22 ?_
    refine q_iald C kd111 ⟨by omega, by rw [ln111]; omega⟩ dX4_setting_23 ?_
    refine q_top (z' := A.r (176 + k)) ((congrFun hr1 _).trans (congrArg A.r (by omega))) ?_
    refine q_goto C 32 dX4_setting_24 (by decide) ?_
    refine q_iret C dX4_setting_32 ?_
    exact Or.inl ⟨(by unfold settingT; rw [if_neg (by omega)]), rfl, hJ1⟩
  · refine q_if_eq C 27 dX4_setting_11 ⟨by decide, by decide⟩  (by decide) (fun _ => ?_) (fun h => absurd h (by decide))
    refine q_aload_n C 0 dX4_setting_27 rfl ?_
    refine q_iconst C 1 dX4_setting_28 ?_
    refine q_cI (q_runV (As := [.int (iI 1)]) (rest := []) C (k_X4_fails (F := (up F 110 8 0)) l (x := 1)) kd110 (by decide) rfl wd_940 wd_939 wd_23 wd_81 wd_937 nd_X4_fails rfl (by decide) ⟨Nat.zero_le _, Nat.zero_le _⟩ rfl (Nat.le_of_ble_eq_true rfl) dX4_setting_29) ?_
    rintro z F9 ⟨hz9, hF9⟩
    subst hz9
    subst hF9
    have hJf := MJ.thr (z := 1) hJ1
    refine q_iret C dX4_setting_32 ?_
    have hT : settingT A k = 1 := (by unfold settingT; rw [if_pos (by omega)])
    exact Or.inr ⟨by rw [hT]; decide, by rw [hT]; exact hJf⟩

set_option maxRecDepth 100000 in
set_option maxHeartbeats 4000000 in
theorem k_X4_bestWord (l : Launch) {w : WP} {F : FF} {A : AS} {d y : Int} (hM : MI F A) (hV : AV A) (hd : inR d) (hy : inR y) : Con l yX4_bestWord cX4_bestWord 3 (some .int) 8 w [.ref (adr w 110), .int (iI d), .int (iI y)] F (QI w (fun z F' => (bestWordT A d y = 0 ∧ z = bestWordZ A d y ∧ MJ F F' (bestWordN A d y) 0) ∨ (bestWordT A d y ≠ 0 ∧ MJ F F' A (bestWordT A d y)))) := by
  refine Con.mk (lv := [(0, .ref (adr w 110)), (1, .int (iI d)), (2, .int (iI y))]) (by decide) (Nat.le_of_ble_eq_true rfl) rfl ?_
  intro pg ev s0 mi be me co C hz
  have hr : F 111 = A.r := hM.r
  have hI : Iv A.r := hM.iv
  have hJ := MJ.refl hM
  have hnb := hV.1
  unfold nb at hnb
  have hlr := hM.lr
  have hnr := hM.s.2.1
  obtain ⟨hd1, hd2⟩ := id hd
  obtain ⟨hy1, hy2⟩ := id hy
  refine q_aload_n C 0 dX4_bestWord_0 rfl ?_
  refine q_iconst C 0 dX4_bestWord_1 ?_
  refine q_put (T := TX4) (tyX := tyX4) (i := 8) (j := 8) (z := 0) (ty := .int) C rfl kd110 (by decide) rfl uws4 tyX4_ok nmX4 (by decide) (kd_ln.2.2.2.2 kd110) wd_873 rfl rfl rfl rfl (fsS_4_8 w _ _ _) (Nat.le_of_ble_eq_true rfl) dX4_bestWord_2 ?_
  have hJ1 := MJ.thr (z := 0) hJ
  have hr1 : (up F 110 8 0) 111 = A.r := hJ1.1.r
  refine q_iload_n C 1 dX4_bestWord_5 rfl ?_
  refine q_iload_n C 2 dX4_bestWord_6 rfl ?_
  refine q_cI (q_runS (As := [.int (iI d), .int (iI y)]) (rest := []) C (k_X4_isLine l (x := d) (y := y) ⟨by omega, by omega⟩ ⟨by omega, by omega⟩) wd_933 wd_932 wd_81 wd_931 nd_X4_isLine rfl (by decide) ⟨Nat.zero_le _, Nat.zero_le _⟩ rfl (Nat.le_of_ble_eq_true rfl) dX4_bestWord_7) ?_
  rintro z F' ⟨⟨rfl, hq7⟩ | ⟨rfl, hq7⟩, rfl⟩
  · refine q_if_eq C 25 dX4_bestWord_10 ⟨by decide, by decide⟩  (by decide) (fun h => absurd h (by decide)) (fun _ => ?_)
    refine q_aload_n C 0 dX4_bestWord_13 rfl ?_
    refine q_iconst C 4 dX4_bestWord_14 ?_
    refine q_iload_n C 1 dX4_bestWord_15 rfl ?_
    refine q_imul C dX4_bestWord_16 ?_
    refine q_iload_n C 2 dX4_bestWord_17 rfl ?_
    refine q_iadd C dX4_bestWord_18 ?_
    refine q_cI (q_runV (As := [.int (iI ((4 * d) + y))]) (rest := []) C (k_X4_bestFor (F := (up F 110 8 0)) l hr1 hI (y := (4 * d) + y) ⟨by omega, by omega⟩) kd110 (by decide) rfl wd_1226 wd_1225 wd_67 wd_81 wd_1223 nd_X4_bestFor rfl (by decide) ⟨Nat.zero_le _, Nat.zero_le _⟩ rfl (Nat.le_of_ble_eq_true rfl) dX4_bestWord_19) ?_
    rintro z G2 ⟨rfl, hEG2, hfaG2⟩
    have hJG2 := MJ.tr hJ1 hEG2 hfaG2
    refine q_goto C 30 dX4_bestWord_22 (by decide) ?_
    refine q_iret C dX4_bestWord_30 ?_
    exact Or.inl ⟨(by unfold bestWordT; rw [if_neg (by omega)]), rfl, hJG2⟩
  · refine q_if_eq C 25 dX4_bestWord_10 ⟨by decide, by decide⟩  (by decide) (fun _ => ?_) (fun h => absurd h (by decide))
    refine q_aload_n C 0 dX4_bestWord_25 rfl ?_
    refine q_iconst C 1 dX4_bestWord_26 ?_
    refine q_cI (q_runV (As := [.int (iI 1)]) (rest := []) C (k_X4_fails (F := (up F 110 8 0)) l (x := 1)) kd110 (by decide) rfl wd_940 wd_939 wd_23 wd_81 wd_937 nd_X4_fails rfl (by decide) ⟨Nat.zero_le _, Nat.zero_le _⟩ rfl (Nat.le_of_ble_eq_true rfl) dX4_bestWord_27) ?_
    rintro z F9 ⟨hz9, hF9⟩
    subst hz9
    subst hF9
    have hJf := MJ.thr (z := 1) hJ1
    refine q_iret C dX4_bestWord_30 ?_
    have hT : bestWordT A d y = 1 := (by unfold bestWordT; rw [if_pos (by omega)])
    exact Or.inr ⟨by rw [hT]; decide, by rw [hT]; exact hJf⟩

set_option maxRecDepth 100000 in
set_option maxHeartbeats 4000000 in
theorem k_X4_ifSlept (l : Launch) {w : WP} {F : FF} {A : AS} {m d : Int} (hM : MI F A) (hV : AV A) (hm : inR m) (hd : inR d) : Con l yX4_ifSlept cX4_ifSlept 3 (some .int) 11 w [.ref (adr w 110), .int (iI m), .int (iI d)] F (QI w (fun z F' => (ifSleptT A m d = 0 ∧ z = ifSleptZ A m d ∧ MJ F F' (ifSleptN A m d) 0) ∨ (ifSleptT A m d ≠ 0 ∧ MJ F F' A (ifSleptT A m d)))) := by
  refine Con.mk (lv := [(0, .ref (adr w 110)), (1, .int (iI m)), (2, .int (iI d))]) (by decide) (Nat.le_of_ble_eq_true rfl) rfl ?_
  intro pg ev s0 mi be me co C hz
  have hr : F 111 = A.r := hM.r
  have hI : Iv A.r := hM.iv
  have hJ := MJ.refl hM
  have hnb := hV.1
  unfold nb at hnb
  have hlr := hM.lr
  have hnr := hM.s.2.1
  obtain ⟨hm1, hm2⟩ := id hm
  obtain ⟨hd1, hd2⟩ := id hd
  refine q_aload_n C 0 dX4_ifSlept_0 rfl ?_
  refine q_iconst C 0 dX4_ifSlept_1 ?_
  refine q_put (T := TX4) (tyX := tyX4) (i := 8) (j := 8) (z := 0) (ty := .int) C rfl kd110 (by decide) rfl uws4 tyX4_ok nmX4 (by decide) (kd_ln.2.2.2.2 kd110) wd_873 rfl rfl rfl rfl (fsS_4_8 w _ _ _) (Nat.le_of_ble_eq_true rfl) dX4_ifSlept_2 ?_
  have hJ1 := MJ.thr (z := 0) hJ
  have hr1 : (up F 110 8 0) 111 = A.r := hJ1.1.r
  refine q_iload_n C 2 dX4_ifSlept_5 rfl ?_
  refine q_cI (q_runS (As := [.int (iI d)]) (rest := []) C (k_X4_isDoor l (x := d) ⟨by omega, by omega⟩) wd_936 wd_935 wd_81 wd_934 nd_X4_isDoor rfl (by decide) ⟨Nat.zero_le _, Nat.zero_le _⟩ rfl (Nat.le_of_ble_eq_true rfl) dX4_ifSlept_6) ?_
  rintro z F' ⟨⟨rfl, hq6⟩ | ⟨rfl, hq6⟩, rfl⟩
  · refine q_if_ne C 18 dX4_ifSlept_9 ⟨by decide, by decide⟩  (by decide) (fun _ => ?_) (fun h => absurd h (by decide))
    refine q_iload_n C 1 dX4_ifSlept_18 rfl ?_
    refine q_iconst C 1 dX4_ifSlept_19 ?_
    refine q_bipush C 20 dX4_ifSlept_20 (by decide) ?_
    refine q_cI (q_runS (As := [.int (iI m), .int (iI 1), .int (iI 20)]) (rest := []) C (k_X4_in l (x := m) (a := 1) (b := 20) ⟨by omega, by omega⟩ ⟨by omega, by omega⟩ ⟨by omega, by omega⟩) wd_930 wd_929 wd_81 wd_928 nd_X4_in rfl (by decide) ⟨Nat.zero_le _, Nat.zero_le _⟩ rfl (Nat.le_of_ble_eq_true rfl) dX4_ifSlept_22) ?_
    rintro z F' ⟨⟨rfl, hq22⟩ | ⟨rfl, hq22⟩, rfl⟩
    · refine q_if_eq C 37 dX4_ifSlept_25 ⟨by decide, by decide⟩  (by decide) (fun h => absurd h (by decide)) (fun _ => ?_)
      refine q_aload_n C 0 dX4_ifSlept_28 rfl ?_
      refine q_iload_n C 1 dX4_ifSlept_29 rfl ?_
      refine q_iload_n C 2 dX4_ifSlept_30 rfl ?_
      refine q_cI (q_runV (As := [.int (iI m), .int (iI d)]) (rest := []) C (k_X4_worthBehind (F := (up F 110 8 0)) l hr1 hI (x := m) (d := d) ⟨by omega, by omega⟩ ⟨by omega, by omega⟩) kd110 (by decide) rfl wd_1250 wd_1249 wd_71 wd_81 wd_1247 nd_X4_worthBehind rfl (by decide) ⟨Nat.zero_le _, Nat.zero_le _⟩ rfl (Nat.le_of_ble_eq_true rfl) dX4_ifSlept_31) ?_
      rintro z G2 ⟨rfl, hEG2, hfaG2⟩
      have hJG2 := MJ.tr hJ1 hEG2 hfaG2
      refine q_goto C 42 dX4_ifSlept_34 (by decide) ?_
      refine q_iret C dX4_ifSlept_42 ?_
      exact Or.inl ⟨(by unfold ifSleptT; rw [if_neg (by omega), if_neg (by omega)]), rfl, hJG2⟩
    · refine q_if_eq C 37 dX4_ifSlept_25 ⟨by decide, by decide⟩  (by decide) (fun _ => ?_) (fun h => absurd h (by decide))
      refine q_aload_n C 0 dX4_ifSlept_37 rfl ?_
      refine q_iconst C 2 dX4_ifSlept_38 ?_
      refine q_cI (q_runV (As := [.int (iI 2)]) (rest := []) C (k_X4_fails (F := (up F 110 8 0)) l (x := 2)) kd110 (by decide) rfl wd_940 wd_939 wd_23 wd_81 wd_937 nd_X4_fails rfl (by decide) ⟨Nat.zero_le _, Nat.zero_le _⟩ rfl (Nat.le_of_ble_eq_true rfl) dX4_ifSlept_39) ?_
      rintro z F9 ⟨hz9, hF9⟩
      subst hz9
      subst hF9
      have hJf := MJ.thr (z := 2) hJ1
      refine q_iret C dX4_ifSlept_42 ?_
      have hT : ifSleptT A m d = 2 := (by unfold ifSleptT; rw [if_neg (by omega), if_pos (by omega)])
      exact Or.inr ⟨by rw [hT]; decide, by rw [hT]; exact hJf⟩
  · refine q_if_ne C 18 dX4_ifSlept_9 ⟨by decide, by decide⟩  (by decide) (fun h => absurd h (by decide)) (fun _ => ?_)
    refine q_aload_n C 0 dX4_ifSlept_12 rfl ?_
    refine q_iconst C 1 dX4_ifSlept_13 ?_
    refine q_cI (q_runV (As := [.int (iI 1)]) (rest := []) C (k_X4_fails (F := (up F 110 8 0)) l (x := 1)) kd110 (by decide) rfl wd_940 wd_939 wd_23 wd_81 wd_937 nd_X4_fails rfl (by decide) ⟨Nat.zero_le _, Nat.zero_le _⟩ rfl (Nat.le_of_ble_eq_true rfl) dX4_ifSlept_14) ?_
    rintro z F9 ⟨hz9, hF9⟩
    subst hz9
    subst hF9
    have hJf := MJ.thr (z := 1) hJ1
    refine q_iret C dX4_ifSlept_17 ?_
    have hT : ifSleptT A m d = 1 := (by unfold ifSleptT; rw [if_pos (by omega)])
    exact Or.inr ⟨by rw [hT]; decide, by rw [hT]; exact hJf⟩

set_option maxRecDepth 100000 in
set_option maxHeartbeats 4000000 in
theorem k_X4_whyNot (l : Launch) {w : WP} {F : FF} {A : AS} {x d y p : Int} (hM : MI F A) (hV : AV A) (hx : inR x) (hd : inR d) (hy : inR y) (hp : inR p) : Con l yX4_whyNot cX4_whyNot 5 (some .int) 3 w [.ref (adr w 110), .int (iI x), .int (iI d), .int (iI y), .int (iI p)] F (QI w (fun z F' => (whyNotT A x d y p = 0 ∧ z = whyNotZ A x d y p ∧ MJ F F' (whyNotN A x d y p) 0) ∨ (whyNotT A x d y p ≠ 0 ∧ MJ F F' A (whyNotT A x d y p)))) := by
  refine Con.mk (lv := [(0, .ref (adr w 110)), (1, .int (iI x)), (2, .int (iI d)), (3, .int (iI y)), (4, .int (iI p))]) (by decide) (Nat.le_of_ble_eq_true rfl) rfl ?_
  intro pg ev s0 mi be me co C hz
  have hr : F 111 = A.r := hM.r
  have hI : Iv A.r := hM.iv
  have hJ := MJ.refl hM
  have hnb := hV.1
  unfold nb at hnb
  have hlr := hM.lr
  have hnr := hM.s.2.1
  obtain ⟨hx1, hx2⟩ := id hx
  obtain ⟨hd1, hd2⟩ := id hd
  obtain ⟨hy1, hy2⟩ := id hy
  obtain ⟨hp1, hp2⟩ := id hp
  refine q_aload_n C 0 dX4_whyNot_0 rfl ?_
  refine q_iconst C 0 dX4_whyNot_1 ?_
  refine q_put (T := TX4) (tyX := tyX4) (i := 8) (j := 8) (z := 0) (ty := .int) C rfl kd110 (by decide) rfl uws4 tyX4_ok nmX4 (by decide) (kd_ln.2.2.2.2 kd110) wd_873 rfl rfl rfl rfl (fsS_4_8 w _ _ _) (Nat.le_of_ble_eq_true rfl) dX4_whyNot_2 ?_
  have hJ1 := MJ.thr (z := 0) hJ
  have hr1 : (up F 110 8 0) 111 = A.r := hJ1.1.r
  refine q_iload_n C 1 dX4_whyNot_5 rfl ?_
  refine q_cI (q_runS (As := [.int (iI x)]) (rest := []) C (k_X4_isWord l (x := x) ⟨by omega, by omega⟩) wd_927 wd_926 wd_81 wd_925 nd_X4_isWord rfl (by decide) ⟨Nat.zero_le _, Nat.zero_le _⟩ rfl (Nat.le_of_ble_eq_true rfl) dX4_whyNot_6) ?_
  rintro z F' ⟨⟨rfl, hq6⟩ | ⟨rfl, hq6⟩, rfl⟩
  · refine q_if_eq C 41 dX4_whyNot_9 ⟨by decide, by decide⟩  (by decide) (fun h => absurd h (by decide)) (fun _ => ?_)
    refine q_iload_n C 2 dX4_whyNot_12 rfl ?_
    refine q_iload_n C 3 dX4_whyNot_13 rfl ?_
    refine q_cI (q_runS (As := [.int (iI d), .int (iI y)]) (rest := []) C (k_X4_isLine l (x := d) (y := y) ⟨by omega, by omega⟩ ⟨by omega, by omega⟩) wd_933 wd_932 wd_81 wd_931 nd_X4_isLine rfl (by decide) ⟨Nat.zero_le _, Nat.zero_le _⟩ rfl (Nat.le_of_ble_eq_true rfl) dX4_whyNot_14) ?_
    rintro z F' ⟨⟨rfl, hq14⟩ | ⟨rfl, hq14⟩, rfl⟩
    · refine q_if_eq C 41 dX4_whyNot_17 ⟨by decide, by decide⟩  (by decide) (fun h => absurd h (by decide)) (fun _ => ?_)
      refine q_iload C 4 dX4_whyNot_20 rfl ?_
      refine q_iconst C 0 dX4_whyNot_22 ?_
      refine q_aload_n C 0 dX4_whyNot_23 rfl ?_
      refine q_get (T := TX4) (i := 0) C kd110 (by decide) rfl uws4 (by decide) wd_865 rfl dX4_whyNot_24 ?_
      refine q_iconst C 0 dX4_whyNot_27 ?_
      refine q_iconst C 4 dX4_whyNot_28 ?_
      refine q_iload_n C 2 dX4_whyNot_29 rfl ?_
      refine q_imul C dX4_whyNot_30 ?_
      refine q_iadd C dX4_whyNot_31 ?_
      refine q_iload_n C 3 dX4_whyNot_32 rfl ?_
      refine q_iadd C dX4_whyNot_33 ?_
      refine q_iald C kd111 ⟨by omega, by rw [ln111]; omega⟩ dX4_whyNot_34 ?_
      refine q_top (z' := A.r (4 * d + y)) ((congrFun hr1 _).trans (congrArg A.r (by omega))) ?_
      have q_2 := hI.sz (l := 4 * d + y) (by omega) (by omega)
      refine q_cI (q_runS (As := [.int (iI p), .int (iI 0), .int (iI (A.r (4 * d + y)))]) (rest := []) C (k_X4_in l (x := p) (a := 0) (b := A.r (4 * d + y)) ⟨by omega, by omega⟩ ⟨by omega, by omega⟩ ⟨by omega, by omega⟩) wd_930 wd_929 wd_81 wd_928 nd_X4_in rfl (by decide) ⟨Nat.zero_le _, Nat.zero_le _⟩ rfl (Nat.le_of_ble_eq_true rfl) dX4_whyNot_35) ?_
      rintro z F' ⟨⟨rfl, hq35⟩ | ⟨rfl, hq35⟩, rfl⟩
      · refine q_if_ne C 47 dX4_whyNot_38 ⟨by decide, by decide⟩  (by decide) (fun _ => ?_) (fun h => absurd h (by decide))
        refine q_aload_n C 0 dX4_whyNot_47 rfl ?_
        refine q_iload_n C 1 dX4_whyNot_48 rfl ?_
        refine q_cI (q_runV (As := [.int (iI x)]) (rest := []) C (k_X4_lineOfWord l hr1 hI (x := x) ⟨by omega, by omega⟩) kd110 (by decide) rfl wd_944 wd_943 wd_24 wd_81 wd_941 nd_X4_lineOfWord rfl (by decide) ⟨Nat.zero_le _, Nat.zero_le _⟩ rfl (Nat.le_of_ble_eq_true rfl) dX4_whyNot_49) ?_
        rintro z F' ⟨rfl, rfl⟩
        have q49 := home_range A.r x
        refine q_iconst C 4 dX4_whyNot_52 ?_
        refine q_iload_n C 2 dX4_whyNot_53 rfl ?_
        refine q_imul C dX4_whyNot_54 ?_
        refine q_iload_n C 3 dX4_whyNot_55 rfl ?_
        refine q_iadd C dX4_whyNot_56 ?_
        refine q_icmp_ne C 64 dX4_whyNot_57 ⟨by omega, by omega⟩ ⟨by omega, by omega⟩ (by decide) (fun h57 => ?_) (fun h57 => ?_)
        · refine q_aload_n C 0 dX4_whyNot_64 rfl ?_
          refine q_iload_n C 1 dX4_whyNot_65 rfl ?_
          refine q_iconst C 4 dX4_whyNot_66 ?_
          refine q_iload_n C 2 dX4_whyNot_67 rfl ?_
          refine q_imul C dX4_whyNot_68 ?_
          refine q_iload_n C 3 dX4_whyNot_69 rfl ?_
          refine q_iadd C dX4_whyNot_70 ?_
          refine q_iload C 4 dX4_whyNot_71 rfl ?_
          refine q_cI (q_runV (As := [.int (iI x), .int (iI ((4 * d) + y)), .int (iI p)]) (rest := []) C (k_X4_reason l hr1 hI (x := x) (y := (4 * d) + y) (p := p) ⟨by omega, by omega⟩ ⟨by omega, by omega⟩ ⟨by omega, by omega⟩) kd110 (by decide) rfl wd_956 wd_955 wd_27 wd_81 wd_953 nd_X4_reason rfl (by decide) ⟨Nat.zero_le _, Nat.zero_le _⟩ rfl (Nat.le_of_ble_eq_true rfl) dX4_whyNot_73) ?_
          rintro z F' ⟨rfl, rfl⟩
          have q73 := rea_range A.r x ((4 * d) + y) p
          refine q_iret C dX4_whyNot_76 ?_
          exact Or.inl ⟨(by unfold whyNotT; rw [if_neg (by omega)]), (by unfold whyNotZ; first | (rw [if_pos (by omega)]; done) | (rw [if_neg (by omega)])), hJ1⟩
        · refine q_iconst C (-1) dX4_whyNot_60 ?_
          refine q_goto C 76 dX4_whyNot_61 (by decide) ?_
          refine q_iret C dX4_whyNot_76 ?_
          exact Or.inl ⟨(by unfold whyNotT; rw [if_neg (by omega)]), (by unfold whyNotZ; first | (rw [if_pos (by omega)]; done) | (rw [if_neg (by omega)])), hJ1⟩
      · refine q_if_ne C 47 dX4_whyNot_38 ⟨by decide, by decide⟩  (by decide) (fun h => absurd h (by decide)) (fun _ => ?_)
        refine q_aload_n C 0 dX4_whyNot_41 rfl ?_
        refine q_iconst C 1 dX4_whyNot_42 ?_
        refine q_cI (q_runV (As := [.int (iI 1)]) (rest := []) C (k_X4_fails (F := (up F 110 8 0)) l (x := 1)) kd110 (by decide) rfl wd_940 wd_939 wd_23 wd_81 wd_937 nd_X4_fails rfl (by decide) ⟨Nat.zero_le _, Nat.zero_le _⟩ rfl (Nat.le_of_ble_eq_true rfl) dX4_whyNot_43) ?_
        rintro z F9 ⟨hz9, hF9⟩
        subst hz9
        subst hF9
        have hJf := MJ.thr (z := 1) hJ1
        refine q_iret C dX4_whyNot_46 ?_
        have hT : whyNotT A x d y p = 1 := (by unfold whyNotT; rw [if_pos (by omega)])
        exact Or.inr ⟨by rw [hT]; decide, by rw [hT]; exact hJf⟩
    · refine q_if_eq C 41 dX4_whyNot_17 ⟨by decide, by decide⟩  (by decide) (fun _ => ?_) (fun h => absurd h (by decide))
      refine q_aload_n C 0 dX4_whyNot_41 rfl ?_
      refine q_iconst C 1 dX4_whyNot_42 ?_
      refine q_cI (q_runV (As := [.int (iI 1)]) (rest := []) C (k_X4_fails (F := (up F 110 8 0)) l (x := 1)) kd110 (by decide) rfl wd_940 wd_939 wd_23 wd_81 wd_937 nd_X4_fails rfl (by decide) ⟨Nat.zero_le _, Nat.zero_le _⟩ rfl (Nat.le_of_ble_eq_true rfl) dX4_whyNot_43) ?_
      rintro z F9 ⟨hz9, hF9⟩
      subst hz9
      subst hF9
      have hJf := MJ.thr (z := 1) hJ1
      refine q_iret C dX4_whyNot_46 ?_
      have hT : whyNotT A x d y p = 1 := (by unfold whyNotT; rw [if_pos (by omega)])
      exact Or.inr ⟨by rw [hT]; decide, by rw [hT]; exact hJf⟩
  · refine q_if_eq C 41 dX4_whyNot_9 ⟨by decide, by decide⟩  (by decide) (fun _ => ?_) (fun h => absurd h (by decide))
    refine q_aload_n C 0 dX4_whyNot_41 rfl ?_
    refine q_iconst C 1 dX4_whyNot_42 ?_
    refine q_cI (q_runV (As := [.int (iI 1)]) (rest := []) C (k_X4_fails (F := (up F 110 8 0)) l (x := 1)) kd110 (by decide) rfl wd_940 wd_939 wd_23 wd_81 wd_937 nd_X4_fails rfl (by decide) ⟨Nat.zero_le _, Nat.zero_le _⟩ rfl (Nat.le_of_ble_eq_true rfl) dX4_whyNot_43) ?_
    rintro z F9 ⟨hz9, hF9⟩
    subst hz9
    subst hF9
    have hJf := MJ.thr (z := 1) hJ1
    refine q_iret C dX4_whyNot_46 ?_
    have hT : whyNotT A x d y p = 1 := (by unfold whyNotT; rw [if_pos (by omega)])
    exact Or.inr ⟨by rw [hT]; decide, by rw [hT]; exact hJf⟩

set_option maxRecDepth 100000 in
set_option maxHeartbeats 4000000 in
theorem k_X4_prey (l : Launch) {w : WP} {F : FF} {A : AS} (hM : MI F A) (hV : AV A)  : Con l yX4_prey cX4_prey 1 (some .int) 8 w [.ref (adr w 110)] F (QI w (fun z F' => z = py A.r ∧ MJ F F' A 0)) := by
  refine Con.mk (lv := [(0, .ref (adr w 110))]) (by decide) (Nat.le_of_ble_eq_true rfl) rfl ?_
  intro pg ev s0 mi be me co C hz
  have hr : F 111 = A.r := hM.r
  have hI : Iv A.r := hM.iv
  have hJ := MJ.refl hM
  have hnb := hV.1
  unfold nb at hnb
  have hlr := hM.lr
  have hnr := hM.s.2.1
  refine q_aload_n C 0 dX4_prey_0 rfl ?_
  refine q_iconst C 0 dX4_prey_1 ?_
  refine q_put (T := TX4) (tyX := tyX4) (i := 8) (j := 8) (z := 0) (ty := .int) C rfl kd110 (by decide) rfl uws4 tyX4_ok nmX4 (by decide) (kd_ln.2.2.2.2 kd110) wd_873 rfl rfl rfl rfl (fsS_4_8 w _ _ _) (Nat.le_of_ble_eq_true rfl) dX4_prey_2 ?_
  have hJ1 := MJ.thr (z := 0) hJ
  have hr1 : (up F 110 8 0) 111 = A.r := hJ1.1.r
  refine q_aload_n C 0 dX4_prey_5 rfl ?_
  refine q_cI (q_runV (As := []) (rest := []) C (k_X4_preyNow l hr1 hI ) kd110 (by decide) rfl wd_1048 wd_1047 wd_41 wd_81 wd_1045 nd_X4_preyNow rfl (by decide) ⟨Nat.zero_le _, Nat.zero_le _⟩ rfl (Nat.le_of_ble_eq_true rfl) dX4_prey_6) ?_
  rintro z F' ⟨rfl, rfl⟩
  have q6 := py_range hI
  refine q_iret C dX4_prey_9 ?_
  exact ⟨rfl, hJ1⟩

set_option maxRecDepth 100000 in
set_option maxHeartbeats 4000000 in
theorem k_X4_shownShare (l : Launch) {w : WP} {F : FF} {A : AS} (hM : MI F A) (hV : AV A)  : Con l yX4_shownShare cX4_shownShare 1 (some .double) 2 w [.ref (adr w 110)] F (QD w (fun z F' => z = shr (40 - bg A.r) ∧ MJ F F' A 0)) := by
  refine Con.mk (lv := [(0, .ref (adr w 110))]) (by decide) (Nat.le_of_ble_eq_true rfl) rfl ?_
  intro pg ev s0 mi be me co C hz
  have hr : F 111 = A.r := hM.r
  have hI : Iv A.r := hM.iv
  have hJ := MJ.refl hM
  have hnb := hV.1
  unfold nb at hnb
  have hlr := hM.lr
  have hnr := hM.s.2.1
  refine q_aload_n C 0 dX4_shownShare_0 rfl ?_
  refine q_iconst C 0 dX4_shownShare_1 ?_
  refine q_put (T := TX4) (tyX := tyX4) (i := 8) (j := 8) (z := 0) (ty := .int) C rfl kd110 (by decide) rfl uws4 tyX4_ok nmX4 (by decide) (kd_ln.2.2.2.2 kd110) wd_873 rfl rfl rfl rfl (fsS_4_8 w _ _ _) (Nat.le_of_ble_eq_true rfl) dX4_shownShare_2 ?_
  have hJ1 := MJ.thr (z := 0) hJ
  have hr1 : (up F 110 8 0) 111 = A.r := hJ1.1.r
  refine q_aload_n C 0 dX4_shownShare_5 rfl ?_
  refine q_cD (q_runV (As := []) (rest := []) C (k_X4_share l hr1 hI ) kd110 (by decide) rfl wd_1258 wd_1257 wd_72 wd_81 wd_1255 nd_X4_share rfl (by decide) ⟨Nat.zero_le _, Nat.zero_le _⟩ rfl (Nat.le_of_ble_eq_true rfl) dX4_shownShare_6) ?_
  rintro z F' ⟨rfl, rfl⟩
  refine q_dret C dX4_shownShare_9 ?_
  exact ⟨rfl, hJ1⟩

set_option maxRecDepth 100000 in
set_option maxHeartbeats 4000000 in
theorem k_X4_number (l : Launch) {w : WP} {F : FF} {A : AS} {k : Int} (hM : MI F A) (hV : AV A) (hk : 0 ≤ k ∧ k < 9) : Con l yX4_number cX4_number 2 (some .int) 7 w [.ref (adr w 110), .int (iI k)] F (QI w (fun z F' => z = cntv A k ∧ F = F')) := by
  refine Con.mk (lv := [(0, .ref (adr w 110)), (1, .int (iI k))]) (by decide) (Nat.le_of_ble_eq_true rfl) rfl ?_
  intro pg ev s0 mi be me co C hz
  have hr : F 111 = A.r := hM.r
  have hI : Iv A.r := hM.iv
  have hJ := MJ.refl hM
  have hnb := hV.1
  unfold nb at hnb
  have hlr := hM.lr
  have hnr := hM.s.2.1
  refine q_iload_n C 1 dX4_number_0 rfl ?_
  rcases (show k = 0 ∨ k = 1 ∨ k = 2 ∨ k = 3 ∨ k = 4 ∨ k = 5 ∨ k = 6 ∨ k = 7 ∨ (k < 0 ∨ 7 < k) by omega) with hsw | hsw | hsw | hsw | hsw | hsw | hsw | hsw | hsw
  · refine q_tableIn C 48 dX4_number_1 ⟨by omega, by omega⟩ (by omega) (by omega) (by rw [hsw]; rfl) (by decide) ?_
    refine q_aload_n C 0 dX4_number_48 rfl ?_
    refine q_cI (q_runV (As := []) (rest := []) C (k_X4_inBag l hr hI ) kd110 (by decide) rfl wd_1143 wd_1142 wd_57 wd_81 wd_1140 nd_X4_inBag rfl (by decide) ⟨Nat.zero_le _, Nat.zero_le _⟩ rfl (Nat.le_of_ble_eq_true rfl) dX4_number_49) ?_
    rintro z F' ⟨rfl, rfl⟩
    have q49 := bg_range hI
    refine q_iret C dX4_number_52 ?_
    exact ⟨by first | (rw [show k = _ from hsw]; rfl) | (rw [show k = 8 by omega]; rfl), rfl⟩
  · refine q_tableIn C 48 dX4_number_1 ⟨by omega, by omega⟩ (by omega) (by omega) (by rw [hsw]; rfl) (by decide) ?_
    refine q_aload_n C 0 dX4_number_48 rfl ?_
    refine q_cI (q_runV (As := []) (rest := []) C (k_X4_inBag l hr hI ) kd110 (by decide) rfl wd_1143 wd_1142 wd_57 wd_81 wd_1140 nd_X4_inBag rfl (by decide) ⟨Nat.zero_le _, Nat.zero_le _⟩ rfl (Nat.le_of_ble_eq_true rfl) dX4_number_49) ?_
    rintro z F' ⟨rfl, rfl⟩
    have q49 := bg_range hI
    refine q_iret C dX4_number_52 ?_
    exact ⟨by first | (rw [show k = _ from hsw]; rfl) | (rw [show k = 8 by omega]; rfl), rfl⟩
  · refine q_tableIn C 53 dX4_number_1 ⟨by omega, by omega⟩ (by omega) (by omega) (by rw [hsw]; rfl) (by decide) ?_
    refine q_aload_n C 0 dX4_number_53 rfl ?_
    refine q_get (T := TX4) (i := 0) C kd110 (by decide) rfl uws4 (by decide) wd_865 rfl dX4_number_54 ?_
    refine q_sipush C 179 dX4_number_57 (by decide) ?_
    refine q_iald C kd111 ⟨by omega, by rw [ln111]; omega⟩ dX4_number_60 ?_
    refine q_top (z' := A.r 179) ((congrFun hr _).trans (congrArg A.r (by omega))) ?_
    refine q_iret C dX4_number_61 ?_
    exact ⟨by first | (rw [show k = _ from hsw]; rfl) | (rw [show k = 8 by omega]; rfl), rfl⟩
  · refine q_tableIn C 62 dX4_number_1 ⟨by omega, by omega⟩ (by omega) (by omega) (by rw [hsw]; rfl) (by decide) ?_
    refine q_aload_n C 0 dX4_number_62 rfl ?_
    refine q_cI (q_runV (As := []) (rest := []) C (k_X4_stolenInAll l hr hI ) kd110 (by decide) rfl wd_1202 wd_1201 wd_64 wd_81 wd_1199 nd_X4_stolenInAll rfl (by decide) ⟨Nat.zero_le _, Nat.zero_le _⟩ rfl (Nat.le_of_ble_eq_true rfl) dX4_number_63) ?_
    rintro z F' ⟨rfl, rfl⟩
    refine q_iret C dX4_number_66 ?_
    exact ⟨by first | (rw [show k = _ from hsw]; rfl) | (rw [show k = 8 by omega]; rfl), rfl⟩
  · refine q_tableIn C 67 dX4_number_1 ⟨by omega, by omega⟩ (by omega) (by omega) (by rw [hsw]; rfl) (by decide) ?_
    refine q_aload_n C 0 dX4_number_67 rfl ?_
    refine q_get (T := TX4) (i := 0) C kd110 (by decide) rfl uws4 (by decide) wd_865 rfl dX4_number_68 ?_
    refine q_sipush C 180 dX4_number_71 (by decide) ?_
    refine q_iald C kd111 ⟨by omega, by rw [ln111]; omega⟩ dX4_number_74 ?_
    refine q_top (z' := A.r 180) ((congrFun hr _).trans (congrArg A.r (by omega))) ?_
    refine q_iret C dX4_number_75 ?_
    exact ⟨by first | (rw [show k = _ from hsw]; rfl) | (rw [show k = 8 by omega]; rfl), rfl⟩
  · refine q_tableIn C 76 dX4_number_1 ⟨by omega, by omega⟩ (by omega) (by omega) (by rw [hsw]; rfl) (by decide) ?_
    refine q_aload_n C 0 dX4_number_76 rfl ?_
    refine q_get (T := TX4) (i := 0) C kd110 (by decide) rfl uws4 (by decide) wd_865 rfl dX4_number_77 ?_
    refine q_sipush C 181 dX4_number_80 (by decide) ?_
    refine q_iald C kd111 ⟨by omega, by rw [ln111]; omega⟩ dX4_number_83 ?_
    refine q_top (z' := A.r 181) ((congrFun hr _).trans (congrArg A.r (by omega))) ?_
    refine q_iret C dX4_number_84 ?_
    exact ⟨by first | (rw [show k = _ from hsw]; rfl) | (rw [show k = 8 by omega]; rfl), rfl⟩
  · refine q_tableIn C 85 dX4_number_1 ⟨by omega, by omega⟩ (by omega) (by omega) (by rw [hsw]; rfl) (by decide) ?_
    refine q_aload_n C 0 dX4_number_85 rfl ?_
    refine q_cI (q_runV (As := []) (rest := []) C (k_X4_lentNow l hr hI ) kd110 (by decide) rfl wd_1206 wd_1205 wd_65 wd_81 wd_1203 nd_X4_lentNow rfl (by decide) ⟨Nat.zero_le _, Nat.zero_le _⟩ rfl (Nat.le_of_ble_eq_true rfl) dX4_number_86) ?_
    rintro z F' ⟨rfl, rfl⟩
    refine q_iret C dX4_number_89 ?_
    exact ⟨by first | (rw [show k = _ from hsw]; rfl) | (rw [show k = 8 by omega]; rfl), rfl⟩
  · refine q_tableIn C 90 dX4_number_1 ⟨by omega, by omega⟩ (by omega) (by omega) (by rw [hsw]; rfl) (by decide) ?_
    refine q_aload_n C 0 dX4_number_90 rfl ?_
    refine q_cI (q_runV (As := []) (rest := []) C (k_X4_allWorth l hr hI ) kd110 (by decide) rfl wd_1210 wd_1209 wd_66 wd_81 wd_1207 nd_X4_allWorth rfl (by decide) ⟨Nat.zero_le _, Nat.zero_le _⟩ rfl (Nat.le_of_ble_eq_true rfl) dX4_number_91) ?_
    rintro z F' ⟨rfl, rfl⟩
    refine q_iret C dX4_number_94 ?_
    exact ⟨by first | (rw [show k = _ from hsw]; rfl) | (rw [show k = 8 by omega]; rfl), rfl⟩
  · refine q_tableOut C 95 dX4_number_1 ⟨by omega, by omega⟩ hsw (by decide) ?_
    refine q_aload_n C 0 dX4_number_95 rfl ?_
    refine q_get (T := TX4) (i := 2) C kd110 (by decide) rfl uws4 (by decide) wd_867 rfl dX4_number_96 ?_
    refine q_top (z' := A.n) (hJ.1.s.1) ?_
    refine q_iret C dX4_number_99 ?_
    exact ⟨by first | (rw [show k = _ from hsw]; rfl) | (rw [show k = 8 by omega]; rfl), rfl⟩

set_option maxRecDepth 100000 in
set_option maxHeartbeats 4000000 in
theorem k_X4_count (l : Launch) {w : WP} {F : FF} {A : AS} {k : Int} (hM : MI F A) (hV : AV A) (hk : inR k) : Con l yX4_count cX4_count 2 (some .int) 8 w [.ref (adr w 110), .int (iI k)] F (QI w (fun z F' => (countT A k = 0 ∧ z = countZ A k ∧ MJ F F' (countN A k) 0) ∨ (countT A k ≠ 0 ∧ MJ F F' A (countT A k)))) := by
  refine Con.mk (lv := [(0, .ref (adr w 110)), (1, .int (iI k))]) (by decide) (Nat.le_of_ble_eq_true rfl) rfl ?_
  intro pg ev s0 mi be me co C hz
  have hr : F 111 = A.r := hM.r
  have hI : Iv A.r := hM.iv
  have hJ := MJ.refl hM
  have hnb := hV.1
  unfold nb at hnb
  have hlr := hM.lr
  have hnr := hM.s.2.1
  obtain ⟨hk1, hk2⟩ := id hk
  refine q_aload_n C 0 dX4_count_0 rfl ?_
  refine q_iconst C 0 dX4_count_1 ?_
  refine q_put (T := TX4) (tyX := tyX4) (i := 8) (j := 8) (z := 0) (ty := .int) C rfl kd110 (by decide) rfl uws4 tyX4_ok nmX4 (by decide) (kd_ln.2.2.2.2 kd110) wd_873 rfl rfl rfl rfl (fsS_4_8 w _ _ _) (Nat.le_of_ble_eq_true rfl) dX4_count_2 ?_
  have hJ1 := MJ.thr (z := 0) hJ
  have hr1 : (up F 110 8 0) 111 = A.r := hJ1.1.r
  refine q_iload_n C 1 dX4_count_5 rfl ?_
  refine q_iconst C 0 dX4_count_6 ?_
  refine q_bipush C 8 dX4_count_7 (by decide) ?_
  refine q_cI (q_runS (As := [.int (iI k), .int (iI 0), .int (iI 8)]) (rest := []) C (k_X4_in l (x := k) (a := 0) (b := 8) ⟨by omega, by omega⟩ ⟨by omega, by omega⟩ ⟨by omega, by omega⟩) wd_930 wd_929 wd_81 wd_928 nd_X4_in rfl (by decide) ⟨Nat.zero_le _, Nat.zero_le _⟩ rfl (Nat.le_of_ble_eq_true rfl) dX4_count_9) ?_
  rintro z F' ⟨⟨rfl, hq9⟩ | ⟨rfl, hq9⟩, rfl⟩
  · refine q_if_eq C 23 dX4_count_12 ⟨by decide, by decide⟩  (by decide) (fun h => absurd h (by decide)) (fun _ => ?_)
    refine q_aload_n C 0 dX4_count_15 rfl ?_
    refine q_iload_n C 1 dX4_count_16 rfl ?_
    refine q_cI (q_runV (As := [.int (iI k)]) (rest := []) C (k_X4_number (F := (up F 110 8 0)) l hJ1.1 hV (k := k) ⟨by omega, by omega⟩) kd110 (by decide) rfl wd_1198 wd_1197 wd_63 wd_81 wd_1195 nd_X4_number rfl (by decide) ⟨Nat.zero_le _, Nat.zero_le _⟩ rfl (Nat.le_of_ble_eq_true rfl) dX4_count_17) ?_
    rintro z F' ⟨rfl, rfl⟩
    refine q_goto C 28 dX4_count_20 (by decide) ?_
    refine q_iret C dX4_count_28 ?_
    exact Or.inl ⟨(by unfold countT; rw [if_neg (by omega)]), rfl, hJ1⟩
  · refine q_if_eq C 23 dX4_count_12 ⟨by decide, by decide⟩  (by decide) (fun _ => ?_) (fun h => absurd h (by decide))
    refine q_aload_n C 0 dX4_count_23 rfl ?_
    refine q_iconst C 1 dX4_count_24 ?_
    refine q_cI (q_runV (As := [.int (iI 1)]) (rest := []) C (k_X4_fails (F := (up F 110 8 0)) l (x := 1)) kd110 (by decide) rfl wd_940 wd_939 wd_23 wd_81 wd_937 nd_X4_fails rfl (by decide) ⟨Nat.zero_le _, Nat.zero_le _⟩ rfl (Nat.le_of_ble_eq_true rfl) dX4_count_25) ?_
    rintro z F9 ⟨hz9, hF9⟩
    subst hz9
    subst hF9
    have hJf := MJ.thr (z := 1) hJ1
    refine q_iret C dX4_count_28 ?_
    have hT : countT A k = 1 := (by unfold countT; rw [if_pos (by omega)])
    exact Or.inr ⟨by rw [hT]; decide, by rw [hT]; exact hJf⟩

set_option maxRecDepth 100000 in
set_option maxHeartbeats 4000000 in
theorem k_X4_clearBuffer (l : Launch) {w : WP} {F : FF} {A : AS} (hM : MI F A) (hV : AV A)  : Con l yX4_clearBuffer cX4_clearBuffer 2 (some .int) 0 w [.ref (adr w 110)] F (QI w (fun z F' => z = A.len ∧ MJ F F' (A.buf (0, A.B)) 0)) := by
  refine Con.mk (lv := [(0, .ref (adr w 110))]) (by decide) (Nat.le_of_ble_eq_true rfl) rfl ?_
  intro pg ev s0 mi be me co C hz
  have hr : F 111 = A.r := hM.r
  have hI : Iv A.r := hM.iv
  have hJ := MJ.refl hM
  have hnb := hV.1
  unfold nb at hnb
  have hlr := hM.lr
  have hnr := hM.s.2.1
  refine q_aload_n C 0 dX4_clearBuffer_0 rfl ?_
  refine q_iconst C 0 dX4_clearBuffer_1 ?_
  refine q_put (T := TX4) (tyX := tyX4) (i := 8) (j := 8) (z := 0) (ty := .int) C rfl kd110 (by decide) rfl uws4 tyX4_ok nmX4 (by decide) (kd_ln.2.2.2.2 kd110) wd_873 rfl rfl rfl rfl (fsS_4_8 w _ _ _) (Nat.le_of_ble_eq_true rfl) dX4_clearBuffer_2 ?_
  have hJ1 := MJ.thr (z := 0) hJ
  have hr1 : (up F 110 8 0) 111 = A.r := hJ1.1.r
  refine q_aload_n C 0 dX4_clearBuffer_5 rfl ?_
  refine q_get (T := TX4) (i := 7) C kd110 (by decide) rfl uws4 (by decide) wd_872 rfl dX4_clearBuffer_6 ?_
  refine q_top (z' := A.len) (hJ1.1.l) ?_
  refine q_istore_n (lv' := [(1, .int (iI A.len)), (0, .ref (adr w 110))]) C dX4_clearBuffer_9 (by decide) rfl ?_
  refine q_aload_n C 1 dX4_clearBuffer_10 rfl ?_
  refine q_iconst C 0 dX4_clearBuffer_11 ?_
  refine q_put (T := TX4) (tyX := tyX4) (i := 7) (j := 7) (z := 0) (ty := .int) C rfl kd110 (by decide) rfl uws4 tyX4_ok nmX4 (by decide) (kd_ln.2.2.2.2 kd110) wd_872 rfl rfl rfl rfl (fsS_4_7 w _ _ _) (Nat.le_of_ble_eq_true rfl) dX4_clearBuffer_12 ?_
  have hJ2 := MJ.txt (P := (0, A.B)) (G' := (up (up F 110 8 0) 110 7 0)) hJ1 (fun q a c => up_k a) (up_j (by decide)) (up_j (by decide)) up_eq ⟨Int.le_refl _, by show (0 : Int) ≤ 60; decide⟩ (fun i a c => by have c2 : i < 0 := c; omega)
  refine q_iload_n C 0 dX4_clearBuffer_15 rfl ?_
  refine q_iret C dX4_clearBuffer_16 ?_
  exact ⟨rfl, hJ2⟩

set_option maxRecDepth 100000 in
set_option maxHeartbeats 4000000 in
theorem k_X4_append (l : Launch) {w : WP} {F : FF} {A : AS} {c : Int} (hM : MI F A) (hV : AV A) (hc : inR c) : Con l yX4_append cX4_append 2 (some .int) 1 w [.ref (adr w 110), .int (iI c)] F (QI w (fun z F' => (appendT A c = 0 ∧ z = appendZ A c ∧ MJ F F' (appendN A c) 0) ∨ (appendT A c ≠ 0 ∧ MJ F F' A (appendT A c)))) := by
  refine Con.mk (lv := [(0, .ref (adr w 110)), (1, .int (iI c))]) (by decide) (Nat.le_of_ble_eq_true rfl) rfl ?_
  intro pg ev s0 mi be me co C hz
  have hr : F 111 = A.r := hM.r
  have hI : Iv A.r := hM.iv
  have hJ := MJ.refl hM
  have hnb := hV.1
  unfold nb at hnb
  have hlr := hM.lr
  have hnr := hM.s.2.1
  obtain ⟨hc1, hc2⟩ := id hc
  refine q_aload_n C 0 dX4_append_0 rfl ?_
  refine q_iconst C 0 dX4_append_1 ?_
  refine q_put (T := TX4) (tyX := tyX4) (i := 8) (j := 8) (z := 0) (ty := .int) C rfl kd110 (by decide) rfl uws4 tyX4_ok nmX4 (by decide) (kd_ln.2.2.2.2 kd110) wd_873 rfl rfl rfl rfl (fsS_4_8 w _ _ _) (Nat.le_of_ble_eq_true rfl) dX4_append_2 ?_
  have hJ1 := MJ.thr (z := 0) hJ
  have hr1 : (up F 110 8 0) 111 = A.r := hJ1.1.r
  refine q_iload_n C 1 dX4_append_5 rfl ?_
  refine q_bipush C 33 dX4_append_6 (by decide) ?_
  refine q_bipush C 126 dX4_append_8 (by decide) ?_
  refine q_cI (q_runS (As := [.int (iI c), .int (iI 33), .int (iI 126)]) (rest := []) C (k_X4_in l (x := c) (a := 33) (b := 126) ⟨by omega, by omega⟩ ⟨by omega, by omega⟩ ⟨by omega, by omega⟩) wd_930 wd_929 wd_81 wd_928 nd_X4_in rfl (by decide) ⟨Nat.zero_le _, Nat.zero_le _⟩ rfl (Nat.le_of_ble_eq_true rfl) dX4_append_10) ?_
  rintro z F' ⟨⟨rfl, hq10⟩ | ⟨rfl, hq10⟩, rfl⟩
  · refine q_if_ne C 22 dX4_append_13 ⟨by decide, by decide⟩  (by decide) (fun _ => ?_) (fun h => absurd h (by decide))
    refine q_aload_n C 0 dX4_append_22 rfl ?_
    refine q_get (T := TX4) (i := 7) C kd110 (by decide) rfl uws4 (by decide) wd_872 rfl dX4_append_23 ?_
    refine q_top (z' := A.len) (hJ1.1.l) ?_
    refine q_bipush C 60 dX4_append_26 (by decide) ?_
    refine q_icmp_ne C 37 dX4_append_28 ⟨by omega, by omega⟩ ⟨by decide, by decide⟩ (by decide) (fun h28 => ?_) (fun h28 => ?_)
    · refine q_aload_n C 0 dX4_append_37 rfl ?_
      refine q_get (T := TX4) (i := 6) C kd110 (by decide) rfl uws4 (by decide) wd_871 rfl dX4_append_38 ?_
      refine q_aload_n C 0 dX4_append_41 rfl ?_
      refine q_get (T := TX4) (i := 7) C kd110 (by decide) rfl uws4 (by decide) wd_872 rfl dX4_append_42 ?_
      refine q_top (z' := A.len) (hJ1.1.l) ?_
      refine q_iload_n C 1 dX4_append_45 rfl ?_
      refine q_iast C kd116 ⟨by omega, by rw [ln116]; omega⟩ dX4_append_46 ?_
      have hL2 : (up (up F 110 8 0) 116 A.len c) 110 7 = A.len := hJ1.1.l
      refine q_aload_n C 0 dX4_append_47 rfl ?_
      refine q_dup C dX4_append_48 rfl ?_
      refine q_get (T := TX4) (i := 7) C kd110 (by decide) rfl uws4 (by decide) wd_872 rfl dX4_append_49 ?_
      refine q_top (z' := A.len) (hL2) ?_
      refine q_iconst C 1 dX4_append_52 ?_
      refine q_iadd C dX4_append_53 ?_
      refine q_put (T := TX4) (tyX := tyX4) (i := 7) (j := 7) (z := (A.len + 1)) (ty := .int) C rfl kd110 (by decide) rfl uws4 tyX4_ok nmX4 (by decide) (kd_ln.2.2.2.2 kd110) wd_872 rfl rfl rfl rfl (fsS_4_7 w _ _ _) (Nat.le_of_ble_eq_true rfl) dX4_append_54 ?_
      have hJ3 := MJ.txt (P := em (A.len, A.B) c) (G' := (up (up (up F 110 8 0) 116 A.len c) 110 7 (A.len + 1))) hJ1 (fun q a c => by rw [up_k a, up_k (by omega)]) (by rw [up_j (by decide), up_k (by decide)]) (by rw [up_j (by decide), up_k (by decide)]) up_eq ⟨by show 0 ≤ A.len + 1; omega, by show A.len + 1 ≤ 60; omega⟩ (fun i a q => by rw [up_k (by decide)]; exact em_cell (by exact hJ1.1) i a q)
      refine q_aload_n C 0 dX4_append_57 rfl ?_
      refine q_get (T := TX4) (i := 7) C kd110 (by decide) rfl uws4 (by decide) wd_872 rfl dX4_append_58 ?_
      refine q_top (z' := (A.buf (em (A.len, A.B) c)).len) (hJ3.1.l) ?_
      refine q_iret C dX4_append_61 ?_
      exact Or.inl ⟨(by unfold appendT; rw [if_neg (by omega), if_neg (by omega)]), rfl, hJ3⟩
    · refine q_aload_n C 0 dX4_append_31 rfl ?_
      refine q_iconst C 2 dX4_append_32 ?_
      refine q_cI (q_runV (As := [.int (iI 2)]) (rest := []) C (k_X4_fails (F := (up F 110 8 0)) l (x := 2)) kd110 (by decide) rfl wd_940 wd_939 wd_23 wd_81 wd_937 nd_X4_fails rfl (by decide) ⟨Nat.zero_le _, Nat.zero_le _⟩ rfl (Nat.le_of_ble_eq_true rfl) dX4_append_33) ?_
      rintro z F9 ⟨hz9, hF9⟩
      subst hz9
      subst hF9
      have hJf := MJ.thr (z := 2) hJ1
      refine q_iret C dX4_append_36 ?_
      have hT : appendT A c = 2 := (by unfold appendT; rw [if_neg (by omega), if_pos (by omega)])
      exact Or.inr ⟨by rw [hT]; decide, by rw [hT]; exact hJf⟩
  · refine q_if_ne C 22 dX4_append_13 ⟨by decide, by decide⟩  (by decide) (fun h => absurd h (by decide)) (fun _ => ?_)
    refine q_aload_n C 0 dX4_append_16 rfl ?_
    refine q_iconst C 1 dX4_append_17 ?_
    refine q_cI (q_runV (As := [.int (iI 1)]) (rest := []) C (k_X4_fails (F := (up F 110 8 0)) l (x := 1)) kd110 (by decide) rfl wd_940 wd_939 wd_23 wd_81 wd_937 nd_X4_fails rfl (by decide) ⟨Nat.zero_le _, Nat.zero_le _⟩ rfl (Nat.le_of_ble_eq_true rfl) dX4_append_18) ?_
    rintro z F9 ⟨hz9, hF9⟩
    subst hz9
    subst hF9
    have hJf := MJ.thr (z := 1) hJ1
    refine q_iret C dX4_append_21 ?_
    have hT : appendT A c = 1 := (by unfold appendT; rw [if_pos (by omega)])
    exact Or.inr ⟨by rw [hT]; decide, by rw [hT]; exact hJf⟩
