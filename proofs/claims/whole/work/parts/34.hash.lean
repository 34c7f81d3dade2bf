/-! the hash -/
def it (g : Int → Int → Int) (h : Int) : Nat → Int
  | 0 => h
  | n + 1 => g (it g h n) n
theorem it_s {g : Int → Int → Int} {h i : Int} (h0 : 0 ≤ i) : it g h (i + 1).toNat = g (it g h i.toNat) i := by
  rw [show (i + 1).toNat = i.toNat + 1 by omega]
  show g _ (i.toNat : Int) = _
  rw [Int.toNat_of_nonneg h0]
def hP (f : Int → Int) (h i : Int) : Int := it (fun h k => 31 * h + wI (f k)) h i.toNat
theorem hP_s {f : Int → Int} {h i : Int} (h0 : 0 ≤ i) : hP f h (i + 1) = 31 * hP f h i + wI (f i) := it_s h0
def hL (r : Rw) (h y : Int) : Int := 31 * hP (lpr r y) (hP (W0 r y) h 6) 8 + wI (bf r y)
def hDn (r s : Rw) (h d : Int) : Int := 31 * it (fun a i => hL r a (4 * d + i)) (hP (dpr r d) h 5) 4 + wI (dw s d)
def dg1 (A : AS) : Int := hP (cntv A) 3391 9
def dg2 (A : AS) : Int := hP (fun k => A.r (176 + k)) (dg1 A) 3
def dg3 (A : AS) : Int := it (fun h x => hP (fun k => wpr A.r x (3 + k)) h 4) (dg2 A) 40
def dg4 (A : AS) : Int := it (fun h d => hDn A.r (ngs A.r (3 : Int).toNat) h d) (dg3 A) 4
def dg5 (A : AS) : Int := 31 * (31 * dg4 A + wI (py A.r)) + shB (40 - bg A.r)
def dg6 (A : AS) : Int := 31 * hP A.kp (dg5 A) 2 + wI A.len
def dig (A : AS) : Int := hP A.B (dg6 A) A.len

set_option maxRecDepth 100000 in
set_option maxHeartbeats 4000000 in
theorem k_X3_mixDoor (l : Launch) {w : WP} {F : FF} {r s : Rw} {h d : Int} (hB : BI F 1 r) (hD : BI F 11 s) (hd : 0 ≤ d ∧ d < 4) : Con l yX3_mixDoor cX3_mixDoor 9 (some .long) 5 w [.ref (adr w 0), .long (iL h), .int (iI d)] F (QL w (fun z F' => z = hDn r s h d ∧ F = F')) := by
  refine Con.mk (lv := [(0, .ref (adr w 0)), (1, .long (iL h)), (3, .int (iI d))]) (by decide) (Nat.le_of_ble_eq_true rfl) rfl ?_
  intro pg ev s0 mi be me co C hz
  have hI := hB.iv
  refine q_lload_n C 1 dX3_mixDoor_0 rfl ?_
  refine q_lstore (lv' := [(4, .long (iL h)), (0, .ref (adr w 0)), (1, .long (iL h)), (3, .int (iI d))]) C dX3_mixDoor_1 (by decide) rfl ?_
  refine q_iconst C 0 dX3_mixDoor_3 ?_
  refine q_istore (lv' := [(6, .int (iI 0)), (4, .long (iL h)), (0, .ref (adr w 0)), (1, .long (iL h)), (3, .int (iI d))]) C dX3_mixDoor_4 (by decide) rfl ?_
  refine q_lv (lv' := [(0, .ref (adr w 0)), (1, .long (iL h)), (3, .int (iI d)), (4, .long (iL h)), (6, .int (iI 0))]) [2, 3, 4, 1, 0] rfl ?_
  refine wf2 (P := fun (k : Int) (a : Int) => Wq pg l ev _ s0 mi _ be me co _ w _ _ _ 6 [(0, .ref (adr w 0)), (1, .long (iL h)), (3, .int (iI d)), (4, .long (iL a)), (6, .int (iI k))] [] F) (I := fun (k : Int) (a : Int) => 0 ≤ k ∧ k ≤ 5 ∧ a = hP (dpr r d) h k) (μ := fun (k : Int) (a : Int) => (5 - k).toNat) ?_ 0 h (⟨by omega, by omega, rfl⟩)
  intro k a hI' ih6
  (try dsimp only at hI'); (try dsimp only at ih6); (try dsimp only)
  obtain ⟨hk0, hk1, ha⟩ := hI'
  refine q_iload C 4 dX3_mixDoor_6 rfl ?_
  refine q_iconst C 5 dX3_mixDoor_8 ?_
  refine q_icmp_ge C 36 dX3_mixDoor_9 ⟨by omega, by omega⟩ ⟨by decide, by decide⟩ (by decide) (fun h9 => ?_) (fun h9 => ?_)
  · refine q_iconst C 0 dX3_mixDoor_36 ?_
    refine q_istore (lv' := [(6, .int (iI 0)), (0, .ref (adr w 0)), (1, .long (iL h)), (3, .int (iI d)), (4, .long (iL a))]) C dX3_mixDoor_37 (by decide) rfl ?_
    refine q_lv (lv' := [(0, .ref (adr w 0)), (1, .long (iL h)), (3, .int (iI d)), (4, .long (iL a)), (6, .int (iI 0))]) [1, 2, 3, 4, 0] rfl ?_
    refine wf2 (P := fun (i : Int) (b : Int) => Wq pg l ev _ s0 mi _ be me co _ w _ _ _ 39 [(0, .ref (adr w 0)), (1, .long (iL h)), (3, .int (iI d)), (4, .long (iL b)), (6, .int (iI i))] [] F) (I := fun (i : Int) (b : Int) => 0 ≤ i ∧ i ≤ 4 ∧ b = it (fun a i => hL r a (4 * d + i)) (hP (dpr r d) h 5) i.toNat) (μ := fun (i : Int) (b : Int) => (4 - i).toNat) ?_ 0 a (⟨by omega, by omega, by rw [ha, show k = 5 by omega]; rfl⟩)
    intro i b hI' ih39
    (try dsimp only at hI'); (try dsimp only at ih39); (try dsimp only)
    obtain ⟨hi0, hi1, hb⟩ := hI'
    refine q_iload C 4 dX3_mixDoor_39 rfl ?_
    refine q_iconst C 4 dX3_mixDoor_41 ?_
    refine q_icmp_ge C 146 dX3_mixDoor_42 ⟨by omega, by omega⟩ ⟨by decide, by decide⟩ (by decide) (fun h42 => ?_) (fun h42 => ?_)
    · refine q_lload C 3 dX3_mixDoor_146 rfl ?_
      refine q_aload_n C 0 dX3_mixDoor_148 rfl ?_
      refine q_get (T := TX3) (i := 1) C kd0 (by decide) rfl uws3 (by decide) wd_205 rfl dX3_mixDoor_149 ?_
      refine q_iload_n C 2 dX3_mixDoor_152 rfl ?_
      refine q_cI (q_runV (As := [.int (iI d)]) (rest := [.long (iL b)]) C (k_X0_worthOfDoor l hb11 hD ⟨by omega, by omega⟩) hb11.k0 (by decide) rfl wd_295 wd_293 wd_294 wd_78 wd_455 nd_X0_worthOfDoor rfl (by decide) ⟨Nat.zero_le _, Nat.zero_le _⟩ rfl (Nat.le_of_ble_eq_true rfl) dX3_mixDoor_153) ?_
      rintro z F' ⟨rfl, rfl⟩
      refine q_i2l C dX3_mixDoor_156 ?_
      refine q_cL (q_runS (As := [.long (iL b), .long (iL (wI (dw s d)))]) (rest := []) C (k_X3_mix l (x := b) (y := wI (dw s d))) wd_400 wd_399 wd_77 wd_398 nd_X3_mix rfl (by decide) ⟨Nat.zero_le _, Nat.zero_le _⟩ rfl (Nat.le_of_ble_eq_true rfl) dX3_mixDoor_157) ?_
      rintro z F' ⟨rfl, rfl⟩
      refine q_lret C dX3_mixDoor_160 ?_
      exact ⟨by rw [hb, show i = 4 by omega]; rfl, rfl⟩
    · refine q_iload_n C 2 dX3_mixDoor_45 rfl ?_
      refine q_iload C 4 dX3_mixDoor_46 rfl ?_
      refine q_cI (q_runS (As := [.int (iI d), .int (iI i)]) (rest := []) C (k_X3_lineNumber l) wd_288 wd_287 wd_77 wd_418 nd_X3_lineNumber rfl (by decide) ⟨Nat.zero_le _, Nat.zero_le _⟩ rfl (Nat.le_of_ble_eq_true rfl) dX3_mixDoor_48) ?_
      rintro z F' ⟨rfl, rfl⟩
      refine q_istore (lv' := [(7, .int (iI (4 * d + i))), (0, .ref (adr w 0)), (1, .long (iL h)), (3, .int (iI d)), (4, .long (iL b)), (6, .int (iI i))]) C dX3_mixDoor_51 (by decide) rfl ?_
      refine q_iconst C 0 dX3_mixDoor_53 ?_
      refine q_istore (lv' := [(8, .int (iI 0)), (7, .int (iI (4 * d + i))), (0, .ref (adr w 0)), (1, .long (iL h)), (3, .int (iI d)), (4, .long (iL b)), (6, .int (iI i))]) C dX3_mixDoor_54 (by decide) rfl ?_
      refine q_lv (lv' := [(0, .ref (adr w 0)), (1, .long (iL h)), (3, .int (iI d)), (4, .long (iL b)), (6, .int (iI i)), (7, .int (iI (4 * d + i))), (8, .int (iI 0))]) [2, 3, 4, 5, 6, 1, 0] rfl ?_
      refine wf2 (P := fun (p : Int) (c : Int) => Wq pg l ev _ s0 mi _ be me co _ w _ _ _ 56 [(0, .ref (adr w 0)), (1, .long (iL h)), (3, .int (iI d)), (4, .long (iL c)), (6, .int (iI i)), (7, .int (iI (4 * d + i))), (8, .int (iI p))] [] F) (I := fun (p : Int) (c : Int) => 0 ≤ p ∧ p ≤ 6 ∧ c = hP (W0 r (4 * d + i)) b p) (μ := fun (p : Int) (c : Int) => (6 - p).toNat) ?_ 0 b (⟨by omega, by omega, rfl⟩)
      intro p c hI' ih56
      (try dsimp only at hI'); (try dsimp only at ih56); (try dsimp only)
      obtain ⟨hp0, hp1, hc⟩ := hI'
      refine q_iload C 6 dX3_mixDoor_56 rfl ?_
      refine q_bipush C 6 dX3_mixDoor_58 (by decide) ?_
      refine q_icmp_ge C 88 dX3_mixDoor_60 ⟨by omega, by omega⟩ ⟨by decide, by decide⟩ (by decide) (fun h60 => ?_) (fun h60 => ?_)
      · refine q_iconst C 0 dX3_mixDoor_88 ?_
        refine q_istore (lv' := [(8, .int (iI 0)), (0, .ref (adr w 0)), (1, .long (iL h)), (3, .int (iI d)), (4, .long (iL c)), (6, .int (iI i)), (7, .int (iI (4 * d + i)))]) C dX3_mixDoor_89 (by decide) rfl ?_
        refine q_lv (lv' := [(0, .ref (adr w 0)), (1, .long (iL h)), (3, .int (iI d)), (4, .long (iL c)), (6, .int (iI i)), (7, .int (iI (4 * d + i))), (8, .int (iI 0))]) [1, 2, 3, 4, 5, 6, 0] rfl ?_
        refine wf2 (P := fun (m : Int) (e : Int) => Wq pg l ev _ s0 mi _ be me co _ w _ _ _ 91 [(0, .ref (adr w 0)), (1, .long (iL h)), (3, .int (iI d)), (4, .long (iL e)), (6, .int (iI i)), (7, .int (iI (4 * d + i))), (8, .int (iI m))] [] F) (I := fun (m : Int) (e : Int) => 0 ≤ m ∧ m ≤ 8 ∧ e = hP (lpr r (4 * d + i)) (hP (W0 r (4 * d + i)) b 6) m) (μ := fun (m : Int) (e : Int) => (8 - m).toNat) ?_ 0 c (⟨by omega, by omega, by rw [hc, show p = 6 by omega]; rfl⟩)
        intro m e hI' ih91
        (try dsimp only at hI'); (try dsimp only at ih91); (try dsimp only)
        obtain ⟨hm0, hm1, he⟩ := hI'
        refine q_iload C 6 dX3_mixDoor_91 rfl ?_
        refine q_bipush C 8 dX3_mixDoor_93 (by decide) ?_
        refine q_icmp_ge C 123 dX3_mixDoor_95 ⟨by omega, by omega⟩ ⟨by decide, by decide⟩ (by decide) (fun h95 => ?_) (fun h95 => ?_)
        · refine q_lload C 3 dX3_mixDoor_123 rfl ?_
          refine q_aload_n C 0 dX3_mixDoor_125 rfl ?_
          refine q_get (T := TX3) (i := 0) C kd0 (by decide) rfl uws3 (by decide) wd_204 rfl dX3_mixDoor_126 ?_
          refine q_iload C 5 dX3_mixDoor_129 rfl ?_
          refine q_cI (q_runV (As := [.int (iI (4 * d + i))]) (rest := [.long (iL e)]) C (k_X0_bestWordFor l hb1 hB ⟨by omega, by omega⟩) hb1.k0 (by decide) rfl wd_446 wd_444 wd_445 wd_78 wd_443 nd_X0_bestWordFor rfl (by decide) ⟨Nat.zero_le _, Nat.zero_le _⟩ rfl (Nat.le_of_ble_eq_true rfl) dX3_mixDoor_131) ?_
          rintro z F' ⟨rfl, rfl⟩
          refine q_i2l C dX3_mixDoor_134 ?_
          refine q_cL (q_runS (As := [.long (iL e), .long (iL (wI (bf r (4 * d + i))))]) (rest := []) C (k_X3_mix l (x := e) (y := wI (bf r (4 * d + i)))) wd_400 wd_399 wd_77 wd_398 nd_X3_mix rfl (by decide) ⟨Nat.zero_le _, Nat.zero_le _⟩ rfl (Nat.le_of_ble_eq_true rfl) dX3_mixDoor_135) ?_
          rintro z F' ⟨rfl, rfl⟩
          refine q_lstore (lv' := [(4, .long (iL (31 * e + (wI (bf r (4 * d + i)))))), (0, .ref (adr w 0)), (1, .long (iL h)), (3, .int (iI d)), (6, .int (iI i)), (7, .int (iI (4 * d + i))), (8, .int (iI m))]) C dX3_mixDoor_138 (by decide) rfl ?_
          refine q_iinc (lv' := [(6, .int (iI (i + 1))), (4, .long (iL (31 * e + (wI (bf r (4 * d + i)))))), (0, .ref (adr w 0)), (1, .long (iL h)), (3, .int (iI d)), (7, .int (iI (4 * d + i))), (8, .int (iI m))]) C 4 dX3_mixDoor_140 rfl (by decide) rfl ?_
          refine q_goto C 39 dX3_mixDoor_143 (by decide) ?_
          refine q_lv (lv' := [(0, .ref (adr w 0)), (1, .long (iL h)), (3, .int (iI d)), (4, .long (iL (31 * e + (wI (bf r (4 * d + i)))))), (6, .int (iI (i + 1)))]) [2, 3, 4, 1, 0] rfl ?_
          exact ih39 (i + 1) (31 * e + (wI (bf r (4 * d + i)))) (⟨by omega, by omega, by rw [it_s hi0, ← hb, he, show m = 8 by omega]; rfl⟩) (by omega)
        · refine q_lload C 3 dX3_mixDoor_98 rfl ?_
          refine q_aload_n C 0 dX3_mixDoor_100 rfl ?_
          refine q_get (T := TX3) (i := 0) C kd0 (by decide) rfl uws3 (by decide) wd_204 rfl dX3_mixDoor_101 ?_
          refine q_iload C 5 dX3_mixDoor_104 rfl ?_
          refine q_iload C 6 dX3_mixDoor_106 rfl ?_
          refine q_cI (q_runV (As := [.int (iI (4 * d + i)), .int (iI m)]) (rest := [.long (iL e)]) C (k_X0_lineProperty l hb1 hB ⟨by omega, by omega⟩ ⟨by omega, by omega⟩) hb1.k0 (by decide) rfl wd_423 wd_421 wd_422 wd_78 wd_420 nd_X0_lineProperty rfl (by decide) ⟨Nat.zero_le _, Nat.zero_le _⟩ rfl (Nat.le_of_ble_eq_true rfl) dX3_mixDoor_108) ?_
          rintro z F' ⟨rfl, rfl⟩
          refine q_i2l C dX3_mixDoor_111 ?_
          refine q_cL (q_runS (As := [.long (iL e), .long (iL (wI (lpr r (4 * d + i) m)))]) (rest := []) C (k_X3_mix l (x := e) (y := wI (lpr r (4 * d + i) m))) wd_400 wd_399 wd_77 wd_398 nd_X3_mix rfl (by decide) ⟨Nat.zero_le _, Nat.zero_le _⟩ rfl (Nat.le_of_ble_eq_true rfl) dX3_mixDoor_112) ?_
          rintro z F' ⟨rfl, rfl⟩
          refine q_lstore (lv' := [(4, .long (iL (31 * e + (wI (lpr r (4 * d + i) m))))), (0, .ref (adr w 0)), (1, .long (iL h)), (3, .int (iI d)), (6, .int (iI i)), (7, .int (iI (4 * d + i))), (8, .int (iI m))]) C dX3_mixDoor_115 (by decide) rfl ?_
          refine q_iinc (lv' := [(8, .int (iI (m + 1))), (4, .long (iL (31 * e + (wI (lpr r (4 * d + i) m))))), (0, .ref (adr w 0)), (1, .long (iL h)), (3, .int (iI d)), (6, .int (iI i)), (7, .int (iI (4 * d + i)))]) C 6 dX3_mixDoor_117 rfl (by decide) rfl ?_
          refine q_goto C 91 dX3_mixDoor_120 (by decide) ?_
          refine q_lv (lv' := [(0, .ref (adr w 0)), (1, .long (iL h)), (3, .int (iI d)), (4, .long (iL (31 * e + (wI (lpr r (4 * d + i) m))))), (6, .int (iI i)), (7, .int (iI (4 * d + i))), (8, .int (iI (m + 1)))]) [2, 3, 4, 1, 5, 6, 0] rfl ?_
          exact ih91 (m + 1) (31 * e + (wI (lpr r (4 * d + i) m))) (⟨by omega, by omega, by rw [hP_s hm0, he]⟩) (by omega)
      · refine q_lload C 3 dX3_mixDoor_63 rfl ?_
        refine q_aload_n C 0 dX3_mixDoor_65 rfl ?_
        refine q_get (T := TX3) (i := 0) C kd0 (by decide) rfl uws3 (by decide) wd_204 rfl dX3_mixDoor_66 ?_
        refine q_iload C 5 dX3_mixDoor_69 rfl ?_
        refine q_iload C 6 dX3_mixDoor_71 rfl ?_
        refine q_cI (q_runV (As := [.int (iI (4 * d + i)), .int (iI p)]) (rest := [.long (iL c)]) C ((k_wat l hb1 hB (x := 4 * d + i) (p := p) ⟨by omega, by omega⟩ ⟨by omega, by omega⟩).post (fun z F9 h => (⟨wat_W0 h.1, h.2⟩ : z = W0 r (4 * d + i) p ∧ F = F9))) hb1.k0 (by decide) rfl wd_307 wd_305 wd_306 wd_78 wd_419 nd_X0_wordAt rfl (by decide) ⟨Nat.zero_le _, Nat.zero_le _⟩ rfl (Nat.le_of_ble_eq_true rfl) dX3_mixDoor_73) ?_
        rintro z F' ⟨rfl, rfl⟩
        have q73 := W0_range (l := 4 * d + i) (p := p) hI (by omega) (by omega)
        refine q_i2l C dX3_mixDoor_76 ?_
        refine q_cL (q_runS (As := [.long (iL c), .long (iL (wI (W0 r (4 * d + i) p)))]) (rest := []) C (k_X3_mix l (x := c) (y := wI (W0 r (4 * d + i) p))) wd_400 wd_399 wd_77 wd_398 nd_X3_mix rfl (by decide) ⟨Nat.zero_le _, Nat.zero_le _⟩ rfl (Nat.le_of_ble_eq_true rfl) dX3_mixDoor_77) ?_
        rintro z F' ⟨rfl, rfl⟩
        refine q_lstore (lv' := [(4, .long (iL (31 * c + (wI (W0 r (4 * d + i) p))))), (0, .ref (adr w 0)), (1, .long (iL h)), (3, .int (iI d)), (6, .int (iI i)), (7, .int (iI (4 * d + i))), (8, .int (iI p))]) C dX3_mixDoor_80 (by decide) rfl ?_
        refine q_iinc (lv' := [(8, .int (iI (p + 1))), (4, .long (iL (31 * c + (wI (W0 r (4 * d + i) p))))), (0, .ref (adr w 0)), (1, .long (iL h)), (3, .int (iI d)), (6, .int (iI i)), (7, .int (iI (4 * d + i)))]) C 6 dX3_mixDoor_82 rfl (by decide) rfl ?_
        refine q_goto C 56 dX3_mixDoor_85 (by decide) ?_
        refine q_lv (lv' := [(0, .ref (adr w 0)), (1, .long (iL h)), (3, .int (iI d)), (4, .long (iL (31 * c + (wI (W0 r (4 * d + i) p))))), (6, .int (iI i)), (7, .int (iI (4 * d + i))), (8, .int (iI (p + 1)))]) [2, 3, 4, 1, 5, 6, 0] rfl ?_
        exact ih56 (p + 1) (31 * c + (wI (W0 r (4 * d + i) p))) (⟨by omega, by omega, by rw [hP_s hp0, hc]⟩) (by omega)
  · refine q_lload C 3 dX3_mixDoor_12 rfl ?_
    refine q_aload_n C 0 dX3_mixDoor_14 rfl ?_
    refine q_get (T := TX3) (i := 0) C kd0 (by decide) rfl uws3 (by decide) wd_204 rfl dX3_mixDoor_15 ?_
    refine q_iload_n C 2 dX3_mixDoor_18 rfl ?_
    refine q_iload C 4 dX3_mixDoor_19 rfl ?_
    refine q_cI (q_runV (As := [.int (iI d), .int (iI k)]) (rest := [.long (iL a)]) C (k_X0_doorProperty l hb1 hB ⟨by omega, by omega⟩ ⟨by omega, by omega⟩) hb1.k0 (by decide) rfl wd_417 wd_415 wd_416 wd_78 wd_414 nd_X0_doorProperty rfl (by decide) ⟨Nat.zero_le _, Nat.zero_le _⟩ rfl (Nat.le_of_ble_eq_true rfl) dX3_mixDoor_21) ?_
    rintro z F' ⟨rfl, rfl⟩
    refine q_i2l C dX3_mixDoor_24 ?_
    refine q_cL (q_runS (As := [.long (iL a), .long (iL (wI (dpr r d k)))]) (rest := []) C (k_X3_mix l (x := a) (y := wI (dpr r d k))) wd_400 wd_399 wd_77 wd_398 nd_X3_mix rfl (by decide) ⟨Nat.zero_le _, Nat.zero_le _⟩ rfl (Nat.le_of_ble_eq_true rfl) dX3_mixDoor_25) ?_
    rintro z F' ⟨rfl, rfl⟩
    refine q_lstore (lv' := [(4, .long (iL (31 * a + (wI (dpr r d k))))), (0, .ref (adr w 0)), (1, .long (iL h)), (3, .int (iI d)), (6, .int (iI k))]) C dX3_mixDoor_28 (by decide) rfl ?_
    refine q_iinc (lv' := [(6, .int (iI (k + 1))), (4, .long (iL (31 * a + (wI (dpr r d k))))), (0, .ref (adr w 0)), (1, .long (iL h)), (3, .int (iI d))]) C 4 dX3_mixDoor_30 rfl (by decide) rfl ?_
    refine q_goto C 6 dX3_mixDoor_33 (by decide) ?_
    refine q_lv (lv' := [(0, .ref (adr w 0)), (1, .long (iL h)), (3, .int (iI d)), (4, .long (iL (31 * a + (wI (dpr r d k))))), (6, .int (iI (k + 1)))]) [2, 3, 4, 1, 0] rfl ?_
    exact ih6 (k + 1) (31 * a + (wI (dpr r d k))) (⟨by omega, by omega, by rw [hP_s hk0, ha]⟩) (by omega)

set_option maxRecDepth 100000 in
set_option maxHeartbeats 4000000 in
theorem k_X3_digest (l : Launch) {w : WP} {F : FF} {A : AS} (hA : CI F A)  : Con l yX3_digest cX3_digest 5 (some .long) 6 w [.ref (adr w 0)] F (QL w (fun z F' => z = dig A ∧ CJ F F' A)) := by
  refine Con.mk (lv := [(0, .ref (adr w 0))]) (by decide) (Nat.le_of_ble_eq_true rfl) rfl ?_
  intro pg ev s0 mi be me co C hz
  have hB := hA.b
  have hI := hB.iv
  have hJ := CJ.refl hA
  have hv9 := hA.v.2.2.2.1
  have hbg := bg_range hI
  refine q_aload_n C 0 dX3_digest_0 rfl ?_
  refine q_get (T := TX3) (i := 1) C kd0 (by decide) rfl uws3 (by decide) wd_205 rfl dX3_digest_1 ?_
  refine q_aload_n C 0 dX3_digest_4 rfl ?_
  refine q_get (T := TX3) (i := 0) C kd0 (by decide) rfl uws3 (by decide) wd_204 rfl dX3_digest_5 ?_
  refine q_cV (q_runV (As := [.ref (adr w 1)]) (rest := []) C (k_X0_copyFrom (F := F) (b := 11) (o := 1) (r := A.r) l hb11 hb1 (by decide) hB) hb11.k0 (by decide) rfl wd_345 wd_343 wd_344 wd_78 wd_342 nd_X0_copyFrom rfl (by decide) ⟨Nat.zero_le _, Nat.zero_le _⟩ rfl (Nat.le_of_ble_eq_true rfl) dX3_digest_8) ?_
  rintro G1 ⟨hE1, hf1⟩
  have hJ1 := hJ.dr hf1
  refine q_aload_n C 0 dX3_digest_11 rfl ?_
  refine q_get (T := TX3) (i := 1) C kd0 (by decide) rfl uws3 (by decide) wd_205 rfl dX3_digest_12 ?_
  refine q_iconst C 3 dX3_digest_15 ?_
  refine q_cI (q_runV (As := [.int (iI 3)]) (rest := []) C (k_X0_passNights l hb11 hE1 (n := 3) ⟨by omega, by omega⟩) hb11.k0 (by decide) rfl wd_352 wd_350 wd_351 wd_78 wd_349 nd_X0_passNights rfl (by decide) ⟨Nat.zero_le _, Nat.zero_le _⟩ rfl (Nat.le_of_ble_eq_true rfl) dX3_digest_16) ?_
  rintro z G2 ⟨rfl, hD2, hf2⟩
  have hJ2 := hJ1.dr hf2
  have hA2 := hJ2.1
  have hB2 : BI G2 1 A.r := hA2.b
  refine q_pop C dX3_digest_19 rfl ?_
  refine q_ldc2 C 3391 rfl wd_381 dX3_digest_20 ?_
  refine q_lstore_n (lv' := [(1, .long (iL 3391)), (0, .ref (adr w 0))]) C dX3_digest_23 (by decide) rfl ?_
  refine q_iconst C 0 dX3_digest_24 ?_
  refine q_istore_n (lv' := [(3, .int (iI 0)), (1, .long (iL 3391)), (0, .ref (adr w 0))]) C dX3_digest_25 (by decide) rfl ?_
  refine q_lv (lv' := [(0, .ref (adr w 0)), (1, .long (iL 3391)), (3, .int (iI 0))]) [2, 1, 0] rfl ?_
  refine wf2 (P := fun (i : Int) (ai : Int) => Wq pg l ev _ s0 mi _ be me co _ w _ _ _ 26 [(0, .ref (adr w 0)), (1, .long (iL ai)), (3, .int (iI i))] [] G2) (I := fun (i : Int) (ai : Int) => 0 ≤ i ∧ i ≤ 9 ∧ ai = hP (cntv A) 3391 i) (μ := fun (i : Int) (ai : Int) => (9 - i).toNat) ?_ 0 3391 (⟨by omega, by omega, rfl⟩)
  intro i ai hI' ih26
  (try dsimp only at hI'); (try dsimp only at ih26); (try dsimp only)
  obtain ⟨hi0, hi1, hi⟩ := hI'
  refine q_iload_n C 2 dX3_digest_26 rfl ?_
  refine q_bipush C 9 dX3_digest_27 (by decide) ?_
  refine q_icmp_ge C 49 dX3_digest_29 ⟨by omega, by omega⟩ ⟨by decide, by decide⟩ (by decide) (fun h29 => ?_) (fun h29 => ?_)
  · refine q_iconst C 0 dX3_digest_49 ?_
    refine q_istore_n (lv' := [(3, .int (iI 0)), (0, .ref (adr w 0)), (1, .long (iL ai))]) C dX3_digest_50 (by decide) rfl ?_
    refine q_lv (lv' := [(0, .ref (adr w 0)), (1, .long (iL ai)), (3, .int (iI 0))]) [1, 2, 0] rfl ?_
    refine wf2 (P := fun (j : Int) (aj : Int) => Wq pg l ev _ s0 mi _ be me co _ w _ _ _ 51 [(0, .ref (adr w 0)), (1, .long (iL aj)), (3, .int (iI j))] [] G2) (I := fun (j : Int) (aj : Int) => 0 ≤ j ∧ j ≤ 3 ∧ aj = hP (fun k => A.r (176 + k)) (dg1 A) j) (μ := fun (j : Int) (aj : Int) => (3 - j).toNat) ?_ 0 ai (⟨by omega, by omega, by rw [hi, show i = 9 by omega]; rfl⟩)
    intro j aj hI' ih51
    (try dsimp only at hI'); (try dsimp only at ih51); (try dsimp only)
    obtain ⟨hj0, hj1, hj⟩ := hI'
    refine q_iload_n C 2 dX3_digest_51 rfl ?_
    refine q_iconst C 3 dX3_digest_52 ?_
    refine q_icmp_ge C 76 dX3_digest_53 ⟨by omega, by omega⟩ ⟨by decide, by decide⟩ (by decide) (fun h53 => ?_) (fun h53 => ?_)
    · refine q_iconst C 0 dX3_digest_76 ?_
      refine q_istore_n (lv' := [(3, .int (iI 0)), (0, .ref (adr w 0)), (1, .long (iL aj))]) C dX3_digest_77 (by decide) rfl ?_
      refine q_lv (lv' := [(0, .ref (adr w 0)), (1, .long (iL aj)), (3, .int (iI 0))]) [1, 2, 0] rfl ?_
      refine wf2 (P := fun (x : Int) (ax : Int) => Wq pg l ev _ s0 mi _ be me co _ w _ _ _ 78 [(0, .ref (adr w 0)), (1, .long (iL ax)), (3, .int (iI x))] [] G2) (I := fun (x : Int) (ax : Int) => 0 ≤ x ∧ x ≤ 40 ∧ ax = it (fun h x => hP (fun k => wpr A.r x (3 + k)) h 4) (dg2 A) x.toNat) (μ := fun (x : Int) (ax : Int) => (40 - x).toNat) ?_ 0 aj (⟨by omega, by omega, by rw [hj, show j = 3 by omega]; rfl⟩)
      intro x ax hI' ih78
      (try dsimp only at hI'); (try dsimp only at ih78); (try dsimp only)
      obtain ⟨hx0, hx1, hx⟩ := hI'
      refine q_iload_n C 2 dX3_digest_78 rfl ?_
      refine q_bipush C 40 dX3_digest_79 (by decide) ?_
      refine q_icmp_ge C 122 dX3_digest_81 ⟨by omega, by omega⟩ ⟨by decide, by decide⟩ (by decide) (fun h81 => ?_) (fun h81 => ?_)
      · refine q_iconst C 0 dX3_digest_122 ?_
        refine q_istore_n (lv' := [(3, .int (iI 0)), (0, .ref (adr w 0)), (1, .long (iL ax))]) C dX3_digest_123 (by decide) rfl ?_
        refine q_lv (lv' := [(0, .ref (adr w 0)), (1, .long (iL ax)), (3, .int (iI 0))]) [1, 2, 0] rfl ?_
        refine wf2 (P := fun (d : Int) (ad : Int) => Wq pg l ev _ s0 mi _ be me co _ w _ _ _ 124 [(0, .ref (adr w 0)), (1, .long (iL ad)), (3, .int (iI d))] [] G2) (I := fun (d : Int) (ad : Int) => 0 ≤ d ∧ d ≤ 4 ∧ ad = it (fun h d => hDn A.r (ngs A.r (3 : Int).toNat) h d) (dg3 A) d.toNat) (μ := fun (d : Int) (ad : Int) => (4 - d).toNat) ?_ 0 ax (⟨by omega, by omega, by rw [hx, show x = 40 by omega]; rfl⟩)
        intro d ad hI' ih124
        (try dsimp only at hI'); (try dsimp only at ih124); (try dsimp only)
        obtain ⟨hd0, hd1, hd⟩ := hI'
        refine q_iload_n C 2 dX3_digest_124 rfl ?_
        refine q_iconst C 4 dX3_digest_125 ?_
        refine q_icmp_ge C 142 dX3_digest_126 ⟨by omega, by omega⟩ ⟨by decide, by decide⟩ (by decide) (fun h126 => ?_) (fun h126 => ?_)
        · refine q_lload_n C 1 dX3_digest_142 rfl ?_
          refine q_aload_n C 0 dX3_digest_143 rfl ?_
          refine q_get (T := TX3) (i := 0) C kd0 (by decide) rfl uws3 (by decide) wd_204 rfl dX3_digest_144 ?_
          refine q_cI (q_runV (As := []) (rest := [.long (iL ad)]) C (k_X0_nextPrey l hb1 hB2 ) hb1.k0 (by decide) rfl wd_277 wd_275 wd_276 wd_78 wd_274 nd_X0_nextPrey rfl (by decide) ⟨Nat.zero_le _, Nat.zero_le _⟩ rfl (Nat.le_of_ble_eq_true rfl) dX3_digest_147) ?_
          rintro z F' ⟨rfl, rfl⟩
          refine q_i2l C dX3_digest_150 ?_
          refine q_cL (q_runS (As := [.long (iL ad), .long (iL (wI (py A.r)))]) (rest := []) C (k_X3_mix l (x := ad) (y := wI (py A.r))) wd_400 wd_399 wd_77 wd_398 nd_X3_mix rfl (by decide) ⟨Nat.zero_le _, Nat.zero_le _⟩ rfl (Nat.le_of_ble_eq_true rfl) dX3_digest_151) ?_
          rintro z F' ⟨rfl, rfl⟩
          refine q_lstore_n (lv' := [(1, .long (iL (31 * ad + (wI (py A.r))))), (0, .ref (adr w 0)), (3, .int (iI d))]) C dX3_digest_154 (by decide) rfl ?_
          refine q_lload_n C 0 dX3_digest_155 rfl ?_
          refine q_aload_n C 1 dX3_digest_156 rfl ?_
          refine q_cD (q_runV (As := []) (rest := [.long (iL (31 * ad + (wI (py A.r))))]) C (k_X3_share l hA2) kd0 (by decide) rfl wd_332 wd_331 wd_7 wd_77 wd_329 nd_X3_share rfl (by decide) ⟨Nat.zero_le _, Nat.zero_le _⟩ rfl (Nat.le_of_ble_eq_true rfl) dX3_digest_157) ?_
          rintro z F' ⟨rfl, rfl⟩
          refine q_cL (q_runS (As := [.double (shr (40 - bg A.r))]) (rest := [.long (iL (31 * ad + (wI (py A.r))))]) C (k_bits l (x := 40 - bg A.r) ⟨by omega, by omega⟩) wd_458 wd_457 wd_77 wd_456 nd_X3_bitsOf rfl (by decide) ⟨Nat.zero_le _, Nat.zero_le _⟩ rfl (Nat.le_of_ble_eq_true rfl) dX3_digest_160) ?_
          rintro z F' ⟨rfl, rfl⟩
          refine q_cL (q_runS (As := [.long (iL (31 * ad + (wI (py A.r)))), .long (iL (shB (40 - bg A.r)))]) (rest := []) C (k_X3_mix l (x := 31 * ad + (wI (py A.r))) (y := shB (40 - bg A.r))) wd_400 wd_399 wd_77 wd_398 nd_X3_mix rfl (by decide) ⟨Nat.zero_le _, Nat.zero_le _⟩ rfl (Nat.le_of_ble_eq_true rfl) dX3_digest_163) ?_
          rintro z F' ⟨rfl, rfl⟩
          refine q_lstore_n (lv' := [(1, .long (iL (31 * (31 * ad + (wI (py A.r))) + (shB (40 - bg A.r))))), (0, .ref (adr w 0)), (3, .int (iI d))]) C dX3_digest_166 (by decide) rfl ?_
          refine q_iconst C 0 dX3_digest_167 ?_
          refine q_istore_n (lv' := [(3, .int (iI 0)), (1, .long (iL (31 * (31 * ad + (wI (py A.r))) + (shB (40 - bg A.r))))), (0, .ref (adr w 0))]) C dX3_digest_168 (by decide) rfl ?_
          refine q_lv (lv' := [(0, .ref (adr w 0)), (1, .long (iL (31 * (31 * ad + (wI (py A.r))) + (shB (40 - bg A.r))))), (3, .int (iI 0))]) [2, 1, 0] rfl ?_
          refine wf2 (P := fun (q : Int) (aq : Int) => Wq pg l ev _ s0 mi _ be me co _ w _ _ _ 169 [(0, .ref (adr w 0)), (1, .long (iL aq)), (3, .int (iI q))] [] G2) (I := fun (q : Int) (aq : Int) => 0 ≤ q ∧ q ≤ 2 ∧ aq = hP A.kp (dg5 A) q) (μ := fun (q : Int) (aq : Int) => (2 - q).toNat) ?_ 0 (31 * (31 * ad + (wI (py A.r))) + (shB (40 - bg A.r))) (⟨by omega, by omega, by rw [hd, show d = 4 by omega]; rfl⟩)
          intro q aq hI' ih169
          (try dsimp only at hI'); (try dsimp only at ih169); (try dsimp only)
          obtain ⟨hq0, hq1, hq⟩ := hI'
          refine q_iload_n C 2 dX3_digest_169 rfl ?_
          refine q_aload_n C 0 dX3_digest_170 rfl ?_
          refine q_get (T := TX3) (i := 4) C kd0 (by decide) rfl uws3 (by decide) wd_208 rfl dX3_digest_171 ?_
          refine q_alen (N := 2) C (by rw [kd84]; decide) ln84 dX3_digest_174 ?_
          refine q_icmp_ge C 203 dX3_digest_175 ⟨by omega, by omega⟩ ⟨by decide, by decide⟩ (by decide) (fun h175 => ?_) (fun h175 => ?_)
          · refine q_lload_n C 1 dX3_digest_203 rfl ?_
            refine q_aload_n C 0 dX3_digest_204 rfl ?_
            refine q_get (T := TX3) (i := 6) C kd0 (by decide) rfl uws3 (by decide) wd_210 rfl dX3_digest_205 ?_
            rw [show G2 0 6 = A.len from (hJ2).1.l]
            refine q_i2l C dX3_digest_208 ?_
            refine q_cL (q_runS (As := [.long (iL aq), .long (iL (wI A.len))]) (rest := []) C (k_X3_mix l (x := aq) (y := wI A.len)) wd_400 wd_399 wd_77 wd_398 nd_X3_mix rfl (by decide) ⟨Nat.zero_le _, Nat.zero_le _⟩ rfl (Nat.le_of_ble_eq_true rfl) dX3_digest_209) ?_
            rintro z F' ⟨rfl, rfl⟩
            refine q_lstore_n (lv' := [(1, .long (iL (31 * aq + (wI A.len)))), (0, .ref (adr w 0)), (3, .int (iI q))]) C dX3_digest_212 (by decide) rfl ?_
            refine q_iconst C 0 dX3_digest_213 ?_
            refine q_istore_n (lv' := [(3, .int (iI 0)), (1, .long (iL (31 * aq + (wI A.len)))), (0, .ref (adr w 0))]) C dX3_digest_214 (by decide) rfl ?_
            refine q_lv (lv' := [(0, .ref (adr w 0)), (1, .long (iL (31 * aq + (wI A.len)))), (3, .int (iI 0))]) [2, 1, 0] rfl ?_
            refine wf2 (P := fun (v : Int) (av : Int) => Wq pg l ev _ s0 mi _ be me co _ w _ _ _ 215 [(0, .ref (adr w 0)), (1, .long (iL av)), (3, .int (iI v))] [] G2) (I := fun (v : Int) (av : Int) => 0 ≤ v ∧ v ≤ A.len ∧ av = hP A.B (dg6 A) v) (μ := fun (v : Int) (av : Int) => (A.len - v).toNat) ?_ 0 (31 * aq + (wI A.len)) (⟨by omega, by omega, by rw [hq, show q = 2 by omega]; rfl⟩)
            intro v av hI' ih215
            (try dsimp only at hI'); (try dsimp only at ih215); (try dsimp only)
            obtain ⟨hv0, hv1, hv⟩ := hI'
            refine q_iload_n C 2 dX3_digest_215 rfl ?_
            refine q_aload_n C 0 dX3_digest_216 rfl ?_
            refine q_get (T := TX3) (i := 6) C kd0 (by decide) rfl uws3 (by decide) wd_210 rfl dX3_digest_217 ?_
            rw [show G2 0 6 = A.len from (hJ2).1.l]
            refine q_icmp_ge C 250 dX3_digest_220 ⟨by omega, by omega⟩ ⟨by omega, by omega⟩ (by decide) (fun h220 => ?_) (fun h220 => ?_)
            · refine q_lload_n C 1 dX3_digest_250 rfl ?_
              refine q_lret C dX3_digest_251 ?_
              exact ⟨by rw [hv, show v = A.len by omega]; rfl, hJ2⟩
            · refine q_iload_n C 2 dX3_digest_223 rfl ?_
              refine q_aload_n C 0 dX3_digest_224 rfl ?_
              refine q_get (T := TX3) (i := 5) C kd0 (by decide) rfl uws3 (by decide) wd_209 rfl dX3_digest_225 ?_
              refine q_alen (N := 60) C (by rw [kd85]; decide) ln85 dX3_digest_228 ?_
              refine q_icmp_ge C 250 dX3_digest_229 ⟨by omega, by omega⟩ ⟨by decide, by decide⟩ (by decide) (fun h229 => ?_) (fun h229 => ?_)
              · refine q_lload_n C 1 dX3_digest_250 rfl ?_
                refine q_lret C dX3_digest_251 ?_
                exact ⟨by rw [hv, show v = A.len by omega]; rfl, hJ2⟩
              · refine q_lload_n C 1 dX3_digest_232 rfl ?_
                refine q_aload_n C 0 dX3_digest_233 rfl ?_
                refine q_get (T := TX3) (i := 5) C kd0 (by decide) rfl uws3 (by decide) wd_209 rfl dX3_digest_234 ?_
                refine q_iload_n C 2 dX3_digest_237 rfl ?_
                refine q_iald C kd85 ⟨by omega, by rw [ln85]; omega⟩ dX3_digest_238 ?_
                rw [hA2.c (i := v) (by omega) (by omega)]
                refine q_i2l C dX3_digest_239 ?_
                refine q_cL (q_runS (As := [.long (iL av), .long (iL (wI (A.B v)))]) (rest := []) C (k_X3_mix l (x := av) (y := wI (A.B v))) wd_400 wd_399 wd_77 wd_398 nd_X3_mix rfl (by decide) ⟨Nat.zero_le _, Nat.zero_le _⟩ rfl (Nat.le_of_ble_eq_true rfl) dX3_digest_240) ?_
                rintro z F' ⟨rfl, rfl⟩
                refine q_lstore_n (lv' := [(1, .long (iL (31 * av + (wI (A.B v))))), (0, .ref (adr w 0)), (3, .int (iI v))]) C dX3_digest_243 (by decide) rfl ?_
                refine q_iinc (lv' := [(3, .int (iI (v + 1))), (1, .long (iL (31 * av + (wI (A.B v))))), (0, .ref (adr w 0))]) C 2 dX3_digest_244 rfl (by decide) rfl ?_
                refine q_goto C 215 dX3_digest_247 (by decide) ?_
                refine q_lv (lv' := [(0, .ref (adr w 0)), (1, .long (iL (31 * av + (wI (A.B v))))), (3, .int (iI (v + 1)))]) [2, 1, 0] rfl ?_
                exact ih215 (v + 1) (31 * av + (wI (A.B v))) (⟨by omega, by omega, by rw [hP_s hv0, hv]⟩) (by omega)
          · refine q_lload_n C 1 dX3_digest_178 rfl ?_
            refine q_aload_n C 0 dX3_digest_179 rfl ?_
            refine q_get (T := TX3) (i := 4) C kd0 (by decide) rfl uws3 (by decide) wd_208 rfl dX3_digest_180 ?_
            refine q_iload_n C 2 dX3_digest_183 rfl ?_
            refine q_zald C kd84 ⟨by omega, by rw [ln84]; omega⟩ dX3_digest_184 ?_
            obtain ⟨hk84, hk01, hk9⟩ := hA2.k (k := q) (by omega) (by omega)
            rw [hk84]
            refine q_if_eq C 192 dX3_digest_185 ⟨by omega, by omega⟩  (by decide) (fun h185 => ?_) (fun h185 => ?_)
            · refine q_lconst C 0 rfl dX3_digest_192 ?_
              refine q_cL (q_runS (As := [.long (iL aq), .long (iL 0)]) (rest := []) C (k_X3_mix l (x := aq) (y := 0)) wd_400 wd_399 wd_77 wd_398 nd_X3_mix rfl (by decide) ⟨Nat.zero_le _, Nat.zero_le _⟩ rfl (Nat.le_of_ble_eq_true rfl) dX3_digest_193) ?_
              rintro z F' ⟨rfl, rfl⟩
              refine q_lstore_n (lv' := [(1, .long (iL (31 * aq + 0))), (0, .ref (adr w 0)), (3, .int (iI q))]) C dX3_digest_196 (by decide) rfl ?_
              refine q_iinc (lv' := [(3, .int (iI (q + 1))), (1, .long (iL (31 * aq + 0))), (0, .ref (adr w 0))]) C 2 dX3_digest_197 rfl (by decide) rfl ?_
              refine q_goto C 169 dX3_digest_200 (by decide) ?_
              refine q_lv (lv' := [(0, .ref (adr w 0)), (1, .long (iL (31 * aq + 0))), (3, .int (iI (q + 1)))]) [2, 1, 0] rfl ?_
              exact ih169 (q + 1) (31 * aq + 0) (⟨by omega, by omega, by rw [hP_s hq0, hq, wI_eq (x := A.kp q) ⟨by omega, by omega⟩]; first | (rw [show A.kp q = 1 by omega]) | (rw [show A.kp q = 0 by omega])⟩) (by omega)
            · refine q_lconst C 1 rfl dX3_digest_188 ?_
              refine q_goto C 193 dX3_digest_189 (by decide) ?_
              refine q_cL (q_runS (As := [.long (iL aq), .long (iL 1)]) (rest := []) C (k_X3_mix l (x := aq) (y := 1)) wd_400 wd_399 wd_77 wd_398 nd_X3_mix rfl (by decide) ⟨Nat.zero_le _, Nat.zero_le _⟩ rfl (Nat.le_of_ble_eq_true rfl) dX3_digest_193) ?_
              rintro z F' ⟨rfl, rfl⟩
              refine q_lstore_n (lv' := [(1, .long (iL (31 * aq + 1))), (0, .ref (adr w 0)), (3, .int (iI q))]) C dX3_digest_196 (by decide) rfl ?_
              refine q_iinc (lv' := [(3, .int (iI (q + 1))), (1, .long (iL (31 * aq + 1))), (0, .ref (adr w 0))]) C 2 dX3_digest_197 rfl (by decide) rfl ?_
              refine q_goto C 169 dX3_digest_200 (by decide) ?_
              refine q_lv (lv' := [(0, .ref (adr w 0)), (1, .long (iL (31 * aq + 1))), (3, .int (iI (q + 1)))]) [2, 1, 0] rfl ?_
              exact ih169 (q + 1) (31 * aq + 1) (⟨by omega, by omega, by rw [hP_s hq0, hq, wI_eq (x := A.kp q) ⟨by omega, by omega⟩]; first | (rw [show A.kp q = 1 by omega]) | (rw [show A.kp q = 0 by omega])⟩) (by omega)
        · refine q_aload_n C 0 dX3_digest_129 rfl ?_
          refine q_lload_n C 1 dX3_digest_130 rfl ?_
          refine q_iload_n C 2 dX3_digest_131 rfl ?_
          refine q_cL (q_runV (As := [.long (iL ad), .int (iI d)]) (rest := []) C (k_X3_mixDoor l hB2 hD2 (h := ad) (d := d) ⟨by omega, by omega⟩) kd0 (by decide) rfl wd_413 wd_412 wd_12 wd_77 wd_410 nd_X3_mixDoor rfl (by decide) ⟨Nat.zero_le _, Nat.zero_le _⟩ rfl (Nat.le_of_ble_eq_true rfl) dX3_digest_132) ?_
          rintro z F' ⟨rfl, rfl⟩
          refine q_lstore_n (lv' := [(1, .long (iL (hDn A.r (ngs A.r (3 : Int).toNat) ad d))), (0, .ref (adr w 0)), (3, .int (iI d))]) C dX3_digest_135 (by decide) rfl ?_
          refine q_iinc (lv' := [(3, .int (iI (d + 1))), (1, .long (iL (hDn A.r (ngs A.r (3 : Int).toNat) ad d))), (0, .ref (adr w 0))]) C 2 dX3_digest_136 rfl (by decide) rfl ?_
          refine q_goto C 124 dX3_digest_139 (by decide) ?_
          refine q_lv (lv' := [(0, .ref (adr w 0)), (1, .long (iL (hDn A.r (ngs A.r (3 : Int).toNat) ad d))), (3, .int (iI (d + 1)))]) [2, 1, 0] rfl ?_
          exact ih124 (d + 1) (hDn A.r (ngs A.r (3 : Int).toNat) ad d) (⟨by omega, by omega, by rw [it_s hd0, ← hd]⟩) (by omega)
      · refine q_iconst C 3 dX3_digest_84 ?_
        refine q_istore (lv' := [(4, .int (iI 3)), (0, .ref (adr w 0)), (1, .long (iL ax)), (3, .int (iI x))]) C dX3_digest_85 (by decide) rfl ?_
        refine q_lv (lv' := [(0, .ref (adr w 0)), (1, .long (iL ax)), (3, .int (iI x)), (4, .int (iI 3))]) [1, 2, 3, 0] rfl ?_
        refine wf2 (P := fun (u : Int) (au : Int) => Wq pg l ev _ s0 mi _ be me co _ w _ _ _ 87 [(0, .ref (adr w 0)), (1, .long (iL au)), (3, .int (iI x)), (4, .int (iI u))] [] G2) (I := fun (u : Int) (au : Int) => 3 ≤ u ∧ u ≤ 7 ∧ au = hP (fun k => wpr A.r x (3 + k)) ax (u - 3)) (μ := fun (u : Int) (au : Int) => (7 - u).toNat) ?_ 3 ax (⟨by omega, by omega, rfl⟩)
        intro u au hI' ih87
        (try dsimp only at hI'); (try dsimp only at ih87); (try dsimp only)
        obtain ⟨hu0, hu1, hu⟩ := hI'
        refine q_iload C 3 dX3_digest_87 rfl ?_
        refine q_bipush C 7 dX3_digest_89 (by decide) ?_
        refine q_icmp_ge C 116 dX3_digest_91 ⟨by omega, by omega⟩ ⟨by decide, by decide⟩ (by decide) (fun h91 => ?_) (fun h91 => ?_)
        · refine q_iinc (lv' := [(3, .int (iI (x + 1))), (0, .ref (adr w 0)), (1, .long (iL au)), (4, .int (iI u))]) C 2 dX3_digest_116 rfl (by decide) rfl ?_
          refine q_goto C 78 dX3_digest_119 (by decide) ?_
          refine q_lv (lv' := [(0, .ref (adr w 0)), (1, .long (iL au)), (3, .int (iI (x + 1)))]) [1, 2, 0] rfl ?_
          exact ih78 (x + 1) au (⟨by omega, by omega, by rw [it_s hx0, ← hx, hu, show u = 7 by omega]; rfl⟩) (by omega)
        · refine q_lload_n C 1 dX3_digest_94 rfl ?_
          refine q_aload_n C 0 dX3_digest_95 rfl ?_
          refine q_get (T := TX3) (i := 0) C kd0 (by decide) rfl uws3 (by decide) wd_204 rfl dX3_digest_96 ?_
          refine q_iload_n C 2 dX3_digest_99 rfl ?_
          refine q_iload C 3 dX3_digest_100 rfl ?_
          refine q_cI (q_runV (As := [.int (iI x), .int (iI u)]) (rest := [.long (iL au)]) C (k_X0_wordProperty l hb1 hB2 ⟨by omega, by omega⟩ ⟨by omega, by omega⟩) hb1.k0 (by decide) rfl wd_409 wd_407 wd_408 wd_78 wd_406 nd_X0_wordProperty rfl (by decide) ⟨Nat.zero_le _, Nat.zero_le _⟩ rfl (Nat.le_of_ble_eq_true rfl) dX3_digest_102) ?_
          rintro z F' ⟨rfl, rfl⟩
          refine q_i2l C dX3_digest_105 ?_
          refine q_cL (q_runS (As := [.long (iL au), .long (iL (wI (wpr A.r x u)))]) (rest := []) C (k_X3_mix l (x := au) (y := wI (wpr A.r x u))) wd_400 wd_399 wd_77 wd_398 nd_X3_mix rfl (by decide) ⟨Nat.zero_le _, Nat.zero_le _⟩ rfl (Nat.le_of_ble_eq_true rfl) dX3_digest_106) ?_
          rintro z F' ⟨rfl, rfl⟩
          refine q_lstore_n (lv' := [(1, .long (iL (31 * au + (wI (wpr A.r x u))))), (0, .ref (adr w 0)), (3, .int (iI x)), (4, .int (iI u))]) C dX3_digest_109 (by decide) rfl ?_
          refine q_iinc (lv' := [(4, .int (iI (u + 1))), (1, .long (iL (31 * au + (wI (wpr A.r x u))))), (0, .ref (adr w 0)), (3, .int (iI x))]) C 3 dX3_digest_110 rfl (by decide) rfl ?_
          refine q_goto C 87 dX3_digest_113 (by decide) ?_
          refine q_lv (lv' := [(0, .ref (adr w 0)), (1, .long (iL (31 * au + (wI (wpr A.r x u))))), (3, .int (iI x)), (4, .int (iI (u + 1)))]) [2, 1, 3, 0] rfl ?_
          exact ih87 (u + 1) (31 * au + (wI (wpr A.r x u))) (⟨by omega, by omega, by rw [show u + 1 - 3 = (u - 3) + 1 by omega, hP_s (by omega), hu, show 3 + (u - 3) = u by omega]⟩) (by omega)
    · refine q_lload_n C 1 dX3_digest_56 rfl ?_
      refine q_aload_n C 0 dX3_digest_57 rfl ?_
      refine q_get (T := TX3) (i := 0) C kd0 (by decide) rfl uws3 (by decide) wd_204 rfl dX3_digest_58 ?_
      refine q_iload_n C 2 dX3_digest_61 rfl ?_
      refine q_cI (q_runV (As := [.int (iI j)]) (rest := [.long (iL aj)]) C (k_X0_settingValue l hb1 hB2 ⟨by omega, by omega⟩) hb1.k0 (by decide) rfl wd_405 wd_403 wd_404 wd_78 wd_402 nd_X0_settingValue rfl (by decide) ⟨Nat.zero_le _, Nat.zero_le _⟩ rfl (Nat.le_of_ble_eq_true rfl) dX3_digest_62) ?_
      rintro z F' ⟨rfl, rfl⟩
      refine q_i2l C dX3_digest_65 ?_
      refine q_cL (q_runS (As := [.long (iL aj), .long (iL (wI (A.r (176 + j))))]) (rest := []) C (k_X3_mix l (x := aj) (y := wI (A.r (176 + j)))) wd_400 wd_399 wd_77 wd_398 nd_X3_mix rfl (by decide) ⟨Nat.zero_le _, Nat.zero_le _⟩ rfl (Nat.le_of_ble_eq_true rfl) dX3_digest_66) ?_
      rintro z F' ⟨rfl, rfl⟩
      refine q_lstore_n (lv' := [(1, .long (iL (31 * aj + (wI (A.r (176 + j)))))), (0, .ref (adr w 0)), (3, .int (iI j))]) C dX3_digest_69 (by decide) rfl ?_
      refine q_iinc (lv' := [(3, .int (iI (j + 1))), (1, .long (iL (31 * aj + (wI (A.r (176 + j)))))), (0, .ref (adr w 0))]) C 2 dX3_digest_70 rfl (by decide) rfl ?_
      refine q_goto C 51 dX3_digest_73 (by decide) ?_
      refine q_lv (lv' := [(0, .ref (adr w 0)), (1, .long (iL (31 * aj + (wI (A.r (176 + j)))))), (3, .int (iI (j + 1)))]) [2, 1, 0] rfl ?_
      exact ih51 (j + 1) (31 * aj + (wI (A.r (176 + j)))) (⟨by omega, by omega, by rw [hP_s hj0, hj]⟩) (by omega)
  · refine q_lload_n C 1 dX3_digest_32 rfl ?_
    refine q_aload_n C 0 dX3_digest_33 rfl ?_
    refine q_iload_n C 2 dX3_digest_34 rfl ?_
    refine q_cI (q_runV (As := [.int (iI i)]) (rest := [.long (iL ai)]) C (k_X3_numberOf l hA2 (k := i) ⟨by omega, by omega⟩) kd0 (by decide) rfl wd_385 wd_384 wd_11 wd_77 wd_382 nd_X3_numberOf rfl (by decide) ⟨Nat.zero_le _, Nat.zero_le _⟩ rfl (Nat.le_of_ble_eq_true rfl) dX3_digest_35) ?_
    rintro z F' ⟨rfl, rfl⟩
    refine q_i2l C dX3_digest_38 ?_
    refine q_cL (q_runS (As := [.long (iL ai), .long (iL (wI (cntv A i)))]) (rest := []) C (k_X3_mix l (x := ai) (y := wI (cntv A i))) wd_400 wd_399 wd_77 wd_398 nd_X3_mix rfl (by decide) ⟨Nat.zero_le _, Nat.zero_le _⟩ rfl (Nat.le_of_ble_eq_true rfl) dX3_digest_39) ?_
    rintro z F' ⟨rfl, rfl⟩
    refine q_lstore_n (lv' := [(1, .long (iL (31 * ai + (wI (cntv A i))))), (0, .ref (adr w 0)), (3, .int (iI i))]) C dX3_digest_42 (by decide) rfl ?_
    refine q_iinc (lv' := [(3, .int (iI (i + 1))), (1, .long (iL (31 * ai + (wI (cntv A i))))), (0, .ref (adr w 0))]) C 2 dX3_digest_43 rfl (by decide) rfl ?_
    refine q_goto C 26 dX3_digest_46 (by decide) ?_
    refine q_lv (lv' := [(0, .ref (adr w 0)), (1, .long (iL (31 * ai + (wI (cntv A i))))), (3, .int (iI (i + 1)))]) [2, 1, 0] rfl ?_
    exact ih26 (i + 1) (31 * ai + (wI (cntv A i))) (⟨by omega, by omega, by rw [hP_s hi0, hi]⟩) (by omega)
