/-! the law's readers -/
theorem la_nn {r : Rw} (h : Iv r) {l : Int} (hl : 0 ≤ l ∧ l < 16) (h0 : 0 < r l) : 0 ≤ la r l ∧ la r l < 40 := by
  unfold la
  rw [if_neg (by omega)]
  exact h.wd hl.1 hl.2 (by omega) (by omega)
theorem rh_range (r : Rw) (l : Int) : 0 ≤ rh r l ∧ rh r l ≤ 4 := rhE_range r l _
theorem dT_i {r : Rw} {d i j : Int} (h : 4 * d + j = i) : dT r d j = lw r i + 2 * rh r i := by subst h; rfl
theorem an_st {g : Int → Bool} {k : Int} (h0 : 0 ≤ k) (h : an g (k - 1) = false) (hn : k = 0 ∨ g (k - 1) = false) : an g (k + 1 - 1) = false := by
  rcases (show k = 0 ∨ 0 < k by omega) with q | q
  · subst q; rfl
  · rw [show k + 1 - 1 = (k - 1) + 1 by omega, an_s (by omega), h, hn.resolve_left (by omega)]; rfl
theorem clb_no {x y : Int} (h : ¬ (x % 4 = y % 4 ∧ ¬ x % 4 = 2)) : clb x y = false := decide_eq_false h
theorem rea_1 {r : Rw} {x l p : Int} (h : r l = 6) : rea r x l p = 1 := by unfold rea; rw [if_pos h]
theorem rea_2 {r : Rw} {x l p : Int} (h : r l ≠ 6) (h2 : bo (wa r l) (r l) + bt x > 12) : rea r x l p = 2 := by unfold rea; rw [if_neg h, if_pos h2]
theorem rea_3 {r : Rw} {x l p k : Int} (h : r l ≠ 6) (h2 : ¬ bo (wa r l) (r l) + bt x > 12) (h0 : 0 < k) (h1 : k ≤ r l) (e : kn (ww r x l p (k - 1)) = kn (ww r x l p k)) (e2 : ¬ kn (ww r x l p k) = 2) : rea r x l p = 3 := by
  unfold rea
  rw [if_neg h, if_neg h2, if_pos]
  refine an_iff.mpr ⟨k - 1, by omega, by omega, decide_eq_true ?_⟩
  rw [show k - 1 + 1 = k by omega]
  exact ⟨e, by rw [e]; exact e2⟩
theorem rea_n {r : Rw} {x l p z : Int} (h : r l ≠ 6) (h2 : ¬ bo (wa r l) (r l) + bt x > 12) (h3 : an (fun k => clb (ww r x l p k) (ww r x l p (k + 1))) (r l) = false) (h4 : (z = 4 ∧ (r 176 = 1 ∧ kn x = 3 ∧ (p = 0 ∨ p = r l))) ∨ (z = 0 ∧ ¬ (r 176 = 1 ∧ kn x = 3 ∧ (p = 0 ∨ p = r l)))) : rea r x l p = z := by
  unfold rea
  rw [if_neg h, if_neg h2, if_neg (by rw [h3]; decide)]
  rcases h4 with ⟨a, b⟩ | ⟨a, b⟩
  · rw [if_pos b, a]
  · rw [if_neg b, a]
theorem lc_range (x : Int) : -1 ≤ x → x < 16 → -1 ≤ lc x ∧ lc x < 40 := by intro a b; unfold lc; split <;> omega
def m31 (x : Int) : Int := (iI x &&& iI 2147483647).toInt
theorem m31_e (x : Int) : iI x &&& iI 2147483647 = iI (m31 x) := (Int32.ofInt_toInt _).symm
theorem m31_range (x : Int) : 0 ≤ m31 x ∧ m31 x ≤ 2147483647 := by
  have h1 : (iI x &&& iI 2147483647).toBitVec.toNat = (iI x).toBitVec.toNat % 2 ^ 31 := by
    rw [Int32.toBitVec_and, show (iI 2147483647).toBitVec = BitVec.ofNat 32 (2 ^ 31 - 1) from rfl, BitVec.toNat_and, BitVec.toNat_ofNat, show (2 ^ 31 - 1) % 2 ^ 32 = 2 ^ 31 - 1 from rfl, Nat.and_two_pow_sub_one_eq_mod]
  have h2 := BitVec.toInt_eq_toNat_cond (iI x &&& iI 2147483647).toBitVec
  have h3 : m31 x = (iI x &&& iI 2147483647).toBitVec.toInt := rfl
  rw [h3, h2, h1]
  have h4 : (iI x).toBitVec.toNat % 2 ^ 31 < 2 ^ 31 := Nat.mod_lt _ (by decide)
  rw [if_pos (by omega)]
  omega
def lo (x n : Int) : Int := m31 x % n
theorem lo_range (x n : Int) (h : 0 < n) : 0 ≤ lo x n ∧ lo x n < n := ⟨Int.emod_nonneg _ (by omega), Int.emod_lt_of_pos _ h⟩

set_option maxRecDepth 100000 in
set_option maxHeartbeats 4000000 in
theorem k_L_isOn (l : Launch) {w : WP} {F : FF} {a : Nat} {x y : Int} (hLa : LwP w a 40) (hx : 0 ≤ x ∧ x < 40) (hr : -1 ≤ F a x ∧ F a x < 1000) (hy : inR y) : Con l yL_isOn cL_isOn 3 (some .boolean) 0 w [.ref (adr w a), .int (iI x), .int (iI y)] F (QI w (fun z F' => (z = 1 ∧ (0 ≤ F a x ∧ F a x / 8 = y) ∨ z = 0 ∧ ¬ (0 ≤ F a x ∧ F a x / 8 = y)) ∧ F = F')) := by
  refine Con.mk (lv := [(0, .ref (adr w a)), (1, .int (iI x)), (2, .int (iI y))]) (by decide) (Nat.le_of_ble_eq_true rfl) rfl ?_
  intro pg ev s0 mi be me co C hz
  refine q_aload_n C 0 dL_isOn_0 rfl ?_
  refine q_iload_n C 1 dL_isOn_1 rfl ?_
  refine q_iald9 C hLa ⟨by omega, by omega⟩ dL_isOn_2 ?_
  refine q_if_lt C 20 dL_isOn_3 ⟨by omega, by omega⟩  (by decide) (fun h3 => ?_) (fun h3 => ?_)
  · refine q_iconst C 0 dL_isOn_20 ?_
    refine q_zret C dL_isOn_21 (by decide) ?_
    exact ⟨by omega, rfl⟩
  · refine q_aload_n C 0 dL_isOn_6 rfl ?_
    refine q_iload_n C 1 dL_isOn_7 rfl ?_
    refine q_iald9 C hLa ⟨by omega, by omega⟩ dL_isOn_8 ?_
    refine q_bipush C 8 dL_isOn_9 (by decide) ?_
    refine q_idiv C dL_isOn_11 ⟨by omega, by omega⟩ ⟨by decide, by decide⟩ ?_
    refine q_iload_n C 2 dL_isOn_12 rfl ?_
    refine q_icmp_ne C 20 dL_isOn_13 ⟨by omega, by omega⟩ ⟨by omega, by omega⟩ (by decide) (fun h13 => ?_) (fun h13 => ?_)
    · refine q_iconst C 0 dL_isOn_20 ?_
      refine q_zret C dL_isOn_21 (by decide) ?_
      exact ⟨by omega, rfl⟩
    · refine q_iconst C 1 dL_isOn_16 ?_
      refine q_goto C 21 dL_isOn_17 (by decide) ?_
      refine q_zret C dL_isOn_21 (by decide) ?_
      exact ⟨by omega, rfl⟩

set_option maxRecDepth 100000 in
set_option maxHeartbeats 4000000 in
theorem k_L_many (l : Launch) {w : WP} {F : FF} {a : Nat} {r : Rw} (hLa : LwP w a 40) (hW : TW F a r) (hI : Iv r) {y : Int} (hy : 0 ≤ y ∧ y < 16) : Con l yL_many cL_many 4 (some .int) 1 w [.ref (adr w a), .int (iI y)] F (QI w (fun z F' => z = r y ∧ F = F')) := by
  refine Con.mk (lv := [(0, .ref (adr w a)), (1, .int (iI y))]) (by decide) (Nat.le_of_ble_eq_true rfl) rfl ?_
  intro pg ev s0 mi be me co C hz
  refine q_iconst C 0 dL_many_0 ?_
  refine q_istore_n (lv' := [(2, .int (iI 0)), (0, .ref (adr w a)), (1, .int (iI y))]) C dL_many_1 (by decide) rfl ?_
  refine q_iconst C 0 dL_many_2 ?_
  refine q_istore_n (lv' := [(3, .int (iI 0)), (2, .int (iI 0)), (0, .ref (adr w a)), (1, .int (iI y))]) C dL_many_3 (by decide) rfl ?_
  refine q_lv (lv' := [(0, .ref (adr w a)), (1, .int (iI y)), (2, .int (iI 0)), (3, .int (iI 0))]) [2, 3, 1, 0] rfl ?_
  refine wf2 (P := fun (i : Int) (m : Int) => Wq pg l ev _ s0 mi _ be me co _ w _ _ _ 4 [(0, .ref (adr w a)), (1, .int (iI y)), (2, .int (iI m)), (3, .int (iI i))] [] F) (I := fun (i : Int) (m : Int) => 0 ≤ i ∧ i ≤ 40 ∧ m = sm (oF r y (fun _ => 1)) i) (μ := fun (i : Int) (m : Int) => (40 - i).toNat) ?_ 0 0 (⟨by omega, by omega, rfl⟩)
  intro i m hI' ih4
  (try dsimp only at hI'); (try dsimp only at ih4); (try dsimp only)
  obtain ⟨hi0, hi1, hm⟩ := hI'
  refine q_iload_n C 3 dL_many_4 rfl ?_
  refine q_bipush C 40 dL_many_5 (by decide) ?_
  refine q_icmp_ge C 33 dL_many_7 ⟨by omega, by omega⟩ ⟨by decide, by decide⟩ (by decide) (fun h7 => ?_) (fun h7 => ?_)
  · refine q_iload_n C 2 dL_many_33 rfl ?_
    refine q_iret C dL_many_34 ?_
    exact ⟨by rw [hm, show i = 40 by omega]; exact on_1 hI hy, rfl⟩
  · have hf := hW i (by omega) (by omega)
    have hc := whv_c hI i
    refine q_iload_n C 2 dL_many_10 rfl ?_
    refine q_aload_n C 0 dL_many_11 rfl ?_
    refine q_iload_n C 3 dL_many_12 rfl ?_
    refine q_iload_n C 1 dL_many_13 rfl ?_
    refine q_cI (q_runS (As := [.ref (adr w a), .int (iI i), .int (iI y)]) (rest := [.int (iI m)]) C (k_L_isOn (F := F) l hLa (x := i) (y := y) ⟨by omega, by omega⟩ ⟨by omega, by omega⟩ ⟨by omega, by omega⟩) wd_294 wd_293 wd_12 wd_292 nd_L_isOn rfl (by decide) ⟨Nat.zero_le _, Nat.zero_le _⟩ rfl (Nat.le_of_ble_eq_true rfl) dL_many_14) ?_
    rintro z F' ⟨⟨rfl, hq14⟩ | ⟨rfl, hq14⟩, rfl⟩
    · refine q_if_eq C 24 dL_many_17 ⟨by decide, by decide⟩  (by decide) (fun h => absurd h (by decide)) (fun _ => ?_)
      refine q_iconst C 1 dL_many_20 ?_
      refine q_goto C 25 dL_many_21 (by decide) ?_
      refine q_iadd C dL_many_25 ?_
      refine q_istore_n (lv' := [(2, .int (iI (m + 1))), (0, .ref (adr w a)), (1, .int (iI y)), (3, .int (iI i))]) C dL_many_26 (by decide) rfl ?_
      refine q_iinc (lv' := [(3, .int (iI (i + 1))), (2, .int (iI (m + 1))), (0, .ref (adr w a)), (1, .int (iI y))]) C 3 dL_many_27 rfl (by decide) rfl ?_
      refine q_goto C 4 dL_many_30 (by decide) ?_
      refine q_lv (lv' := [(0, .ref (adr w a)), (1, .int (iI y)), (2, .int (iI (m + 1))), (3, .int (iI (i + 1)))]) [2, 3, 1, 0] rfl ?_
      exact ih4 (i + 1) (m + 1) (⟨by omega, by omega, by rw [sm_s hi0]; first | (rw [oF_1 (by omega)]; omega) | (rw [oF_0 (by omega)]; omega)⟩) (by omega)
    · refine q_if_eq C 24 dL_many_17 ⟨by decide, by decide⟩  (by decide) (fun _ => ?_) (fun h => absurd h (by decide))
      refine q_iconst C 0 dL_many_24 ?_
      refine q_iadd C dL_many_25 ?_
      refine q_istore_n (lv' := [(2, .int (iI (m + 0))), (0, .ref (adr w a)), (1, .int (iI y)), (3, .int (iI i))]) C dL_many_26 (by decide) rfl ?_
      refine q_iinc (lv' := [(3, .int (iI (i + 1))), (2, .int (iI (m + 0))), (0, .ref (adr w a)), (1, .int (iI y))]) C 3 dL_many_27 rfl (by decide) rfl ?_
      refine q_goto C 4 dL_many_30 (by decide) ?_
      refine q_lv (lv' := [(0, .ref (adr w a)), (1, .int (iI y)), (2, .int (iI (m + 0))), (3, .int (iI (i + 1)))]) [2, 3, 1, 0] rfl ?_
      exact ih4 (i + 1) (m + 0) (⟨by omega, by omega, by rw [sm_s hi0]; first | (rw [oF_1 (by omega)]; omega) | (rw [oF_0 (by omega)]; omega)⟩) (by omega)

set_option maxRecDepth 100000 in
set_option maxHeartbeats 4000000 in
theorem k_L_wordAt (l : Launch) {w : WP} {F : FF} {a : Nat} {r : Rw} (hLa : LwP w a 40) (hW : TW F a r) (hI : Iv r) {y p : Int} (hy : 0 ≤ y ∧ y < 16) (hp : -1 ≤ p ∧ p < 100) : Con l yL_wordAt cL_wordAt 5 (some .int) 1 w [.ref (adr w a), .int (iI y), .int (iI p)] F (QI w (fun z F' => z = W0 r y p ∧ F = F')) := by
  refine Con.mk (lv := [(0, .ref (adr w a)), (1, .int (iI y)), (2, .int (iI p))]) (by decide) (Nat.le_of_ble_eq_true rfl) rfl ?_
  intro pg ev s0 mi be me co C hz
  have hw0 := W0_range (l := y) (p := p) hI hy.1 hy.2
  refine q_iconst C (-1) dL_wordAt_0 ?_
  refine q_istore_n (lv' := [(3, .int (iI (-1))), (0, .ref (adr w a)), (1, .int (iI y)), (2, .int (iI p))]) C dL_wordAt_1 (by decide) rfl ?_
  refine q_iconst C 0 dL_wordAt_2 ?_
  refine q_istore (lv' := [(4, .int (iI 0)), (3, .int (iI (-1))), (0, .ref (adr w a)), (1, .int (iI y)), (2, .int (iI p))]) C dL_wordAt_3 (by decide) rfl ?_
  refine q_lv (lv' := [(0, .ref (adr w a)), (1, .int (iI y)), (2, .int (iI p)), (3, .int (iI (-1))), (4, .int (iI 0))]) [2, 3, 4, 1, 0] rfl ?_
  refine wf2 (P := fun (i : Int) (fd : Int) => Wq pg l ev _ s0 mi _ be me co _ w _ _ _ 5 [(0, .ref (adr w a)), (1, .int (iI y)), (2, .int (iI p)), (3, .int (iI fd)), (4, .int (iI i))] [] F) (I := fun (i : Int) (fd : Int) => 0 ≤ i ∧ i ≤ 40 ∧ (W0 r y p < i ∧ fd = W0 r y p ∨ i ≤ W0 r y p ∧ fd = -1)) (μ := fun (i : Int) (fd : Int) => (40 - i).toNat) ?_ 0 (-1) (⟨by omega, by omega, by omega⟩)
  intro i fd hI' ih5
  (try dsimp only at hI'); (try dsimp only at ih5); (try dsimp only)
  obtain ⟨hi0, hi1, hm⟩ := hI'
  refine q_iload C 4 dL_wordAt_5 rfl ?_
  refine q_bipush C 40 dL_wordAt_7 (by decide) ?_
  refine q_icmp_ge C 46 dL_wordAt_9 ⟨by omega, by omega⟩ ⟨by decide, by decide⟩ (by decide) (fun h9 => ?_) (fun h9 => ?_)
  · refine q_iload_n C 3 dL_wordAt_46 rfl ?_
    refine q_iret C dL_wordAt_47 ?_
    exact ⟨by omega, rfl⟩
  · have hf := hW i (by omega) (by omega)
    have hc := whv_c hI i
    have hwi := W0_i (p := p) hI hy hi0
    refine q_aload_n C 0 dL_wordAt_12 rfl ?_
    refine q_iload C 4 dL_wordAt_13 rfl ?_
    refine q_iload_n C 1 dL_wordAt_15 rfl ?_
    refine q_cI (q_runS (As := [.ref (adr w a), .int (iI i), .int (iI y)]) (rest := []) C (k_L_isOn (F := F) l hLa (x := i) (y := y) ⟨by omega, by omega⟩ ⟨by omega, by omega⟩ ⟨by omega, by omega⟩) wd_294 wd_293 wd_12 wd_292 nd_L_isOn rfl (by decide) ⟨Nat.zero_le _, Nat.zero_le _⟩ rfl (Nat.le_of_ble_eq_true rfl) dL_wordAt_16) ?_
    rintro z F' ⟨⟨rfl, hq16⟩ | ⟨rfl, hq16⟩, rfl⟩
    · refine q_if_eq C 38 dL_wordAt_19 ⟨by decide, by decide⟩  (by decide) (fun h => absurd h (by decide)) (fun _ => ?_)
      refine q_aload_n C 0 dL_wordAt_22 rfl ?_
      refine q_iload C 4 dL_wordAt_23 rfl ?_
      refine q_iald9 C hLa ⟨by omega, by omega⟩ dL_wordAt_25 ?_
      refine q_bipush C 8 dL_wordAt_26 (by decide) ?_
      refine q_irem C dL_wordAt_28 ⟨by omega, by omega⟩ ⟨by decide, by decide⟩ ?_
      refine q_iload_n C 2 dL_wordAt_29 rfl ?_
      refine q_icmp_ne C 38 dL_wordAt_30 ⟨by omega, by omega⟩ ⟨by omega, by omega⟩ (by decide) (fun h30 => ?_) (fun h30 => ?_)
      · refine q_iload_n C 3 dL_wordAt_38 rfl ?_
        refine q_istore_n (lv' := [(3, .int (iI fd)), (0, .ref (adr w a)), (1, .int (iI y)), (2, .int (iI p)), (4, .int (iI i))]) C dL_wordAt_39 (by decide) rfl ?_
        refine q_iinc (lv' := [(4, .int (iI (i + 1))), (3, .int (iI fd)), (0, .ref (adr w a)), (1, .int (iI y)), (2, .int (iI p))]) C 4 dL_wordAt_40 rfl (by decide) rfl ?_
        refine q_goto C 5 dL_wordAt_43 (by decide) ?_
        refine q_lv (lv' := [(0, .ref (adr w a)), (1, .int (iI y)), (2, .int (iI p)), (3, .int (iI fd)), (4, .int (iI (i + 1)))]) [2, 3, 4, 1, 0] rfl ?_
        exact ih5 (i + 1) fd (⟨by omega, by omega, by omega⟩) (by omega)
      · refine q_iload C 4 dL_wordAt_33 rfl ?_
        refine q_goto C 39 dL_wordAt_35 (by decide) ?_
        refine q_istore_n (lv' := [(3, .int (iI i)), (0, .ref (adr w a)), (1, .int (iI y)), (2, .int (iI p)), (4, .int (iI i))]) C dL_wordAt_39 (by decide) rfl ?_
        refine q_iinc (lv' := [(4, .int (iI (i + 1))), (3, .int (iI i)), (0, .ref (adr w a)), (1, .int (iI y)), (2, .int (iI p))]) C 4 dL_wordAt_40 rfl (by decide) rfl ?_
        refine q_goto C 5 dL_wordAt_43 (by decide) ?_
        refine q_lv (lv' := [(0, .ref (adr w a)), (1, .int (iI y)), (2, .int (iI p)), (3, .int (iI i)), (4, .int (iI (i + 1)))]) [2, 3, 4, 1, 0] rfl ?_
        exact ih5 (i + 1) i (⟨by omega, by omega, by omega⟩) (by omega)
    · refine q_if_eq C 38 dL_wordAt_19 ⟨by decide, by decide⟩  (by decide) (fun _ => ?_) (fun h => absurd h (by decide))
      refine q_iload_n C 3 dL_wordAt_38 rfl ?_
      refine q_istore_n (lv' := [(3, .int (iI fd)), (0, .ref (adr w a)), (1, .int (iI y)), (2, .int (iI p)), (4, .int (iI i))]) C dL_wordAt_39 (by decide) rfl ?_
      refine q_iinc (lv' := [(4, .int (iI (i + 1))), (3, .int (iI fd)), (0, .ref (adr w a)), (1, .int (iI y)), (2, .int (iI p))]) C 4 dL_wordAt_40 rfl (by decide) rfl ?_
      refine q_goto C 5 dL_wordAt_43 (by decide) ?_
      refine q_lv (lv' := [(0, .ref (adr w a)), (1, .int (iI y)), (2, .int (iI p)), (3, .int (iI fd)), (4, .int (iI (i + 1)))]) [2, 3, 4, 1, 0] rfl ?_
      exact ih5 (i + 1) fd (⟨by omega, by omega, by omega⟩) (by omega)

set_option maxRecDepth 100000 in
set_option maxHeartbeats 4000000 in
theorem k_L_last (l : Launch) {w : WP} {F : FF} {a : Nat} {r : Rw} (hLa : LwP w a 40) (hW : TW F a r) (hI : Iv r) {y : Int} (hy : 0 ≤ y ∧ y < 16) : Con l yL_last cL_last 2 (some .int) 2 w [.ref (adr w a), .int (iI y)] F (QI w (fun z F' => z = la r y ∧ F = F')) := by
  refine Con.mk (lv := [(0, .ref (adr w a)), (1, .int (iI y))]) (by decide) (Nat.le_of_ble_eq_true rfl) rfl ?_
  intro pg ev s0 mi be me co C hz
  refine q_aload_n C 0 dL_last_0 rfl ?_
  refine q_iload_n C 1 dL_last_1 rfl ?_
  refine q_aload_n C 0 dL_last_2 rfl ?_
  refine q_iload_n C 1 dL_last_3 rfl ?_
  refine q_cI (q_runS (As := [.ref (adr w a), .int (iI y)]) (rest := [.int (iI y), .ref (adr w a)]) C (k_L_many (F := F) (r := r) l hLa hW hI (y := y) ⟨by omega, by omega⟩) wd_350 wd_349 wd_12 wd_348 nd_L_many rfl (by decide) ⟨Nat.zero_le _, Nat.zero_le _⟩ rfl (Nat.le_of_ble_eq_true rfl) dL_last_4) ?_
  rintro z F' ⟨rfl, rfl⟩
  have qs4 := hI.sz (l := y) (by omega) (by omega)
  refine q_iconst C 1 dL_last_7 ?_
  refine q_isub C dL_last_8 ?_
  refine q_cI (q_runS (As := [.ref (adr w a), .int (iI y), .int (iI ((r y) - 1))]) (rest := []) C (k_L_wordAt (F := F) (r := r) l hLa hW hI (y := y) (p := (r y) - 1) ⟨by omega, by omega⟩ ⟨by omega, by omega⟩) wd_291 wd_290 wd_12 wd_289 nd_L_wordAt rfl (by decide) ⟨Nat.zero_le _, Nat.zero_le _⟩ rfl (Nat.le_of_ble_eq_true rfl) dL_last_9) ?_
  rintro z F' ⟨rfl, rfl⟩
  have qw9 := W0_range (l := y) (p := (r y) - 1) hI (by omega) (by omega)
  refine q_iret C dL_last_12 ?_
  exact ⟨la_W0 hI hy, rfl⟩

set_option maxRecDepth 100000 in
set_option maxHeartbeats 4000000 in
theorem k_L_beats (l : Launch) {w : WP} {F : FF} {a : Nat} {r : Rw} (hLa : LwP w a 40) (hW : TW F a r) (hI : Iv r) {y : Int} (hy : 0 ≤ y ∧ y < 16) : Con l yL_beats cL_beats 4 (some .int) 1 w [.ref (adr w a), .int (iI y)] F (QI w (fun z F' => z = bo (wa r y) (r y) ∧ F = F')) := by
  refine Con.mk (lv := [(0, .ref (adr w a)), (1, .int (iI y))]) (by decide) (Nat.le_of_ble_eq_true rfl) rfl ?_
  intro pg ev s0 mi be me co C hz
  refine q_iconst C 0 dL_beats_0 ?_
  refine q_istore_n (lv' := [(2, .int (iI 0)), (0, .ref (adr w a)), (1, .int (iI y))]) C dL_beats_1 (by decide) rfl ?_
  refine q_iconst C 0 dL_beats_2 ?_
  refine q_istore_n (lv' := [(3, .int (iI 0)), (2, .int (iI 0)), (0, .ref (adr w a)), (1, .int (iI y))]) C dL_beats_3 (by decide) rfl ?_
  refine q_lv (lv' := [(0, .ref (adr w a)), (1, .int (iI y)), (2, .int (iI 0)), (3, .int (iI 0))]) [2, 3, 1, 0] rfl ?_
  refine wf2 (P := fun (i : Int) (m : Int) => Wq pg l ev _ s0 mi _ be me co _ w _ _ _ 4 [(0, .ref (adr w a)), (1, .int (iI y)), (2, .int (iI m)), (3, .int (iI i))] [] F) (I := fun (i : Int) (m : Int) => 0 ≤ i ∧ i ≤ 40 ∧ m = sm (oF r y bt) i) (μ := fun (i : Int) (m : Int) => (40 - i).toNat) ?_ 0 0 (⟨by omega, by omega, rfl⟩)
  intro i m hI' ih4
  (try dsimp only at hI'); (try dsimp only at ih4); (try dsimp only)
  obtain ⟨hi0, hi1, hm⟩ := hI'
  refine q_iload_n C 3 dL_beats_4 rfl ?_
  refine q_bipush C 40 dL_beats_5 (by decide) ?_
  refine q_icmp_ge C 37 dL_beats_7 ⟨by omega, by omega⟩ ⟨by decide, by decide⟩ (by decide) (fun h7 => ?_) (fun h7 => ?_)
  · refine q_iload_n C 2 dL_beats_37 rfl ?_
    refine q_iret C dL_beats_38 ?_
    exact ⟨by rw [hm, show i = 40 by omega]; exact on_bt hI hy, rfl⟩
  · have hf := hW i (by omega) (by omega)
    have hc := whv_c hI i
    refine q_iload_n C 2 dL_beats_10 rfl ?_
    refine q_aload_n C 0 dL_beats_11 rfl ?_
    refine q_iload_n C 3 dL_beats_12 rfl ?_
    refine q_iload_n C 1 dL_beats_13 rfl ?_
    refine q_cI (q_runS (As := [.ref (adr w a), .int (iI i), .int (iI y)]) (rest := [.int (iI m)]) C (k_L_isOn (F := F) l hLa (x := i) (y := y) ⟨by omega, by omega⟩ ⟨by omega, by omega⟩ ⟨by omega, by omega⟩) wd_294 wd_293 wd_12 wd_292 nd_L_isOn rfl (by decide) ⟨Nat.zero_le _, Nat.zero_le _⟩ rfl (Nat.le_of_ble_eq_true rfl) dL_beats_14) ?_
    rintro z F' ⟨⟨rfl, hq14⟩ | ⟨rfl, hq14⟩, rfl⟩
    · refine q_if_eq C 28 dL_beats_17 ⟨by decide, by decide⟩  (by decide) (fun h => absurd h (by decide)) (fun _ => ?_)
      refine q_iload_n C 3 dL_beats_20 rfl ?_
      refine q_iconst C 3 dL_beats_21 ?_
      refine q_irem C dL_beats_22 ⟨by omega, by omega⟩ ⟨by decide, by decide⟩ ?_
      refine q_iconst C 1 dL_beats_23 ?_
      refine q_iadd C dL_beats_24 ?_
      refine q_goto C 29 dL_beats_25 (by decide) ?_
      refine q_iadd C dL_beats_29 ?_
      refine q_istore_n (lv' := [(2, .int (iI (m + ((i % 3) + 1)))), (0, .ref (adr w a)), (1, .int (iI y)), (3, .int (iI i))]) C dL_beats_30 (by decide) rfl ?_
      refine q_iinc (lv' := [(3, .int (iI (i + 1))), (2, .int (iI (m + ((i % 3) + 1)))), (0, .ref (adr w a)), (1, .int (iI y))]) C 3 dL_beats_31 rfl (by decide) rfl ?_
      refine q_goto C 4 dL_beats_34 (by decide) ?_
      refine q_lv (lv' := [(0, .ref (adr w a)), (1, .int (iI y)), (2, .int (iI (m + ((i % 3) + 1)))), (3, .int (iI (i + 1)))]) [2, 3, 1, 0] rfl ?_
      exact ih4 (i + 1) (m + ((i % 3) + 1)) (⟨by omega, by omega, by rw [sm_s hi0]; first | (rw [oF_1 (by omega), hm]; rfl) | (rw [oF_0 (by omega)]; omega)⟩) (by omega)
    · refine q_if_eq C 28 dL_beats_17 ⟨by decide, by decide⟩  (by decide) (fun _ => ?_) (fun h => absurd h (by decide))
      refine q_iconst C 0 dL_beats_28 ?_
      refine q_iadd C dL_beats_29 ?_
      refine q_istore_n (lv' := [(2, .int (iI (m + 0))), (0, .ref (adr w a)), (1, .int (iI y)), (3, .int (iI i))]) C dL_beats_30 (by decide) rfl ?_
      refine q_iinc (lv' := [(3, .int (iI (i + 1))), (2, .int (iI (m + 0))), (0, .ref (adr w a)), (1, .int (iI y))]) C 3 dL_beats_31 rfl (by decide) rfl ?_
      refine q_goto C 4 dL_beats_34 (by decide) ?_
      refine q_lv (lv' := [(0, .ref (adr w a)), (1, .int (iI y)), (2, .int (iI (m + 0))), (3, .int (iI (i + 1)))]) [2, 3, 1, 0] rfl ?_
      exact ih4 (i + 1) (m + 0) (⟨by omega, by omega, by rw [sm_s hi0]; first | (rw [oF_1 (by omega), hm]; rfl) | (rw [oF_0 (by omega)]; omega)⟩) (by omega)

set_option maxRecDepth 100000 in
set_option maxHeartbeats 4000000 in
theorem k_L_worth (l : Launch) {w : WP} {F : FF} {a : Nat} {r : Rw} (hLa : LwP w a 40) (hW : TW F a r) (hI : Iv r) {y : Int} (hy : 0 ≤ y ∧ y < 16) : Con l yL_worth cL_worth 4 (some .int) 2 w [.ref (adr w a), .int (iI y)] F (QI w (fun z F' => z = lw r y ∧ F = F')) := by
  refine Con.mk (lv := [(0, .ref (adr w a)), (1, .int (iI y))]) (by decide) (Nat.le_of_ble_eq_true rfl) rfl ?_
  intro pg ev s0 mi be me co C hz
  refine q_iconst C 0 dL_worth_0 ?_
  refine q_istore_n (lv' := [(2, .int (iI 0)), (0, .ref (adr w a)), (1, .int (iI y))]) C dL_worth_1 (by decide) rfl ?_
  refine q_iconst C 0 dL_worth_2 ?_
  refine q_istore_n (lv' := [(3, .int (iI 0)), (2, .int (iI 0)), (0, .ref (adr w a)), (1, .int (iI y))]) C dL_worth_3 (by decide) rfl ?_
  refine q_lv (lv' := [(0, .ref (adr w a)), (1, .int (iI y)), (2, .int (iI 0)), (3, .int (iI 0))]) [2, 3, 1, 0] rfl ?_
  refine wf2 (P := fun (i : Int) (K : Int) => Wq pg l ev _ s0 mi _ be me co _ w _ _ _ 4 [(0, .ref (adr w a)), (1, .int (iI y)), (2, .int (iI K)), (3, .int (iI i))] [] F) (I := fun (i : Int) (K : Int) => 0 ≤ i ∧ i ≤ 40 ∧ KI r y K i) (μ := fun (i : Int) (K : Int) => (40 - i).toNat) ?_ 0 0 (⟨by omega, by omega, KI_0⟩)
  intro i K hI' ih4
  (try dsimp only at hI'); (try dsimp only at ih4); (try dsimp only)
  obtain ⟨hi0, hi1, hK9⟩ := hI'
  have hK := hK9.1
  refine q_iload_n C 3 dL_worth_4 rfl ?_
  refine q_bipush C 40 dL_worth_5 (by decide) ?_
  refine q_icmp_ge C 37 dL_worth_7 ⟨by omega, by omega⟩ ⟨by decide, by decide⟩ (by decide) (fun h7 => ?_) (fun h7 => ?_)
  · have hK40 : KI r y K 40 := by
      have e : i = 40 := by omega
      rw [← e]; exact hK9
    refine q_aload_n C 0 dL_worth_37 rfl ?_
    refine q_iload_n C 1 dL_worth_38 rfl ?_
    refine q_cI (q_runS (As := [.ref (adr w a), .int (iI y)]) (rest := []) C (k_L_beats (F := F) (r := r) l hLa hW hI (y := y) ⟨by omega, by omega⟩) wd_353 wd_352 wd_12 wd_351 nd_L_beats rfl (by decide) ⟨Nat.zero_le _, Nat.zero_le _⟩ rfl (Nat.le_of_ble_eq_true rfl) dL_worth_39) ?_
    rintro z F' ⟨rfl, rfl⟩
    have qb39 := bo_bounds (f := wa r y) (n := r y) (hI.sz (l := y) (by omega) (by omega)).1 (fun p a b => (hI.wd (l := y) (by omega) (by omega) a b).1)
    have qs39 := hI.sz (l := y) (by omega) (by omega)
    refine q_istore_n (lv' := [(3, .int (iI (bo (wa r y) (r y)))), (0, .ref (adr w a)), (1, .int (iI y)), (2, .int (iI K))]) C dL_worth_42 (by decide) rfl ?_
    refine q_iload_n C 0 dL_worth_43 rfl ?_
    refine q_iload_n C 3 dL_worth_44 rfl ?_
    refine q_iconst C 3 dL_worth_45 ?_
    refine q_iand C (K % 4) (and_3 hK) dL_worth_46 ?_
    refine q_iconst C 3 dL_worth_47 ?_
    refine q_icmp_ne C 55 dL_worth_48 ⟨by omega, by omega⟩ ⟨by decide, by decide⟩ (by decide) (fun h48 => ?_) (fun h48 => ?_)
    · refine q_iconst C 0 dL_worth_55 ?_
      refine q_iadd C dL_worth_56 ?_
      refine q_iload_n C 0 dL_worth_57 rfl ?_
      refine q_bipush C 8 dL_worth_58 (by decide) ?_
      refine q_icmp_ne C 67 dL_worth_60 ⟨by omega, by omega⟩ ⟨by decide, by decide⟩ (by decide) (fun h60 => ?_) (fun h60 => ?_)
      · refine q_iconst C 0 dL_worth_67 ?_
        refine q_iadd C dL_worth_68 ?_
        refine q_iret C dL_worth_69 ?_
        exact ⟨KI_lw hK40 hI hy rfl (by omega) (by omega), rfl⟩
      · refine q_iconst C 3 dL_worth_63 ?_
        refine q_goto C 68 dL_worth_64 (by decide) ?_
        refine q_iadd C dL_worth_68 ?_
        refine q_iret C dL_worth_69 ?_
        exact ⟨KI_lw hK40 hI hy rfl (by omega) (by omega), rfl⟩
    · refine q_iconst C 5 dL_worth_51 ?_
      refine q_goto C 56 dL_worth_52 (by decide) ?_
      refine q_iadd C dL_worth_56 ?_
      refine q_iload_n C 0 dL_worth_57 rfl ?_
      refine q_bipush C 8 dL_worth_58 (by decide) ?_
      refine q_icmp_ne C 67 dL_worth_60 ⟨by omega, by omega⟩ ⟨by decide, by decide⟩ (by decide) (fun h60 => ?_) (fun h60 => ?_)
      · refine q_iconst C 0 dL_worth_67 ?_
        refine q_iadd C dL_worth_68 ?_
        refine q_iret C dL_worth_69 ?_
        exact ⟨KI_lw hK40 hI hy rfl (by omega) (by omega), rfl⟩
      · refine q_iconst C 3 dL_worth_63 ?_
        refine q_goto C 68 dL_worth_64 (by decide) ?_
        refine q_iadd C dL_worth_68 ?_
        refine q_iret C dL_worth_69 ?_
        exact ⟨KI_lw hK40 hI hy rfl (by omega) (by omega), rfl⟩
  · have hf := hW i (by omega) (by omega)
    have hc := whv_c hI i
    refine q_iload_n C 2 dL_worth_10 rfl ?_
    refine q_aload_n C 0 dL_worth_11 rfl ?_
    refine q_iload_n C 3 dL_worth_12 rfl ?_
    refine q_iload_n C 1 dL_worth_13 rfl ?_
    refine q_cI (q_runS (As := [.ref (adr w a), .int (iI i), .int (iI y)]) (rest := [.int (iI K)]) C (k_L_isOn (F := F) l hLa (x := i) (y := y) ⟨by omega, by omega⟩ ⟨by omega, by omega⟩ ⟨by omega, by omega⟩) wd_294 wd_293 wd_12 wd_292 nd_L_isOn rfl (by decide) ⟨Nat.zero_le _, Nat.zero_le _⟩ rfl (Nat.le_of_ble_eq_true rfl) dL_worth_14) ?_
    rintro z F' ⟨⟨rfl, hq14⟩ | ⟨rfl, hq14⟩, rfl⟩
    · refine q_if_eq C 28 dL_worth_17 ⟨by decide, by decide⟩  (by decide) (fun h => absurd h (by decide)) (fun _ => ?_)
      refine q_iconst C 1 dL_worth_20 ?_
      refine q_iload_n C 3 dL_worth_21 rfl ?_
      refine q_iconst C 4 dL_worth_22 ?_
      refine q_irem C dL_worth_23 ⟨by omega, by omega⟩ ⟨by decide, by decide⟩ ?_
      refine q_ishl C (pw (i % 4)) (shl_1 ⟨by omega, by omega⟩) dL_worth_24 ?_
      refine q_goto C 29 dL_worth_25 (by decide) ?_
      refine q_ior C (orv K (i % 4)) (or_e hK ⟨by omega, by omega⟩) dL_worth_29 ?_
      refine q_istore_n (lv' := [(2, .int (iI (orv K (i % 4)))), (0, .ref (adr w a)), (1, .int (iI y)), (3, .int (iI i))]) C dL_worth_30 (by decide) rfl ?_
      refine q_iinc (lv' := [(3, .int (iI (i + 1))), (2, .int (iI (orv K (i % 4)))), (0, .ref (adr w a)), (1, .int (iI y))]) C 3 dL_worth_31 rfl (by decide) rfl ?_
      refine q_goto C 4 dL_worth_34 (by decide) ?_
      refine q_lv (lv' := [(0, .ref (adr w a)), (1, .int (iI y)), (2, .int (iI (orv K (i % 4)))), (3, .int (iI (i + 1)))]) [2, 3, 1, 0] rfl ?_
      exact ih4 (i + 1) (orv K (i % 4)) (⟨by omega, by omega, by first | exact KI_on hK9 hi0 (by omega) | exact KI_off hK9 hi0 (by omega)⟩) (by omega)
    · refine q_if_eq C 28 dL_worth_17 ⟨by decide, by decide⟩  (by decide) (fun _ => ?_) (fun h => absurd h (by decide))
      refine q_iconst C 0 dL_worth_28 ?_
      refine q_ior C (K) (or_0 hK) dL_worth_29 ?_
      refine q_istore_n (lv' := [(2, .int (iI K)), (0, .ref (adr w a)), (1, .int (iI y)), (3, .int (iI i))]) C dL_worth_30 (by decide) rfl ?_
      refine q_iinc (lv' := [(3, .int (iI (i + 1))), (2, .int (iI K)), (0, .ref (adr w a)), (1, .int (iI y))]) C 3 dL_worth_31 rfl (by decide) rfl ?_
      refine q_goto C 4 dL_worth_34 (by decide) ?_
      refine q_lv (lv' := [(0, .ref (adr w a)), (1, .int (iI y)), (2, .int (iI K)), (3, .int (iI (i + 1)))]) [2, 3, 1, 0] rfl ?_
      exact ih4 (i + 1) K (⟨by omega, by omega, by first | exact KI_on hK9 hi0 (by omega) | exact KI_off hK9 hi0 (by omega)⟩) (by omega)

set_option maxRecDepth 100000 in
set_option maxHeartbeats 4000000 in
theorem k_L_ending (l : Launch) {w : WP} {F : FF} {a : Nat} {r : Rw} (hLa : LwP w a 40) (hW : TW F a r) (hI : Iv r) {b : Nat} (hLb : LwP w b 16) (hL : TL F b r) {y : Int} (hy : 0 ≤ y ∧ y < 16) : Con l yL_ending cL_ending 3 (some .int) 3 w [.ref (adr w a), .ref (adr w b), .int (iI y)] F (QI w (fun z F' => z = le r y ∧ F = F')) := by
  refine Con.mk (lv := [(0, .ref (adr w a)), (1, .ref (adr w b)), (2, .int (iI y))]) (by decide) (Nat.le_of_ble_eq_true rfl) rfl ?_
  intro pg ev s0 mi be me co C hz
  refine q_aload_n C 0 dL_ending_0 rfl ?_
  refine q_iload_n C 2 dL_ending_1 rfl ?_
  refine q_cI (q_runS (As := [.ref (adr w a), .int (iI y)]) (rest := []) C (k_L_many (F := F) (r := r) l hLa hW hI (y := y) ⟨by omega, by omega⟩) wd_350 wd_349 wd_12 wd_348 nd_L_many rfl (by decide) ⟨Nat.zero_le _, Nat.zero_le _⟩ rfl (Nat.le_of_ble_eq_true rfl) dL_ending_2) ?_
  rintro z F' ⟨rfl, rfl⟩
  have qs2 := hI.sz (l := y) (by omega) (by omega)
  refine q_if_ne C 12 dL_ending_5 ⟨by omega, by omega⟩  (by decide) (fun h5 => ?_) (fun h5 => ?_)
  · refine q_aload_n C 0 dL_ending_12 rfl ?_
    have qld9 := hI.ld hy.1 hy.2
    refine q_aload_n C 1 dL_ending_13 rfl ?_
    refine q_iload_n C 2 dL_ending_14 rfl ?_
    refine q_iald9 C hLb ⟨by omega, by omega⟩ dL_ending_15 ?_
    rw [show F b y = r (112 + y) - 1 from hL y (by omega) (by omega)]
    refine q_if_ge C 23 dL_ending_16 ⟨by omega, by omega⟩  (by decide) (fun h16 => ?_) (fun h16 => ?_)
    · refine q_aload_n C 1 dL_ending_23 rfl ?_
      refine q_iload_n C 2 dL_ending_24 rfl ?_
      refine q_iald9 C hLb ⟨by omega, by omega⟩ dL_ending_25 ?_
      rw [show F b y = r (112 + y) - 1 from hL y (by omega) (by omega)]
      have qld := hI.ld hy.1 hy.2
      have hlend := hI.lend hy.1 hy.2 (by omega)
      have qn := la_nn hI (l := r (112 + y) - 1) ⟨by omega, by omega⟩ hlend.2.1
      refine q_cI (q_runS (As := [.ref (adr w a), .int (iI (r (112 + y) - 1))]) (rest := []) C (k_L_last (F := F) (r := r) l hLa hW hI (y := r (112 + y) - 1) ⟨by omega, by omega⟩) wd_362 wd_361 wd_12 wd_360 nd_L_last rfl (by decide) ⟨Nat.zero_le _, Nat.zero_le _⟩ rfl (Nat.le_of_ble_eq_true rfl) dL_ending_26) ?_
      rintro z F' ⟨rfl, rfl⟩
      have ql26 := la_range (l := r (112 + y) - 1) hI (by omega) (by omega)
      refine q_iconst C 4 dL_ending_29 ?_
      refine q_idiv C dL_ending_30 ⟨by omega, by omega⟩ ⟨by decide, by decide⟩ ?_
      refine q_iconst C 5 dL_ending_31 ?_
      refine q_irem C dL_ending_32 ⟨by omega, by omega⟩ ⟨by decide, by decide⟩ ?_
      refine q_iret C dL_ending_33 ?_
      exact ⟨by unfold le; first | rw [if_pos (by omega)] | (rw [if_neg (by omega), if_neg (by omega)]; rfl) | (rw [if_neg (by omega), if_pos (by omega)]; rfl), rfl⟩
    · refine q_iload_n C 2 dL_ending_19 rfl ?_
      refine q_goto C 26 dL_ending_20 (by decide) ?_
      have qn := la_nn hI hy (by omega)
      refine q_cI (q_runS (As := [.ref (adr w a), .int (iI y)]) (rest := []) C (k_L_last (F := F) (r := r) l hLa hW hI (y := y) ⟨by omega, by omega⟩) wd_362 wd_361 wd_12 wd_360 nd_L_last rfl (by decide) ⟨Nat.zero_le _, Nat.zero_le _⟩ rfl (Nat.le_of_ble_eq_true rfl) dL_ending_26) ?_
      rintro z F' ⟨rfl, rfl⟩
      have ql26 := la_range (l := y) hI (by omega) (by omega)
      refine q_iconst C 4 dL_ending_29 ?_
      refine q_idiv C dL_ending_30 ⟨by omega, by omega⟩ ⟨by decide, by decide⟩ ?_
      refine q_iconst C 5 dL_ending_31 ?_
      refine q_irem C dL_ending_32 ⟨by omega, by omega⟩ ⟨by decide, by decide⟩ ?_
      refine q_iret C dL_ending_33 ?_
      exact ⟨by unfold le; first | rw [if_pos (by omega)] | (rw [if_neg (by omega), if_neg (by omega)]; rfl) | (rw [if_neg (by omega), if_pos (by omega)]; rfl), rfl⟩
  · refine q_iconst C (-1) dL_ending_8 ?_
    refine q_goto C 33 dL_ending_9 (by decide) ?_
    refine q_iret C dL_ending_33 ?_
    exact ⟨by unfold le; first | rw [if_pos (by omega)] | (rw [if_neg (by omega), if_neg (by omega)]; rfl) | (rw [if_neg (by omega), if_pos (by omega)]; rfl), rfl⟩

set_option maxRecDepth 100000 in
set_option maxHeartbeats 4000000 in
theorem k_L_rhymes (l : Launch) {w : WP} {F : FF} {a : Nat} {r : Rw} (hLa : LwP w a 40) (hW : TW F a r) (hI : Iv r) {b : Nat} (hLb : LwP w b 16) (hL : TL F b r) {y : Int} (hy : 0 ≤ y ∧ y < 16) : Con l yL_rhymes cL_rhymes 7 (some .int) 4 w [.ref (adr w a), .ref (adr w b), .int (iI y)] F (QI w (fun z F' => z = rh r y ∧ F = F')) := by
  refine Con.mk (lv := [(0, .ref (adr w a)), (1, .ref (adr w b)), (2, .int (iI y))]) (by decide) (Nat.le_of_ble_eq_true rfl) rfl ?_
  intro pg ev s0 mi be me co C hz
  refine q_iconst C 0 dL_rhymes_0 ?_
  refine q_istore_n (lv' := [(3, .int (iI 0)), (0, .ref (adr w a)), (1, .ref (adr w b)), (2, .int (iI y))]) C dL_rhymes_1 (by decide) rfl ?_
  refine q_aload_n C 1 dL_rhymes_2 rfl ?_
  refine q_aload_n C 2 dL_rhymes_3 rfl ?_
  refine q_iload_n C 3 dL_rhymes_4 rfl ?_
  refine q_cI (q_runS (As := [.ref (adr w a), .ref (adr w b), .int (iI y)]) (rest := []) C (k_L_ending (F := F) (r := r) l hLa hW hI hLb hL (y := y) ⟨by omega, by omega⟩) wd_359 wd_358 wd_12 wd_357 nd_L_ending rfl (by decide) ⟨Nat.zero_le _, Nat.zero_le _⟩ rfl (Nat.le_of_ble_eq_true rfl) dL_rhymes_5) ?_
  rintro z F' ⟨rfl, rfl⟩
  have qe5 := le_range (l := y) hI (by omega) (by omega)
  refine q_istore (lv' := [(4, .int (iI (le r y))), (3, .int (iI 0)), (0, .ref (adr w a)), (1, .ref (adr w b)), (2, .int (iI y))]) C dL_rhymes_8 (by decide) rfl ?_
  refine q_iconst C 0 dL_rhymes_10 ?_
  refine q_istore (lv' := [(5, .int (iI 0)), (4, .int (iI (le r y))), (3, .int (iI 0)), (0, .ref (adr w a)), (1, .ref (adr w b)), (2, .int (iI y))]) C dL_rhymes_11 (by decide) rfl ?_
  refine q_lv (lv' := [(0, .ref (adr w a)), (1, .ref (adr w b)), (2, .int (iI y)), (3, .int (iI 0)), (4, .int (iI (le r y))), (5, .int (iI 0))]) [3, 4, 5, 2, 1, 0] rfl ?_
  refine wf2 (P := fun (i : Int) (m : Int) => Wq pg l ev _ s0 mi _ be me co _ w _ _ _ 13 [(0, .ref (adr w a)), (1, .ref (adr w b)), (2, .int (iI y)), (3, .int (iI m)), (4, .int (iI (le r y))), (5, .int (iI i))] [] F) (I := fun (i : Int) (m : Int) => 0 ≤ i ∧ i ≤ 4 ∧ m = sm (rhT r y (le r y)) i) (μ := fun (i : Int) (m : Int) => (4 - i).toNat) ?_ 0 0 (⟨by omega, by omega, rfl⟩)
  intro i m hI' ih13
  (try dsimp only at hI'); (try dsimp only at ih13); (try dsimp only)
  obtain ⟨hi0, hi1, hm⟩ := hI'
  refine q_iload C 5 dL_rhymes_13 rfl ?_
  refine q_iconst C 4 dL_rhymes_15 ?_
  refine q_icmp_ge C 66 dL_rhymes_16 ⟨by omega, by omega⟩ ⟨by decide, by decide⟩ (by decide) (fun h16 => ?_) (fun h16 => ?_)
  · refine q_iload_n C 3 dL_rhymes_66 rfl ?_
    refine q_iret C dL_rhymes_67 ?_
    exact ⟨by rw [hm, show i = 4 by omega]; rfl, rfl⟩
  · refine q_iload_n C 2 dL_rhymes_19 rfl ?_
    refine q_iconst C 4 dL_rhymes_20 ?_
    refine q_idiv C dL_rhymes_21 ⟨by omega, by omega⟩ ⟨by decide, by decide⟩ ?_
    refine q_iconst C 4 dL_rhymes_22 ?_
    refine q_imul C dL_rhymes_23 ?_
    refine q_iload C 5 dL_rhymes_24 rfl ?_
    refine q_iadd C dL_rhymes_26 ?_
    refine q_top (z' := 4 * (y / 4) + i) (by omega) ?_
    refine q_istore (lv' := [(6, .int (iI (4 * (y / 4) + i))), (0, .ref (adr w a)), (1, .ref (adr w b)), (2, .int (iI y)), (3, .int (iI m)), (4, .int (iI (le r y))), (5, .int (iI i))]) C dL_rhymes_27 (by decide) rfl ?_
    refine q_iload_n C 4 dL_rhymes_29 rfl ?_
    refine q_iload C 0 dL_rhymes_30 rfl ?_
    refine q_iload_n C 3 dL_rhymes_32 rfl ?_
    refine q_icmp_eq C 57 dL_rhymes_33 ⟨by omega, by omega⟩ ⟨by omega, by omega⟩ (by decide) (fun h33 => ?_) (fun h33 => ?_)
    · refine q_iconst C 0 dL_rhymes_57 ?_
      refine q_iadd C dL_rhymes_58 ?_
      refine q_istore_n (lv' := [(3, .int (iI (m + 0))), (6, .int (iI (4 * (y / 4) + i))), (0, .ref (adr w a)), (1, .ref (adr w b)), (2, .int (iI y)), (4, .int (iI (le r y))), (5, .int (iI i))]) C dL_rhymes_59 (by decide) rfl ?_
      refine q_iinc (lv' := [(5, .int (iI (i + 1))), (3, .int (iI (m + 0))), (6, .int (iI (4 * (y / 4) + i))), (0, .ref (adr w a)), (1, .ref (adr w b)), (2, .int (iI y)), (4, .int (iI (le r y)))]) C 6 dL_rhymes_60 rfl (by decide) rfl ?_
      refine q_goto C 13 dL_rhymes_63 (by decide) ?_
      refine q_lv (lv' := [(0, .ref (adr w a)), (1, .ref (adr w b)), (2, .int (iI y)), (3, .int (iI (m + 0))), (4, .int (iI (le r y))), (5, .int (iI (i + 1)))]) [3, 4, 5, 1, 6, 0] rfl ?_
      exact ih13 (i + 1) (m + 0) (⟨by omega, by omega, by rw [sm_s hi0]; first | (rw [rhT_0 (by omega)]; omega) | (rw [rhT_n (by omega)]; omega) | (rw [rhT_1 (by omega) (by omega) (by omega)]; omega) | (rw [rhT_e (by omega)]; omega)⟩) (by omega)
    · refine q_iload C 5 dL_rhymes_36 rfl ?_
      refine q_if_lt C 57 dL_rhymes_38 ⟨by omega, by omega⟩  (by decide) (fun h38 => ?_) (fun h38 => ?_)
      · refine q_iconst C 0 dL_rhymes_57 ?_
        refine q_iadd C dL_rhymes_58 ?_
        refine q_istore_n (lv' := [(3, .int (iI (m + 0))), (6, .int (iI (4 * (y / 4) + i))), (0, .ref (adr w a)), (1, .ref (adr w b)), (2, .int (iI y)), (4, .int (iI (le r y))), (5, .int (iI i))]) C dL_rhymes_59 (by decide) rfl ?_
        refine q_iinc (lv' := [(5, .int (iI (i + 1))), (3, .int (iI (m + 0))), (6, .int (iI (4 * (y / 4) + i))), (0, .ref (adr w a)), (1, .ref (adr w b)), (2, .int (iI y)), (4, .int (iI (le r y)))]) C 6 dL_rhymes_60 rfl (by decide) rfl ?_
        refine q_goto C 13 dL_rhymes_63 (by decide) ?_
        refine q_lv (lv' := [(0, .ref (adr w a)), (1, .ref (adr w b)), (2, .int (iI y)), (3, .int (iI (m + 0))), (4, .int (iI (le r y))), (5, .int (iI (i + 1)))]) [3, 4, 5, 1, 6, 0] rfl ?_
        exact ih13 (i + 1) (m + 0) (⟨by omega, by omega, by rw [sm_s hi0]; first | (rw [rhT_0 (by omega)]; omega) | (rw [rhT_n (by omega)]; omega) | (rw [rhT_1 (by omega) (by omega) (by omega)]; omega) | (rw [rhT_e (by omega)]; omega)⟩) (by omega)
      · refine q_aload_n C 1 dL_rhymes_41 rfl ?_
        refine q_aload_n C 2 dL_rhymes_42 rfl ?_
        refine q_iload C 0 dL_rhymes_43 rfl ?_
        refine q_cI (q_runS (As := [.ref (adr w a), .ref (adr w b), .int (iI (4 * (y / 4) + i))]) (rest := [.int (iI m)]) C (k_L_ending (F := F) (r := r) l hLa hW hI hLb hL (y := 4 * (y / 4) + i) ⟨by omega, by omega⟩) wd_359 wd_358 wd_12 wd_357 nd_L_ending rfl (by decide) ⟨Nat.zero_le _, Nat.zero_le _⟩ rfl (Nat.le_of_ble_eq_true rfl) dL_rhymes_45) ?_
        rintro z F' ⟨rfl, rfl⟩
        have qe45 := le_range (l := 4 * (y / 4) + i) hI (by omega) (by omega)
        refine q_iload C 5 dL_rhymes_48 rfl ?_
        refine q_icmp_ne C 57 dL_rhymes_50 ⟨by omega, by omega⟩ ⟨by omega, by omega⟩ (by decide) (fun h50 => ?_) (fun h50 => ?_)
        · refine q_iconst C 0 dL_rhymes_57 ?_
          refine q_iadd C dL_rhymes_58 ?_
          refine q_istore_n (lv' := [(3, .int (iI (m + 0))), (6, .int (iI (4 * (y / 4) + i))), (0, .ref (adr w a)), (1, .ref (adr w b)), (2, .int (iI y)), (4, .int (iI (le r y))), (5, .int (iI i))]) C dL_rhymes_59 (by decide) rfl ?_
          refine q_iinc (lv' := [(5, .int (iI (i + 1))), (3, .int (iI (m + 0))), (6, .int (iI (4 * (y / 4) + i))), (0, .ref (adr w a)), (1, .ref (adr w b)), (2, .int (iI y)), (4, .int (iI (le r y)))]) C 6 dL_rhymes_60 rfl (by decide) rfl ?_
          refine q_goto C 13 dL_rhymes_63 (by decide) ?_
          refine q_lv (lv' := [(0, .ref (adr w a)), (1, .ref (adr w b)), (2, .int (iI y)), (3, .int (iI (m + 0))), (4, .int (iI (le r y))), (5, .int (iI (i + 1)))]) [3, 4, 5, 1, 6, 0] rfl ?_
          exact ih13 (i + 1) (m + 0) (⟨by omega, by omega, by rw [sm_s hi0]; first | (rw [rhT_0 (by omega)]; omega) | (rw [rhT_n (by omega)]; omega) | (rw [rhT_1 (by omega) (by omega) (by omega)]; omega) | (rw [rhT_e (by omega)]; omega)⟩) (by omega)
        · refine q_iconst C 1 dL_rhymes_53 ?_
          refine q_goto C 58 dL_rhymes_54 (by decide) ?_
          refine q_iadd C dL_rhymes_58 ?_
          refine q_istore_n (lv' := [(3, .int (iI (m + 1))), (6, .int (iI (4 * (y / 4) + i))), (0, .ref (adr w a)), (1, .ref (adr w b)), (2, .int (iI y)), (4, .int (iI (le r y))), (5, .int (iI i))]) C dL_rhymes_59 (by decide) rfl ?_
          refine q_iinc (lv' := [(5, .int (iI (i + 1))), (3, .int (iI (m + 1))), (6, .int (iI (4 * (y / 4) + i))), (0, .ref (adr w a)), (1, .ref (adr w b)), (2, .int (iI y)), (4, .int (iI (le r y)))]) C 6 dL_rhymes_60 rfl (by decide) rfl ?_
          refine q_goto C 13 dL_rhymes_63 (by decide) ?_
          refine q_lv (lv' := [(0, .ref (adr w a)), (1, .ref (adr w b)), (2, .int (iI y)), (3, .int (iI (m + 1))), (4, .int (iI (le r y))), (5, .int (iI (i + 1)))]) [3, 4, 5, 1, 6, 0] rfl ?_
          exact ih13 (i + 1) (m + 1) (⟨by omega, by omega, by rw [sm_s hi0]; first | (rw [rhT_0 (by omega)]; omega) | (rw [rhT_n (by omega)]; omega) | (rw [rhT_1 (by omega) (by omega) (by omega)]; omega) | (rw [rhT_e (by omega)]; omega)⟩) (by omega)

set_option maxRecDepth 100000 in
set_option maxHeartbeats 4000000 in
theorem k_L_doorWorth (l : Launch) {w : WP} {F : FF} {a : Nat} {r : Rw} (hLa : LwP w a 40) (hW : TW F a r) (hI : Iv r) {b : Nat} (hLb : LwP w b 16) (hL : TL F b r) {d : Int} (hd : 0 ≤ d ∧ d < 4) : Con l yL_doorWorth cL_doorWorth 5 (some .int) 5 w [.ref (adr w a), .ref (adr w b), .int (iI d)] F (QI w (fun z F' => z = dw r d ∧ F = F')) := by
  refine Con.mk (lv := [(0, .ref (adr w a)), (1, .ref (adr w b)), (2, .int (iI d))]) (by decide) (Nat.le_of_ble_eq_true rfl) rfl ?_
  intro pg ev s0 mi be me co C hz
  refine q_iconst C 0 dL_doorWorth_0 ?_
  refine q_istore_n (lv' := [(3, .int (iI 0)), (0, .ref (adr w a)), (1, .ref (adr w b)), (2, .int (iI d))]) C dL_doorWorth_1 (by decide) rfl ?_
  refine q_iconst C 4 dL_doorWorth_2 ?_
  refine q_iload_n C 3 dL_doorWorth_3 rfl ?_
  refine q_imul C dL_doorWorth_4 ?_
  refine q_istore (lv' := [(4, .int (iI (4 * d))), (3, .int (iI 0)), (0, .ref (adr w a)), (1, .ref (adr w b)), (2, .int (iI d))]) C dL_doorWorth_5 (by decide) rfl ?_
  refine q_lv (lv' := [(0, .ref (adr w a)), (1, .ref (adr w b)), (2, .int (iI d)), (3, .int (iI 0)), (4, .int (iI (4 * d)))]) [2, 3, 4, 1, 0] rfl ?_
  refine wf2 (P := fun (i : Int) (m : Int) => Wq pg l ev _ s0 mi _ be me co _ w _ _ _ 7 [(0, .ref (adr w a)), (1, .ref (adr w b)), (2, .int (iI d)), (3, .int (iI m)), (4, .int (iI i))] [] F) (I := fun (i : Int) (m : Int) => 4 * d ≤ i ∧ i ≤ 4 * d + 4 ∧ m = sm (dT r d) (i - 4 * d)) (μ := fun (i : Int) (m : Int) => (4 * d + 4 - i).toNat) ?_ (4 * d) 0 (⟨by omega, by omega, by rw [Int.sub_self]; rfl⟩)
  intro i m hI' ih7
  (try dsimp only at hI'); (try dsimp only at ih7); (try dsimp only)
  obtain ⟨hi0, hi1, hm⟩ := hI'
  refine q_iload C 4 dL_doorWorth_7 rfl ?_
  refine q_iconst C 4 dL_doorWorth_9 ?_
  refine q_iload_n C 2 dL_doorWorth_10 rfl ?_
  refine q_imul C dL_doorWorth_11 ?_
  refine q_iconst C 4 dL_doorWorth_12 ?_
  refine q_iadd C dL_doorWorth_13 ?_
  refine q_icmp_ge C 42 dL_doorWorth_14 ⟨by omega, by omega⟩ ⟨by omega, by omega⟩ (by decide) (fun h14 => ?_) (fun h14 => ?_)
  · refine q_iload_n C 3 dL_doorWorth_42 rfl ?_
    refine q_iret C dL_doorWorth_43 ?_
    exact ⟨by rw [hm, show i - 4 * d = 4 by omega]; exact dT_all hd, rfl⟩
  · refine q_iload_n C 3 dL_doorWorth_17 rfl ?_
    refine q_aload_n C 0 dL_doorWorth_18 rfl ?_
    refine q_iload C 4 dL_doorWorth_19 rfl ?_
    refine q_cI (q_runS (As := [.ref (adr w a), .int (iI i)]) (rest := [.int (iI m)]) C (k_L_worth (F := F) (r := r) l hLa hW hI (y := i) ⟨by omega, by omega⟩) wd_356 wd_355 wd_12 wd_354 nd_L_worth rfl (by decide) ⟨Nat.zero_le _, Nat.zero_le _⟩ rfl (Nat.le_of_ble_eq_true rfl) dL_doorWorth_21) ?_
    rintro z F' ⟨rfl, rfl⟩
    have qv21 := lw_bounds hI (l := i) (by omega) (by omega)
    refine q_iconst C 2 dL_doorWorth_24 ?_
    refine q_aload_n C 0 dL_doorWorth_25 rfl ?_
    refine q_aload_n C 1 dL_doorWorth_26 rfl ?_
    refine q_iload C 4 dL_doorWorth_27 rfl ?_
    refine q_cI (q_runS (As := [.ref (adr w a), .ref (adr w b), .int (iI i)]) (rest := [.int (iI 2), .int (iI (lw r i)), .int (iI m)]) C (k_L_rhymes (F := F) (r := r) l hLa hW hI hLb hL (y := i) ⟨by omega, by omega⟩) wd_368 wd_367 wd_12 wd_366 nd_L_rhymes rfl (by decide) ⟨Nat.zero_le _, Nat.zero_le _⟩ rfl (Nat.le_of_ble_eq_true rfl) dL_doorWorth_29) ?_
    rintro z F' ⟨rfl, rfl⟩
    have qr29 := rh_range r i
    refine q_imul C dL_doorWorth_32 ?_
    refine q_iadd C dL_doorWorth_33 ?_
    refine q_iadd C dL_doorWorth_34 ?_
    refine q_istore_n (lv' := [(3, .int (iI (m + ((lw r i) + (2 * (rh r i)))))), (0, .ref (adr w a)), (1, .ref (adr w b)), (2, .int (iI d)), (4, .int (iI i))]) C dL_doorWorth_35 (by decide) rfl ?_
    refine q_iinc (lv' := [(4, .int (iI (i + 1))), (3, .int (iI (m + ((lw r i) + (2 * (rh r i)))))), (0, .ref (adr w a)), (1, .ref (adr w b)), (2, .int (iI d))]) C 4 dL_doorWorth_36 rfl (by decide) rfl ?_
    refine q_goto C 7 dL_doorWorth_39 (by decide) ?_
    refine q_lv (lv' := [(0, .ref (adr w a)), (1, .ref (adr w b)), (2, .int (iI d)), (3, .int (iI (m + ((lw r i) + (2 * (rh r i)))))), (4, .int (iI (i + 1)))]) [2, 3, 4, 1, 0] rfl ?_
    exact ih7 (i + 1) (m + ((lw r i) + (2 * (rh r i)))) (⟨by omega, by omega, by rw [show i + 1 - 4 * d = (i - 4 * d) + 1 by omega, sm_s (by omega), dT_i (i := i) (by omega), hm]⟩) (by omega)

set_option maxRecDepth 100000 in
set_option maxHeartbeats 4000000 in
theorem k_L_doorWords (l : Launch) {w : WP} {F : FF} {a : Nat} {r : Rw} (hLa : LwP w a 40) (hW : TW F a r) (hI : Iv r) {d : Int} (hd : 0 ≤ d ∧ d < 4) : Con l yL_doorWords cL_doorWords 4 (some .int) 0 w [.ref (adr w a), .int (iI d)] F (QI w (fun z F' => z = dwo r d ∧ F = F')) := by
  refine Con.mk (lv := [(0, .ref (adr w a)), (1, .int (iI d))]) (by decide) (Nat.le_of_ble_eq_true rfl) rfl ?_
  intro pg ev s0 mi be me co C hz
  refine q_iconst C 0 dL_doorWords_0 ?_
  refine q_istore_n (lv' := [(2, .int (iI 0)), (0, .ref (adr w a)), (1, .int (iI d))]) C dL_doorWords_1 (by decide) rfl ?_
  refine q_iconst C 0 dL_doorWords_2 ?_
  refine q_istore_n (lv' := [(3, .int (iI 0)), (2, .int (iI 0)), (0, .ref (adr w a)), (1, .int (iI d))]) C dL_doorWords_3 (by decide) rfl ?_
  refine q_lv (lv' := [(0, .ref (adr w a)), (1, .int (iI d)), (2, .int (iI 0)), (3, .int (iI 0))]) [2, 3, 1, 0] rfl ?_
  refine wf2 (P := fun (i : Int) (m : Int) => Wq pg l ev _ s0 mi _ be me co _ w _ _ _ 4 [(0, .ref (adr w a)), (1, .int (iI d)), (2, .int (iI m)), (3, .int (iI i))] [] F) (I := fun (i : Int) (m : Int) => 0 ≤ i ∧ i ≤ 40 ∧ m = sm (dF r d) i) (μ := fun (i : Int) (m : Int) => (40 - i).toNat) ?_ 0 0 (⟨by omega, by omega, rfl⟩)
  intro i m hI' ih4
  (try dsimp only at hI'); (try dsimp only at ih4); (try dsimp only)
  obtain ⟨hi0, hi1, hm⟩ := hI'
  refine q_iload_n C 3 dL_doorWords_4 rfl ?_
  refine q_bipush C 40 dL_doorWords_5 (by decide) ?_
  refine q_icmp_ge C 40 dL_doorWords_7 ⟨by omega, by omega⟩ ⟨by decide, by decide⟩ (by decide) (fun h7 => ?_) (fun h7 => ?_)
  · refine q_iload_n C 2 dL_doorWords_40 rfl ?_
    refine q_iret C dL_doorWords_41 ?_
    exact ⟨by rw [hm, show i = 40 by omega]; exact dF_all hI hd, rfl⟩
  · have hf := hW i (by omega) (by omega)
    have hc := whv_c hI i
    refine q_iload_n C 2 dL_doorWords_10 rfl ?_
    refine q_aload_n C 0 dL_doorWords_11 rfl ?_
    refine q_iload_n C 3 dL_doorWords_12 rfl ?_
    refine q_iald9 C hLa ⟨by omega, by omega⟩ dL_doorWords_13 ?_
    refine q_if_lt C 31 dL_doorWords_14 ⟨by omega, by omega⟩  (by decide) (fun h14 => ?_) (fun h14 => ?_)
    · refine q_iconst C 0 dL_doorWords_31 ?_
      refine q_iadd C dL_doorWords_32 ?_
      refine q_istore_n (lv' := [(2, .int (iI (m + 0))), (0, .ref (adr w a)), (1, .int (iI d)), (3, .int (iI i))]) C dL_doorWords_33 (by decide) rfl ?_
      refine q_iinc (lv' := [(3, .int (iI (i + 1))), (2, .int (iI (m + 0))), (0, .ref (adr w a)), (1, .int (iI d))]) C 3 dL_doorWords_34 rfl (by decide) rfl ?_
      refine q_goto C 4 dL_doorWords_37 (by decide) ?_
      refine q_lv (lv' := [(0, .ref (adr w a)), (1, .int (iI d)), (2, .int (iI (m + 0))), (3, .int (iI (i + 1)))]) [2, 3, 1, 0] rfl ?_
      exact ih4 (i + 1) (m + 0) (⟨by omega, by omega, by rw [sm_s hi0]; first | (rw [dF_1 (by omega)]; omega) | (rw [dF_0 (by omega)]; omega)⟩) (by omega)
    · refine q_aload_n C 0 dL_doorWords_17 rfl ?_
      refine q_iload_n C 3 dL_doorWords_18 rfl ?_
      refine q_iald9 C hLa ⟨by omega, by omega⟩ dL_doorWords_19 ?_
      refine q_bipush C 32 dL_doorWords_20 (by decide) ?_
      refine q_idiv C dL_doorWords_22 ⟨by omega, by omega⟩ ⟨by decide, by decide⟩ ?_
      refine q_iload_n C 1 dL_doorWords_23 rfl ?_
      refine q_icmp_ne C 31 dL_doorWords_24 ⟨by omega, by omega⟩ ⟨by omega, by omega⟩ (by decide) (fun h24 => ?_) (fun h24 => ?_)
      · refine q_iconst C 0 dL_doorWords_31 ?_
        refine q_iadd C dL_doorWords_32 ?_
        refine q_istore_n (lv' := [(2, .int (iI (m + 0))), (0, .ref (adr w a)), (1, .int (iI d)), (3, .int (iI i))]) C dL_doorWords_33 (by decide) rfl ?_
        refine q_iinc (lv' := [(3, .int (iI (i + 1))), (2, .int (iI (m + 0))), (0, .ref (adr w a)), (1, .int (iI d))]) C 3 dL_doorWords_34 rfl (by decide) rfl ?_
        refine q_goto C 4 dL_doorWords_37 (by decide) ?_
        refine q_lv (lv' := [(0, .ref (adr w a)), (1, .int (iI d)), (2, .int (iI (m + 0))), (3, .int (iI (i + 1)))]) [2, 3, 1, 0] rfl ?_
        exact ih4 (i + 1) (m + 0) (⟨by omega, by omega, by rw [sm_s hi0]; first | (rw [dF_1 (by omega)]; omega) | (rw [dF_0 (by omega)]; omega)⟩) (by omega)
      · refine q_iconst C 1 dL_doorWords_27 ?_
        refine q_goto C 32 dL_doorWords_28 (by decide) ?_
        refine q_iadd C dL_doorWords_32 ?_
        refine q_istore_n (lv' := [(2, .int (iI (m + 1))), (0, .ref (adr w a)), (1, .int (iI d)), (3, .int (iI i))]) C dL_doorWords_33 (by decide) rfl ?_
        refine q_iinc (lv' := [(3, .int (iI (i + 1))), (2, .int (iI (m + 1))), (0, .ref (adr w a)), (1, .int (iI d))]) C 3 dL_doorWords_34 rfl (by decide) rfl ?_
        refine q_goto C 4 dL_doorWords_37 (by decide) ?_
        refine q_lv (lv' := [(0, .ref (adr w a)), (1, .int (iI d)), (2, .int (iI (m + 1))), (3, .int (iI (i + 1)))]) [2, 3, 1, 0] rfl ?_
        exact ih4 (i + 1) (m + 1) (⟨by omega, by omega, by rw [sm_s hi0]; first | (rw [dF_1 (by omega)]; omega) | (rw [dF_0 (by omega)]; omega)⟩) (by omega)

set_option maxRecDepth 100000 in
set_option maxHeartbeats 4000000 in
theorem k_L_reason (l : Launch) {w : WP} {F : FF} {a : Nat} {r : Rw} (hLa : LwP w a 40) (hW : TW F a r) (hI : Iv r) {nn : Nat} (hLn : LwP w nn 14) (hN : TN F nn r) {x y p : Int} (hx : 0 ≤ x ∧ x < 40) (hy : 0 ≤ y ∧ y < 16) (hp : 0 ≤ p ∧ p ≤ r y) : Con l yL_reason cL_reason 9 (some .int) 2 w [.ref (adr w a), .ref (adr w nn), .int (iI x), .int (iI y), .int (iI p)] F (QI w (fun z F' => z = rea r x y p ∧ F = F')) := by
  refine Con.mk (lv := [(0, .ref (adr w a)), (1, .ref (adr w nn)), (2, .int (iI x)), (3, .int (iI y)), (4, .int (iI p))]) (by decide) (Nat.le_of_ble_eq_true rfl) rfl ?_
  intro pg ev s0 mi be me co C hz
  have hbt : bt x = x % 3 + 1 := rfl
  have hse := hI.se
  refine q_aload_n C 0 dL_reason_0 rfl ?_
  refine q_iload_n C 3 dL_reason_1 rfl ?_
  refine q_cI (q_runS (As := [.ref (adr w a), .int (iI y)]) (rest := []) C (k_L_many (F := F) (r := r) l hLa hW hI (y := y) ⟨by omega, by omega⟩) wd_350 wd_349 wd_12 wd_348 nd_L_many rfl (by decide) ⟨Nat.zero_le _, Nat.zero_le _⟩ rfl (Nat.le_of_ble_eq_true rfl) dL_reason_2) ?_
  rintro z F' ⟨rfl, rfl⟩
  have qs2 := hI.sz (l := y) (by omega) (by omega)
  refine q_istore (lv' := [(5, .int (iI (r y))), (0, .ref (adr w a)), (1, .ref (adr w nn)), (2, .int (iI x)), (3, .int (iI y)), (4, .int (iI p))]) C dL_reason_5 (by decide) rfl ?_
  refine q_iload C 0 dL_reason_7 rfl ?_
  refine q_bipush C 6 dL_reason_9 (by decide) ?_
  refine q_icmp_ne C 16 dL_reason_11 ⟨by omega, by omega⟩ ⟨by decide, by decide⟩ (by decide) (fun h11 => ?_) (fun h11 => ?_)
  · refine q_aload_n C 1 dL_reason_16 rfl ?_
    refine q_iload_n C 4 dL_reason_17 rfl ?_
    refine q_cI (q_runS (As := [.ref (adr w a), .int (iI y)]) (rest := []) C (k_L_beats (F := F) (r := r) l hLa hW hI (y := y) ⟨by omega, by omega⟩) wd_353 wd_352 wd_12 wd_351 nd_L_beats rfl (by decide) ⟨Nat.zero_le _, Nat.zero_le _⟩ rfl (Nat.le_of_ble_eq_true rfl) dL_reason_18) ?_
    rintro z F' ⟨rfl, rfl⟩
    have qb18 := bo_bounds (f := wa r y) (n := r y) (hI.sz (l := y) (by omega) (by omega)).1 (fun p a b => (hI.wd (l := y) (by omega) (by omega) a b).1)
    have qs18 := hI.sz (l := y) (by omega) (by omega)
    refine q_iload_n C 3 dL_reason_21 rfl ?_
    refine q_iconst C 3 dL_reason_22 ?_
    refine q_irem C dL_reason_23 ⟨by omega, by omega⟩ ⟨by decide, by decide⟩ ?_
    refine q_iadd C dL_reason_24 ?_
    refine q_iconst C 1 dL_reason_25 ?_
    refine q_iadd C dL_reason_26 ?_
    refine q_bipush C 12 dL_reason_27 (by decide) ?_
    refine q_icmp_le C 34 dL_reason_29 ⟨by omega, by omega⟩ ⟨by decide, by decide⟩ (by decide) (fun h29 => ?_) (fun h29 => ?_)
    · refine q_iconst C (-1) dL_reason_34 ?_
      refine q_istore (lv' := [(6, .int (iI (-1))), (5, .int (iI (r y))), (0, .ref (adr w a)), (1, .ref (adr w nn)), (2, .int (iI x)), (3, .int (iI y)), (4, .int (iI p))]) C dL_reason_35 (by decide) rfl ?_
      refine q_iconst C 0 dL_reason_37 ?_
      refine q_istore (lv' := [(7, .int (iI 0)), (6, .int (iI (-1))), (5, .int (iI (r y))), (0, .ref (adr w a)), (1, .ref (adr w nn)), (2, .int (iI x)), (3, .int (iI y)), (4, .int (iI p))]) C dL_reason_38 (by decide) rfl ?_
      refine q_lv (lv' := [(0, .ref (adr w a)), (1, .ref (adr w nn)), (2, .int (iI x)), (3, .int (iI y)), (4, .int (iI p)), (5, .int (iI (r y))), (6, .int (iI (-1))), (7, .int (iI 0))]) [3, 4, 5, 6, 7, 2, 1, 0] rfl ?_
      refine wf2 (P := fun (k : Int) (ah : Int) => Wq pg l ev _ s0 mi _ be me co _ w _ _ _ 40 [(0, .ref (adr w a)), (1, .ref (adr w nn)), (2, .int (iI x)), (3, .int (iI y)), (4, .int (iI p)), (5, .int (iI (r y))), (6, .int (iI ah)), (7, .int (iI k))] [] F) (I := fun (k : Int) (ah : Int) => 0 ≤ k ∧ k ≤ r y + 1 ∧ (k = 0 ∨ ah = ww r x y p (k - 1)) ∧ an (fun j => clb (ww r x y p j) (ww r x y p (j + 1))) (k - 1) = false) (μ := fun (k : Int) (ah : Int) => (r y + 1 - k).toNat) ?_ 0 (-1) (⟨by omega, by omega, Or.inl rfl, rfl⟩)
      intro k ah hI' ih40
      (try dsimp only at hI'); (try dsimp only at ih40); (try dsimp only)
      obtain ⟨hi0, hi1, hA, hAn⟩ := hI'
      have hah : k = 0 ∨ (0 ≤ ah ∧ ah < 40) := by
        rcases (show k = 0 ∨ 0 < k by omega) with q | q
        · exact Or.inl q
        · right; rw [hA.resolve_left (by omega)]; exact ww_range hI hx hy hp (by omega) (by omega)
      refine q_iload C 7 dL_reason_40 rfl ?_
      refine q_iload C 5 dL_reason_42 rfl ?_
      refine q_icmp_gt C 122 dL_reason_44 ⟨by omega, by omega⟩ ⟨by omega, by omega⟩ (by decide) (fun h44 => ?_) (fun h44 => ?_)
      · refine q_aload_n C 1 dL_reason_122 rfl ?_
        refine q_iconst C 0 dL_reason_123 ?_
        refine q_iald9 C hLn ⟨by omega, by omega⟩ dL_reason_124 ?_
        rw [show F nn 0 = r 176 from hN.1.1]
        refine q_iconst C 1 dL_reason_125 ?_
        refine q_icmp_ne C 152 dL_reason_126 ⟨by omega, by omega⟩ ⟨by decide, by decide⟩ (by decide) (fun h126 => ?_) (fun h126 => ?_)
        · refine q_iconst C 0 dL_reason_152 ?_
          refine q_iret C dL_reason_153 ?_
          exact ⟨(rea_n (by omega) (by omega) (by rw [show r y = k - 1 by omega]; exact hAn) (by show _ ∨ _; unfold kn; omega)).symm, rfl⟩
        · refine q_iload_n C 2 dL_reason_129 rfl ?_
          refine q_iconst C 4 dL_reason_130 ?_
          refine q_irem C dL_reason_131 ⟨by omega, by omega⟩ ⟨by decide, by decide⟩ ?_
          refine q_iconst C 3 dL_reason_132 ?_
          refine q_icmp_ne C 152 dL_reason_133 ⟨by omega, by omega⟩ ⟨by decide, by decide⟩ (by decide) (fun h133 => ?_) (fun h133 => ?_)
          · refine q_iconst C 0 dL_reason_152 ?_
            refine q_iret C dL_reason_153 ?_
            exact ⟨(rea_n (by omega) (by omega) (by rw [show r y = k - 1 by omega]; exact hAn) (by show _ ∨ _; unfold kn; omega)).symm, rfl⟩
          · refine q_iload C 4 dL_reason_136 rfl ?_
            refine q_if_eq C 148 dL_reason_138 ⟨by omega, by omega⟩  (by decide) (fun h138 => ?_) (fun h138 => ?_)
            · refine q_iconst C 4 dL_reason_148 ?_
              refine q_goto C 153 dL_reason_149 (by decide) ?_
              refine q_iret C dL_reason_153 ?_
              exact ⟨(rea_n (by omega) (by omega) (by rw [show r y = k - 1 by omega]; exact hAn) (by show _ ∨ _; unfold kn; omega)).symm, rfl⟩
            · refine q_iload C 4 dL_reason_141 rfl ?_
              refine q_iload C 5 dL_reason_143 rfl ?_
              refine q_icmp_ne C 152 dL_reason_145 ⟨by omega, by omega⟩ ⟨by omega, by omega⟩ (by decide) (fun h145 => ?_) (fun h145 => ?_)
              · refine q_iconst C 0 dL_reason_152 ?_
                refine q_iret C dL_reason_153 ?_
                exact ⟨(rea_n (by omega) (by omega) (by rw [show r y = k - 1 by omega]; exact hAn) (by show _ ∨ _; unfold kn; omega)).symm, rfl⟩
              · refine q_iconst C 4 dL_reason_148 ?_
                refine q_goto C 153 dL_reason_149 (by decide) ?_
                refine q_iret C dL_reason_153 ?_
                exact ⟨(rea_n (by omega) (by omega) (by rw [show r y = k - 1 by omega]; exact hAn) (by show _ ∨ _; unfold kn; omega)).symm, rfl⟩
      · refine q_iload C 7 dL_reason_47 rfl ?_
        refine q_iload C 4 dL_reason_49 rfl ?_
        refine q_icmp_ge C 64 dL_reason_51 ⟨by omega, by omega⟩ ⟨by omega, by omega⟩ (by decide) (fun h51 => ?_) (fun h51 => ?_)
        · refine q_iload C 7 dL_reason_64 rfl ?_
          refine q_iload C 4 dL_reason_66 rfl ?_
          refine q_icmp_ne C 75 dL_reason_68 ⟨by omega, by omega⟩ ⟨by omega, by omega⟩ (by decide) (fun h68 => ?_) (fun h68 => ?_)
          · refine q_aload_n C 0 dL_reason_75 rfl ?_
            refine q_iload_n C 3 dL_reason_76 rfl ?_
            refine q_iload C 7 dL_reason_77 rfl ?_
            refine q_iconst C 1 dL_reason_79 ?_
            refine q_isub C dL_reason_80 ?_
            refine q_cI (q_runS (As := [.ref (adr w a), .int (iI y), .int (iI (k - 1))]) (rest := []) C (k_L_wordAt (F := F) (r := r) l hLa hW hI (y := y) (p := k - 1) ⟨by omega, by omega⟩ ⟨by omega, by omega⟩) wd_291 wd_290 wd_12 wd_289 nd_L_wordAt rfl (by decide) ⟨Nat.zero_le _, Nat.zero_le _⟩ rfl (Nat.le_of_ble_eq_true rfl) dL_reason_81) ?_
            rintro z F' ⟨rfl, rfl⟩
            have qw81 := W0_range (l := y) (p := k - 1) hI (by omega) (by omega)
            refine q_top (z' := ww r x y p k) (by unfold ww; first | (rw [if_pos (by omega), W0_in (by omega)]; done) | (rw [if_neg (by omega), if_pos (by omega)]; done) | (rw [if_neg (by omega), if_neg (by omega), W0_in (by omega)])) ?_
            refine q_istore (lv' := [(8, .int (iI (ww r x y p k))), (0, .ref (adr w a)), (1, .ref (adr w nn)), (2, .int (iI x)), (3, .int (iI y)), (4, .int (iI p)), (5, .int (iI (r y))), (6, .int (iI ah)), (7, .int (iI k))]) C dL_reason_84 (by decide) rfl ?_
            have hww := ww_range (k := k) hI hx hy hp (by omega) (by omega)
            refine q_iload C 8 dL_reason_86 rfl ?_
            refine q_if_le C 112 dL_reason_88 ⟨by omega, by omega⟩  (by decide) (fun h88 => ?_) (fun h88 => ?_)
            · refine q_iload C 0 dL_reason_112 rfl ?_
              refine q_istore (lv' := [(6, .int (iI (ww r x y p k))), (8, .int (iI (ww r x y p k))), (0, .ref (adr w a)), (1, .ref (adr w nn)), (2, .int (iI x)), (3, .int (iI y)), (4, .int (iI p)), (5, .int (iI (r y))), (7, .int (iI k))]) C dL_reason_114 (by decide) rfl ?_
              refine q_iinc (lv' := [(7, .int (iI (k + 1))), (6, .int (iI (ww r x y p k))), (8, .int (iI (ww r x y p k))), (0, .ref (adr w a)), (1, .ref (adr w nn)), (2, .int (iI x)), (3, .int (iI y)), (4, .int (iI p)), (5, .int (iI (r y)))]) C 8 dL_reason_116 rfl (by decide) rfl ?_
              refine q_goto C 40 dL_reason_119 (by decide) ?_
              refine q_lv (lv' := [(0, .ref (adr w a)), (1, .ref (adr w nn)), (2, .int (iI x)), (3, .int (iI y)), (4, .int (iI p)), (5, .int (iI (r y))), (6, .int (iI (ww r x y p k))), (7, .int (iI (k + 1)))]) [3, 4, 5, 6, 7, 8, 1, 0] rfl ?_
              exact ih40 (k + 1) (ww r x y p k) (⟨by omega, by omega, Or.inr (by rw [show k + 1 - 1 = k by omega]), an_st hi0 hAn (by first | exact Or.inl (by omega) | (right; refine clb_no ?_; rw [show k - 1 + 1 = k by omega, ← hA.resolve_left (by omega)]; omega))⟩) (by omega)
            · refine q_iload C 0 dL_reason_91 rfl ?_
              refine q_iconst C 4 dL_reason_93 ?_
              refine q_irem C dL_reason_94 ⟨by omega, by omega⟩ ⟨by decide, by decide⟩ ?_
              refine q_iconst C 2 dL_reason_95 ?_
              refine q_icmp_eq C 112 dL_reason_96 ⟨by omega, by omega⟩ ⟨by decide, by decide⟩ (by decide) (fun h96 => ?_) (fun h96 => ?_)
              · refine q_iload C 0 dL_reason_112 rfl ?_
                refine q_istore (lv' := [(6, .int (iI (ww r x y p k))), (8, .int (iI (ww r x y p k))), (0, .ref (adr w a)), (1, .ref (adr w nn)), (2, .int (iI x)), (3, .int (iI y)), (4, .int (iI p)), (5, .int (iI (r y))), (7, .int (iI k))]) C dL_reason_114 (by decide) rfl ?_
                refine q_iinc (lv' := [(7, .int (iI (k + 1))), (6, .int (iI (ww r x y p k))), (8, .int (iI (ww r x y p k))), (0, .ref (adr w a)), (1, .ref (adr w nn)), (2, .int (iI x)), (3, .int (iI y)), (4, .int (iI p)), (5, .int (iI (r y)))]) C 8 dL_reason_116 rfl (by decide) rfl ?_
                refine q_goto C 40 dL_reason_119 (by decide) ?_
                refine q_lv (lv' := [(0, .ref (adr w a)), (1, .ref (adr w nn)), (2, .int (iI x)), (3, .int (iI y)), (4, .int (iI p)), (5, .int (iI (r y))), (6, .int (iI (ww r x y p k))), (7, .int (iI (k + 1)))]) [3, 4, 5, 6, 7, 8, 1, 0] rfl ?_
                exact ih40 (k + 1) (ww r x y p k) (⟨by omega, by omega, Or.inr (by rw [show k + 1 - 1 = k by omega]), an_st hi0 hAn (by first | exact Or.inl (by omega) | (right; refine clb_no ?_; rw [show k - 1 + 1 = k by omega, ← hA.resolve_left (by omega)]; omega))⟩) (by omega)
              · refine q_iload C 0 dL_reason_99 rfl ?_
                refine q_iconst C 4 dL_reason_101 ?_
                refine q_irem C dL_reason_102 ⟨by omega, by omega⟩ ⟨by decide, by decide⟩ ?_
                refine q_iload C 7 dL_reason_103 rfl ?_
                refine q_iconst C 4 dL_reason_105 ?_
                refine q_irem C dL_reason_106 ⟨by omega, by omega⟩ ⟨by decide, by decide⟩ ?_
                refine q_icmp_ne C 112 dL_reason_107 ⟨by omega, by omega⟩ ⟨by omega, by omega⟩ (by decide) (fun h107 => ?_) (fun h107 => ?_)
                · refine q_iload C 0 dL_reason_112 rfl ?_
                  refine q_istore (lv' := [(6, .int (iI (ww r x y p k))), (8, .int (iI (ww r x y p k))), (0, .ref (adr w a)), (1, .ref (adr w nn)), (2, .int (iI x)), (3, .int (iI y)), (4, .int (iI p)), (5, .int (iI (r y))), (7, .int (iI k))]) C dL_reason_114 (by decide) rfl ?_
                  refine q_iinc (lv' := [(7, .int (iI (k + 1))), (6, .int (iI (ww r x y p k))), (8, .int (iI (ww r x y p k))), (0, .ref (adr w a)), (1, .ref (adr w nn)), (2, .int (iI x)), (3, .int (iI y)), (4, .int (iI p)), (5, .int (iI (r y)))]) C 8 dL_reason_116 rfl (by decide) rfl ?_
                  refine q_goto C 40 dL_reason_119 (by decide) ?_
                  refine q_lv (lv' := [(0, .ref (adr w a)), (1, .ref (adr w nn)), (2, .int (iI x)), (3, .int (iI y)), (4, .int (iI p)), (5, .int (iI (r y))), (6, .int (iI (ww r x y p k))), (7, .int (iI (k + 1)))]) [3, 4, 5, 6, 7, 8, 1, 0] rfl ?_
                  exact ih40 (k + 1) (ww r x y p k) (⟨by omega, by omega, Or.inr (by rw [show k + 1 - 1 = k by omega]), an_st hi0 hAn (by first | exact Or.inl (by omega) | (right; refine clb_no ?_; rw [show k - 1 + 1 = k by omega, ← hA.resolve_left (by omega)]; omega))⟩) (by omega)
                · refine q_iconst C 3 dL_reason_110 ?_
                  refine q_iret C dL_reason_111 ?_
                  exact ⟨(rea_3 (k := k) (by omega) (by omega) (by omega) (by omega) (by have e := hA.resolve_left (by omega); show ww r x y p (k - 1) % 4 = ww r x y p k % 4; rw [← e]; omega) (by show ¬ ww r x y p k % 4 = 2; omega)).symm, rfl⟩
          · refine q_iload_n C 2 dL_reason_71 rfl ?_
            refine q_goto C 84 dL_reason_72 (by decide) ?_
            refine q_top (z' := ww r x y p k) (by unfold ww; first | (rw [if_pos (by omega), W0_in (by omega)]; done) | (rw [if_neg (by omega), if_pos (by omega)]; done) | (rw [if_neg (by omega), if_neg (by omega), W0_in (by omega)])) ?_
            refine q_istore (lv' := [(8, .int (iI (ww r x y p k))), (0, .ref (adr w a)), (1, .ref (adr w nn)), (2, .int (iI x)), (3, .int (iI y)), (4, .int (iI p)), (5, .int (iI (r y))), (6, .int (iI ah)), (7, .int (iI k))]) C dL_reason_84 (by decide) rfl ?_
            have hww := ww_range (k := k) hI hx hy hp (by omega) (by omega)
            refine q_iload C 8 dL_reason_86 rfl ?_
            refine q_if_le C 112 dL_reason_88 ⟨by omega, by omega⟩  (by decide) (fun h88 => ?_) (fun h88 => ?_)
            · refine q_iload C 0 dL_reason_112 rfl ?_
              refine q_istore (lv' := [(6, .int (iI (ww r x y p k))), (8, .int (iI (ww r x y p k))), (0, .ref (adr w a)), (1, .ref (adr w nn)), (2, .int (iI x)), (3, .int (iI y)), (4, .int (iI p)), (5, .int (iI (r y))), (7, .int (iI k))]) C dL_reason_114 (by decide) rfl ?_
              refine q_iinc (lv' := [(7, .int (iI (k + 1))), (6, .int (iI (ww r x y p k))), (8, .int (iI (ww r x y p k))), (0, .ref (adr w a)), (1, .ref (adr w nn)), (2, .int (iI x)), (3, .int (iI y)), (4, .int (iI p)), (5, .int (iI (r y)))]) C 8 dL_reason_116 rfl (by decide) rfl ?_
              refine q_goto C 40 dL_reason_119 (by decide) ?_
              refine q_lv (lv' := [(0, .ref (adr w a)), (1, .ref (adr w nn)), (2, .int (iI x)), (3, .int (iI y)), (4, .int (iI p)), (5, .int (iI (r y))), (6, .int (iI (ww r x y p k))), (7, .int (iI (k + 1)))]) [3, 4, 5, 6, 7, 8, 1, 0] rfl ?_
              exact ih40 (k + 1) (ww r x y p k) (⟨by omega, by omega, Or.inr (by rw [show k + 1 - 1 = k by omega]), an_st hi0 hAn (by first | exact Or.inl (by omega) | (right; refine clb_no ?_; rw [show k - 1 + 1 = k by omega, ← hA.resolve_left (by omega)]; omega))⟩) (by omega)
            · refine q_iload C 0 dL_reason_91 rfl ?_
              refine q_iconst C 4 dL_reason_93 ?_
              refine q_irem C dL_reason_94 ⟨by omega, by omega⟩ ⟨by decide, by decide⟩ ?_
              refine q_iconst C 2 dL_reason_95 ?_
              refine q_icmp_eq C 112 dL_reason_96 ⟨by omega, by omega⟩ ⟨by decide, by decide⟩ (by decide) (fun h96 => ?_) (fun h96 => ?_)
              · refine q_iload C 0 dL_reason_112 rfl ?_
                refine q_istore (lv' := [(6, .int (iI (ww r x y p k))), (8, .int (iI (ww r x y p k))), (0, .ref (adr w a)), (1, .ref (adr w nn)), (2, .int (iI x)), (3, .int (iI y)), (4, .int (iI p)), (5, .int (iI (r y))), (7, .int (iI k))]) C dL_reason_114 (by decide) rfl ?_
                refine q_iinc (lv' := [(7, .int (iI (k + 1))), (6, .int (iI (ww r x y p k))), (8, .int (iI (ww r x y p k))), (0, .ref (adr w a)), (1, .ref (adr w nn)), (2, .int (iI x)), (3, .int (iI y)), (4, .int (iI p)), (5, .int (iI (r y)))]) C 8 dL_reason_116 rfl (by decide) rfl ?_
                refine q_goto C 40 dL_reason_119 (by decide) ?_
                refine q_lv (lv' := [(0, .ref (adr w a)), (1, .ref (adr w nn)), (2, .int (iI x)), (3, .int (iI y)), (4, .int (iI p)), (5, .int (iI (r y))), (6, .int (iI (ww r x y p k))), (7, .int (iI (k + 1)))]) [3, 4, 5, 6, 7, 8, 1, 0] rfl ?_
                exact ih40 (k + 1) (ww r x y p k) (⟨by omega, by omega, Or.inr (by rw [show k + 1 - 1 = k by omega]), an_st hi0 hAn (by first | exact Or.inl (by omega) | (right; refine clb_no ?_; rw [show k - 1 + 1 = k by omega, ← hA.resolve_left (by omega)]; omega))⟩) (by omega)
              · refine q_iload C 0 dL_reason_99 rfl ?_
                refine q_iconst C 4 dL_reason_101 ?_
                refine q_irem C dL_reason_102 ⟨by omega, by omega⟩ ⟨by decide, by decide⟩ ?_
                refine q_iload C 7 dL_reason_103 rfl ?_
                refine q_iconst C 4 dL_reason_105 ?_
                refine q_irem C dL_reason_106 ⟨by omega, by omega⟩ ⟨by decide, by decide⟩ ?_
                refine q_icmp_ne C 112 dL_reason_107 ⟨by omega, by omega⟩ ⟨by omega, by omega⟩ (by decide) (fun h107 => ?_) (fun h107 => ?_)
                · refine q_iload C 0 dL_reason_112 rfl ?_
                  refine q_istore (lv' := [(6, .int (iI (ww r x y p k))), (8, .int (iI (ww r x y p k))), (0, .ref (adr w a)), (1, .ref (adr w nn)), (2, .int (iI x)), (3, .int (iI y)), (4, .int (iI p)), (5, .int (iI (r y))), (7, .int (iI k))]) C dL_reason_114 (by decide) rfl ?_
                  refine q_iinc (lv' := [(7, .int (iI (k + 1))), (6, .int (iI (ww r x y p k))), (8, .int (iI (ww r x y p k))), (0, .ref (adr w a)), (1, .ref (adr w nn)), (2, .int (iI x)), (3, .int (iI y)), (4, .int (iI p)), (5, .int (iI (r y)))]) C 8 dL_reason_116 rfl (by decide) rfl ?_
                  refine q_goto C 40 dL_reason_119 (by decide) ?_
                  refine q_lv (lv' := [(0, .ref (adr w a)), (1, .ref (adr w nn)), (2, .int (iI x)), (3, .int (iI y)), (4, .int (iI p)), (5, .int (iI (r y))), (6, .int (iI (ww r x y p k))), (7, .int (iI (k + 1)))]) [3, 4, 5, 6, 7, 8, 1, 0] rfl ?_
                  exact ih40 (k + 1) (ww r x y p k) (⟨by omega, by omega, Or.inr (by rw [show k + 1 - 1 = k by omega]), an_st hi0 hAn (by first | exact Or.inl (by omega) | (right; refine clb_no ?_; rw [show k - 1 + 1 = k by omega, ← hA.resolve_left (by omega)]; omega))⟩) (by omega)
                · refine q_iconst C 3 dL_reason_110 ?_
                  refine q_iret C dL_reason_111 ?_
                  exact ⟨(rea_3 (k := k) (by omega) (by omega) (by omega) (by omega) (by have e := hA.resolve_left (by omega); show ww r x y p (k - 1) % 4 = ww r x y p k % 4; rw [← e]; omega) (by show ¬ ww r x y p k % 4 = 2; omega)).symm, rfl⟩
        · refine q_aload_n C 0 dL_reason_54 rfl ?_
          refine q_iload_n C 3 dL_reason_55 rfl ?_
          refine q_iload C 7 dL_reason_56 rfl ?_
          refine q_cI (q_runS (As := [.ref (adr w a), .int (iI y), .int (iI k)]) (rest := []) C (k_L_wordAt (F := F) (r := r) l hLa hW hI (y := y) (p := k) ⟨by omega, by omega⟩ ⟨by omega, by omega⟩) wd_291 wd_290 wd_12 wd_289 nd_L_wordAt rfl (by decide) ⟨Nat.zero_le _, Nat.zero_le _⟩ rfl (Nat.le_of_ble_eq_true rfl) dL_reason_58) ?_
          rintro z F' ⟨rfl, rfl⟩
          have qw58 := W0_range (l := y) (p := k) hI (by omega) (by omega)
          refine q_goto C 84 dL_reason_61 (by decide) ?_
          refine q_top (z' := ww r x y p k) (by unfold ww; first | (rw [if_pos (by omega), W0_in (by omega)]; done) | (rw [if_neg (by omega), if_pos (by omega)]; done) | (rw [if_neg (by omega), if_neg (by omega), W0_in (by omega)])) ?_
          refine q_istore (lv' := [(8, .int (iI (ww r x y p k))), (0, .ref (adr w a)), (1, .ref (adr w nn)), (2, .int (iI x)), (3, .int (iI y)), (4, .int (iI p)), (5, .int (iI (r y))), (6, .int (iI ah)), (7, .int (iI k))]) C dL_reason_84 (by decide) rfl ?_
          have hww := ww_range (k := k) hI hx hy hp (by omega) (by omega)
          refine q_iload C 8 dL_reason_86 rfl ?_
          refine q_if_le C 112 dL_reason_88 ⟨by omega, by omega⟩  (by decide) (fun h88 => ?_) (fun h88 => ?_)
          · refine q_iload C 0 dL_reason_112 rfl ?_
            refine q_istore (lv' := [(6, .int (iI (ww r x y p k))), (8, .int (iI (ww r x y p k))), (0, .ref (adr w a)), (1, .ref (adr w nn)), (2, .int (iI x)), (3, .int (iI y)), (4, .int (iI p)), (5, .int (iI (r y))), (7, .int (iI k))]) C dL_reason_114 (by decide) rfl ?_
            refine q_iinc (lv' := [(7, .int (iI (k + 1))), (6, .int (iI (ww r x y p k))), (8, .int (iI (ww r x y p k))), (0, .ref (adr w a)), (1, .ref (adr w nn)), (2, .int (iI x)), (3, .int (iI y)), (4, .int (iI p)), (5, .int (iI (r y)))]) C 8 dL_reason_116 rfl (by decide) rfl ?_
            refine q_goto C 40 dL_reason_119 (by decide) ?_
            refine q_lv (lv' := [(0, .ref (adr w a)), (1, .ref (adr w nn)), (2, .int (iI x)), (3, .int (iI y)), (4, .int (iI p)), (5, .int (iI (r y))), (6, .int (iI (ww r x y p k))), (7, .int (iI (k + 1)))]) [3, 4, 5, 6, 7, 8, 1, 0] rfl ?_
            exact ih40 (k + 1) (ww r x y p k) (⟨by omega, by omega, Or.inr (by rw [show k + 1 - 1 = k by omega]), an_st hi0 hAn (by first | exact Or.inl (by omega) | (right; refine clb_no ?_; rw [show k - 1 + 1 = k by omega, ← hA.resolve_left (by omega)]; omega))⟩) (by omega)
          · refine q_iload C 0 dL_reason_91 rfl ?_
            refine q_iconst C 4 dL_reason_93 ?_
            refine q_irem C dL_reason_94 ⟨by omega, by omega⟩ ⟨by decide, by decide⟩ ?_
            refine q_iconst C 2 dL_reason_95 ?_
            refine q_icmp_eq C 112 dL_reason_96 ⟨by omega, by omega⟩ ⟨by decide, by decide⟩ (by decide) (fun h96 => ?_) (fun h96 => ?_)
            · refine q_iload C 0 dL_reason_112 rfl ?_
              refine q_istore (lv' := [(6, .int (iI (ww r x y p k))), (8, .int (iI (ww r x y p k))), (0, .ref (adr w a)), (1, .ref (adr w nn)), (2, .int (iI x)), (3, .int (iI y)), (4, .int (iI p)), (5, .int (iI (r y))), (7, .int (iI k))]) C dL_reason_114 (by decide) rfl ?_
              refine q_iinc (lv' := [(7, .int (iI (k + 1))), (6, .int (iI (ww r x y p k))), (8, .int (iI (ww r x y p k))), (0, .ref (adr w a)), (1, .ref (adr w nn)), (2, .int (iI x)), (3, .int (iI y)), (4, .int (iI p)), (5, .int (iI (r y)))]) C 8 dL_reason_116 rfl (by decide) rfl ?_
              refine q_goto C 40 dL_reason_119 (by decide) ?_
              refine q_lv (lv' := [(0, .ref (adr w a)), (1, .ref (adr w nn)), (2, .int (iI x)), (3, .int (iI y)), (4, .int (iI p)), (5, .int (iI (r y))), (6, .int (iI (ww r x y p k))), (7, .int (iI (k + 1)))]) [3, 4, 5, 6, 7, 8, 1, 0] rfl ?_
              exact ih40 (k + 1) (ww r x y p k) (⟨by omega, by omega, Or.inr (by rw [show k + 1 - 1 = k by omega]), an_st hi0 hAn (by first | exact Or.inl (by omega) | (right; refine clb_no ?_; rw [show k - 1 + 1 = k by omega, ← hA.resolve_left (by omega)]; omega))⟩) (by omega)
            · refine q_iload C 0 dL_reason_99 rfl ?_
              refine q_iconst C 4 dL_reason_101 ?_
              refine q_irem C dL_reason_102 ⟨by omega, by omega⟩ ⟨by decide, by decide⟩ ?_
              refine q_iload C 7 dL_reason_103 rfl ?_
              refine q_iconst C 4 dL_reason_105 ?_
              refine q_irem C dL_reason_106 ⟨by omega, by omega⟩ ⟨by decide, by decide⟩ ?_
              refine q_icmp_ne C 112 dL_reason_107 ⟨by omega, by omega⟩ ⟨by omega, by omega⟩ (by decide) (fun h107 => ?_) (fun h107 => ?_)
              · refine q_iload C 0 dL_reason_112 rfl ?_
                refine q_istore (lv' := [(6, .int (iI (ww r x y p k))), (8, .int (iI (ww r x y p k))), (0, .ref (adr w a)), (1, .ref (adr w nn)), (2, .int (iI x)), (3, .int (iI y)), (4, .int (iI p)), (5, .int (iI (r y))), (7, .int (iI k))]) C dL_reason_114 (by decide) rfl ?_
                refine q_iinc (lv' := [(7, .int (iI (k + 1))), (6, .int (iI (ww r x y p k))), (8, .int (iI (ww r x y p k))), (0, .ref (adr w a)), (1, .ref (adr w nn)), (2, .int (iI x)), (3, .int (iI y)), (4, .int (iI p)), (5, .int (iI (r y)))]) C 8 dL_reason_116 rfl (by decide) rfl ?_
                refine q_goto C 40 dL_reason_119 (by decide) ?_
                refine q_lv (lv' := [(0, .ref (adr w a)), (1, .ref (adr w nn)), (2, .int (iI x)), (3, .int (iI y)), (4, .int (iI p)), (5, .int (iI (r y))), (6, .int (iI (ww r x y p k))), (7, .int (iI (k + 1)))]) [3, 4, 5, 6, 7, 8, 1, 0] rfl ?_
                exact ih40 (k + 1) (ww r x y p k) (⟨by omega, by omega, Or.inr (by rw [show k + 1 - 1 = k by omega]), an_st hi0 hAn (by first | exact Or.inl (by omega) | (right; refine clb_no ?_; rw [show k - 1 + 1 = k by omega, ← hA.resolve_left (by omega)]; omega))⟩) (by omega)
              · refine q_iconst C 3 dL_reason_110 ?_
                refine q_iret C dL_reason_111 ?_
                exact ⟨(rea_3 (k := k) (by omega) (by omega) (by omega) (by omega) (by have e := hA.resolve_left (by omega); show ww r x y p (k - 1) % 4 = ww r x y p k % 4; rw [← e]; omega) (by show ¬ ww r x y p k % 4 = 2; omega)).symm, rfl⟩
    · refine q_iconst C 2 dL_reason_32 ?_
      refine q_iret C dL_reason_33 ?_
      exact ⟨(rea_2 (by omega) (by omega)).symm, rfl⟩
  · refine q_iconst C 1 dL_reason_14 ?_
    refine q_iret C dL_reason_15 ?_
    exact ⟨(rea_1 (by omega)).symm, rfl⟩

set_option maxRecDepth 100000 in
set_option maxHeartbeats 4000000 in
theorem k_L_told (l : Launch) {w : WP} {F : FF} {y : Int} (hy : -1 ≤ y ∧ y < 16) : Con l yL_told cL_told 1 (some .int) 0 w [.int (iI y)] F (QI w (fun z F' => z = lc y ∧ F = F')) := by
  refine Con.mk (lv := [(0, .int (iI y))]) (by decide) (Nat.le_of_ble_eq_true rfl) rfl ?_
  intro pg ev s0 mi be me co C hz
  refine q_iload_n C 0 dL_told_0 rfl ?_
  refine q_if_ge C 8 dL_told_1 ⟨by omega, by omega⟩  (by decide) (fun h1 => ?_) (fun h1 => ?_)
  · refine q_bipush C 10 dL_told_8 (by decide) ?_
    refine q_iload_n C 0 dL_told_10 rfl ?_
    refine q_iconst C 4 dL_told_11 ?_
    refine q_idiv C dL_told_12 ⟨by omega, by omega⟩ ⟨by decide, by decide⟩ ?_
    refine q_imul C dL_told_13 ?_
    refine q_iload_n C 0 dL_told_14 rfl ?_
    refine q_iconst C 4 dL_told_15 ?_
    refine q_irem C dL_told_16 ⟨by omega, by omega⟩ ⟨by decide, by decide⟩ ?_
    refine q_iadd C dL_told_17 ?_
    refine q_iret C dL_told_18 ?_
    exact ⟨by unfold lc; first | rw [if_pos (by omega)] | rw [if_neg (by omega)], rfl⟩
  · refine q_iconst C (-1) dL_told_4 ?_
    refine q_goto C 18 dL_told_5 (by decide) ?_
    refine q_iret C dL_told_18 ?_
    exact ⟨by unfold lc; first | rw [if_pos (by omega)] | rw [if_neg (by omega)], rfl⟩

set_option maxRecDepth 100000 in
set_option maxHeartbeats 4000000 in
theorem k_L_low (l : Launch) {w : WP} {F : FF} {x n : Int} (hn : 0 < n ∧ n ≤ 2147483647) : Con l yL_low cL_low 2 (some .int) 0 w [.int (iI x), .int (iI n)] F (QI w (fun z F' => z = lo x n ∧ F = F')) := by
  refine Con.mk (lv := [(0, .int (iI x)), (1, .int (iI n))]) (by decide) (Nat.le_of_ble_eq_true rfl) rfl ?_
  intro pg ev s0 mi be me co C hz
  refine q_iload_n C 0 dL_low_0 rfl ?_
  refine q_ldc C 2147483647 rfl wd_164 dL_low_1 ?_
  refine q_iand C (m31 x) (m31_e x) dL_low_3 ?_
  have qm := m31_range x
  refine q_iload_n C 1 dL_low_4 rfl ?_
  refine q_irem C dL_low_5 ⟨by omega, by omega⟩ ⟨by omega, by omega⟩ ?_
  refine q_iret C dL_low_6 ?_
  exact ⟨rfl, rfl⟩
