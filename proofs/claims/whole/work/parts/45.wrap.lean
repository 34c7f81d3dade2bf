/-! the law's own methods: a call, and what was thrown -/
theorem kd120 : kd 120 = 8 := rfl
theorem ln120 : ln 120 = 1 := rfl
def FrL (F F' : FF) : Prop := ∀ k, 110 ≤ k → k ≠ 120 → F' k = F k
set_option maxRecDepth 100000 in
set_option maxHeartbeats 4000000 in
theorem k_L_put (l : Launch) (hl : l.stackTraces = false) {w : WP} {F : FF} {A : AS} {x d y p : Int} (hA : CI F A) (hx : inR x) (hd : inR d) (hy : inR y) (hp : inR p) : ConW l yL_put cL_put 7 (some .int) [(0, 14, 17, 13), (0, 14, 21, 15)] 7 w [.ref (adr w 0), .int (iI x), .int (iI d), .int (iI y), .int (iI p), .ref (adr w 120)] F (QI w (fun z F' => z = putT A x d y p ∧ (putT A x d y p = 0 ∧ F' 120 0 = wI (putZ A x d y p) ∧ CI F' (putN A x d y p) ∨ putT A x d y p ≠ 0 ∧ CI F' A) ∧ FrL F F')) := by
  refine ConW.mk (lv := [(0, .ref (adr w 0)), (1, .int (iI x)), (2, .int (iI d)), (3, .int (iI y)), (4, .int (iI p)), (5, .ref (adr w 120))]) (by decide) (Nat.le_of_ble_eq_true rfl) rfl ?_
  intro pg ev s0 mi be me co C htab hz
  refine q_aload C 5 dL_put_0 rfl ?_
  refine q_iconst C 0 dL_put_2 ?_
  refine q_aload_n C 0 dL_put_3 rfl ?_
  refine q_iload_n C 1 dL_put_4 rfl ?_
  refine q_iload_n C 2 dL_put_5 rfl ?_
  refine q_iload_n C 3 dL_put_6 rfl ?_
  refine q_iload C 4 dL_put_7 rfl ?_
  refine q_cIX C htab (q_runX (As := [.int (iI x), .int (iI d), .int (iI y), .int (iI p)]) (rest := [.int (iI 0), .ref (adr w 120)]) C (k_X3_put l hl hA hx hd hy hp) kd0 (by decide) rfl wd_471 wd_469 wd_470 wd_77 wd_468 nd_X3_put rfl (by decide) ⟨Nat.le_refl _, Nat.le_refl _⟩ rfl (Nat.le_of_ble_eq_true rfl) dL_put_9) (fun z F1 hp => ?_) (fun E F1 q9 hX => ?_)
  · obtain ⟨hT, hz1, hJ⟩ := hp
    subst hz1
    refine q_i2l C dL_put_12 ?_
    refine q_last (z := wI (putZ A x d y p)) C kd120 ⟨by decide, by rw [ln120]; decide⟩ dL_put_13 ?_
    refine q_goto C 25 dL_put_14 (by decide) ?_
    refine q_iconst C 0 dL_put_25 ?_
    refine q_wiret C ⟨Nat.le_refl _, Nat.le_refl _⟩ dL_put_26 ?_
    exact ⟨hT.symm, Or.inl ⟨hT, up_eq, hJ.1.keep (fun k a _ _ => up_k (by omega))⟩, fun k a c => (up_k c).trans (hJ.2 k a)⟩
  · obtain ⟨hX, hJ⟩ := hX
    rcases hX with hX | hX
    · obtain ⟨rfl, hT⟩ := hX
      refine ⟨17, ⟨[], [(0, 14, 21, 15)], (0, 14, 17, 13), rfl, rfl, ⟨by decide, by decide⟩, by decide, wd_466, nw_491, by decide, fun z hz => absurd hz List.not_mem_nil⟩, ?_⟩
      refine q_astore (lv' := [(6, .ref q9), (0, .ref (adr w 0)), (1, .int (iI x)), (2, .int (iI d)), (3, .int (iI y)), (4, .int (iI p)), (5, .ref (adr w 120))]) C dL_put_17 (by decide) rfl ?_
      refine q_iconst C 1 dL_put_19 ?_
      refine q_wiret C ⟨Nat.le_refl _, Nat.le_refl _⟩ dL_put_20 ?_
      exact ⟨hT.symm, Or.inr ⟨by rw [hT]; decide, hJ.1⟩, fun k a c => hJ.2 k a⟩
    · obtain ⟨rfl, hT⟩ := hX
      refine ⟨21, ⟨[(0, 14, 17, 13)], [], (0, 14, 21, 15), rfl, rfl, ⟨by decide, by decide⟩, by decide, wd_467, nw_563, by decide, fun z hz => by simp only [List.mem_cons, List.not_mem_nil, or_false] at hz; subst hz; exact ⟨by decide, _, wd_466, by decide, by decide⟩⟩, ?_⟩
      refine q_astore (lv' := [(6, .ref q9), (0, .ref (adr w 0)), (1, .int (iI x)), (2, .int (iI d)), (3, .int (iI y)), (4, .int (iI p)), (5, .ref (adr w 120))]) C dL_put_21 (by decide) rfl ?_
      refine q_iconst C 2 dL_put_23 ?_
      refine q_wiret C ⟨Nat.le_refl _, Nat.le_refl _⟩ dL_put_24 ?_
      exact ⟨hT.symm, Or.inr ⟨by rw [hT]; decide, hJ.1⟩, fun k a c => hJ.2 k a⟩

set_option maxRecDepth 100000 in
set_option maxHeartbeats 4000000 in
theorem k_L_takeOff (l : Launch) (hl : l.stackTraces = false) {w : WP} {F : FF} {A : AS} {x : Int} (hA : CI F A) (hx : inR x) : ConW l yL_takeOff cL_takeOff 4 (some .int) [(0, 9, 12, 13), (0, 9, 15, 15)] 7 w [.ref (adr w 0), .int (iI x), .ref (adr w 120)] F (QI w (fun z F' => z = takeOffT A x ∧ (takeOffT A x = 0 ∧ F' 120 0 = wI (takeOffZ A x) ∧ CI F' (takeOffN A x) ∨ takeOffT A x ≠ 0 ∧ CI F' A) ∧ FrL F F')) := by
  refine ConW.mk (lv := [(0, .ref (adr w 0)), (1, .int (iI x)), (2, .ref (adr w 120))]) (by decide) (Nat.le_of_ble_eq_true rfl) rfl ?_
  intro pg ev s0 mi be me co C htab hz
  refine q_aload_n C 2 dL_takeOff_0 rfl ?_
  refine q_iconst C 0 dL_takeOff_1 ?_
  refine q_aload_n C 0 dL_takeOff_2 rfl ?_
  refine q_iload_n C 1 dL_takeOff_3 rfl ?_
  refine q_cIX C htab (q_runX (As := [.int (iI x)]) (rest := [.int (iI 0), .ref (adr w 120)]) C (k_X3_takeOff l hl hA hx) kd0 (by decide) rfl wd_597 wd_595 wd_596 wd_77 wd_594 nd_X3_takeOff rfl (by decide) ⟨Nat.le_refl _, Nat.le_refl _⟩ rfl (Nat.le_of_ble_eq_true rfl) dL_takeOff_4) (fun z F1 hp => ?_) (fun E F1 q9 hX => ?_)
  · obtain ⟨hT, hz1, hJ⟩ := hp
    subst hz1
    refine q_i2l C dL_takeOff_7 ?_
    refine q_last (z := wI (takeOffZ A x)) C kd120 ⟨by decide, by rw [ln120]; decide⟩ dL_takeOff_8 ?_
    refine q_goto C 18 dL_takeOff_9 (by decide) ?_
    refine q_iconst C 0 dL_takeOff_18 ?_
    refine q_wiret C ⟨Nat.le_refl _, Nat.le_refl _⟩ dL_takeOff_19 ?_
    exact ⟨hT.symm, Or.inl ⟨hT, up_eq, hJ.1.keep (fun k a _ _ => up_k (by omega))⟩, fun k a c => (up_k c).trans (hJ.2 k a)⟩
  · obtain ⟨hX, hJ⟩ := hX
    rcases hX with hX | hX
    · obtain ⟨rfl, hT⟩ := hX
      refine ⟨12, ⟨[], [(0, 9, 15, 15)], (0, 9, 12, 13), rfl, rfl, ⟨by decide, by decide⟩, by decide, wd_466, nw_491, by decide, fun z hz => absurd hz List.not_mem_nil⟩, ?_⟩
      refine q_astore_n (lv' := [(3, .ref q9), (0, .ref (adr w 0)), (1, .int (iI x)), (2, .ref (adr w 120))]) C dL_takeOff_12 (by decide) rfl ?_
      refine q_iconst C 1 dL_takeOff_13 ?_
      refine q_wiret C ⟨Nat.le_refl _, Nat.le_refl _⟩ dL_takeOff_14 ?_
      exact ⟨hT.symm, Or.inr ⟨by rw [hT]; decide, hJ.1⟩, fun k a c => hJ.2 k a⟩
    · obtain ⟨rfl, hT⟩ := hX
      refine ⟨15, ⟨[(0, 9, 12, 13)], [], (0, 9, 15, 15), rfl, rfl, ⟨by decide, by decide⟩, by decide, wd_467, nw_563, by decide, fun z hz => by simp only [List.mem_cons, List.not_mem_nil, or_false] at hz; subst hz; exact ⟨by decide, _, wd_466, by decide, by decide⟩⟩, ?_⟩
      refine q_astore_n (lv' := [(3, .ref q9), (0, .ref (adr w 0)), (1, .int (iI x)), (2, .ref (adr w 120))]) C dL_takeOff_15 (by decide) rfl ?_
      refine q_iconst C 2 dL_takeOff_16 ?_
      refine q_wiret C ⟨Nat.le_refl _, Nat.le_refl _⟩ dL_takeOff_17 ?_
      exact ⟨hT.symm, Or.inr ⟨by rw [hT]; decide, hJ.1⟩, fun k a c => hJ.2 k a⟩

set_option maxRecDepth 100000 in
set_option maxHeartbeats 4000000 in
theorem k_L_move (l : Launch) (hl : l.stackTraces = false) {w : WP} {F : FF} {A : AS} {x d y : Int} (hA : CI F A) (hx : inR x) (hd : inR d) (hy : inR y) : ConW l yL_move cL_move 6 (some .int) [(0, 12, 15, 13), (0, 12, 19, 15)] 7 w [.ref (adr w 0), .int (iI x), .int (iI d), .int (iI y), .ref (adr w 120)] F (QI w (fun z F' => z = moveT A x d y ∧ (moveT A x d y = 0 ∧ F' 120 0 = wI (moveZ A x d y) ∧ CI F' (moveN A x d y) ∨ moveT A x d y ≠ 0 ∧ CI F' A) ∧ FrL F F')) := by
  refine ConW.mk (lv := [(0, .ref (adr w 0)), (1, .int (iI x)), (2, .int (iI d)), (3, .int (iI y)), (4, .ref (adr w 120))]) (by decide) (Nat.le_of_ble_eq_true rfl) rfl ?_
  intro pg ev s0 mi be me co C htab hz
  refine q_aload C 4 dL_move_0 rfl ?_
  refine q_iconst C 0 dL_move_2 ?_
  refine q_aload_n C 0 dL_move_3 rfl ?_
  refine q_iload_n C 1 dL_move_4 rfl ?_
  refine q_iload_n C 2 dL_move_5 rfl ?_
  refine q_iload_n C 3 dL_move_6 rfl ?_
  refine q_cIX C htab (q_runX (As := [.int (iI x), .int (iI d), .int (iI y)]) (rest := [.int (iI 0), .ref (adr w 120)]) C (k_X3_move l hl hA hx hd hy) kd0 (by decide) rfl wd_612 wd_610 wd_611 wd_77 wd_609 nd_X3_move rfl (by decide) ⟨Nat.le_refl _, Nat.le_refl _⟩ rfl (Nat.le_of_ble_eq_true rfl) dL_move_7) (fun z F1 hp => ?_) (fun E F1 q9 hX => ?_)
  · obtain ⟨hT, hz1, hJ⟩ := hp
    subst hz1
    refine q_i2l C dL_move_10 ?_
    refine q_last (z := wI (moveZ A x d y)) C kd120 ⟨by decide, by rw [ln120]; decide⟩ dL_move_11 ?_
    refine q_goto C 23 dL_move_12 (by decide) ?_
    refine q_iconst C 0 dL_move_23 ?_
    refine q_wiret C ⟨Nat.le_refl _, Nat.le_refl _⟩ dL_move_24 ?_
    exact ⟨hT.symm, Or.inl ⟨hT, up_eq, hJ.1.keep (fun k a _ _ => up_k (by omega))⟩, fun k a c => (up_k c).trans (hJ.2 k a)⟩
  · obtain ⟨hX, hJ⟩ := hX
    rcases hX with hX | hX
    · obtain ⟨rfl, hT⟩ := hX
      refine ⟨15, ⟨[], [(0, 12, 19, 15)], (0, 12, 15, 13), rfl, rfl, ⟨by decide, by decide⟩, by decide, wd_466, nw_491, by decide, fun z hz => absurd hz List.not_mem_nil⟩, ?_⟩
      refine q_astore (lv' := [(5, .ref q9), (0, .ref (adr w 0)), (1, .int (iI x)), (2, .int (iI d)), (3, .int (iI y)), (4, .ref (adr w 120))]) C dL_move_15 (by decide) rfl ?_
      refine q_iconst C 1 dL_move_17 ?_
      refine q_wiret C ⟨Nat.le_refl _, Nat.le_refl _⟩ dL_move_18 ?_
      exact ⟨hT.symm, Or.inr ⟨by rw [hT]; decide, hJ.1⟩, fun k a c => hJ.2 k a⟩
    · obtain ⟨rfl, hT⟩ := hX
      refine ⟨19, ⟨[(0, 12, 15, 13)], [], (0, 12, 19, 15), rfl, rfl, ⟨by decide, by decide⟩, by decide, wd_467, nw_563, by decide, fun z hz => by simp only [List.mem_cons, List.not_mem_nil, or_false] at hz; subst hz; exact ⟨by decide, _, wd_466, by decide, by decide⟩⟩, ?_⟩
      refine q_astore (lv' := [(5, .ref q9), (0, .ref (adr w 0)), (1, .int (iI x)), (2, .int (iI d)), (3, .int (iI y)), (4, .ref (adr w 120))]) C dL_move_19 (by decide) rfl ?_
      refine q_iconst C 2 dL_move_21 ?_
      refine q_wiret C ⟨Nat.le_refl _, Nat.le_refl _⟩ dL_move_22 ?_
      exact ⟨hT.symm, Or.inr ⟨by rw [hT]; decide, hJ.1⟩, fun k a c => hJ.2 k a⟩

set_option maxRecDepth 100000 in
set_option maxHeartbeats 4000000 in
theorem k_L_clearDoor (l : Launch) (hl : l.stackTraces = false) {w : WP} {F : FF} {A : AS} {d : Int} (hA : CI F A) (hd : inR d) : ConW l yL_clearDoor cL_clearDoor 4 (some .int) [(0, 9, 12, 13)] 7 w [.ref (adr w 0), .int (iI d), .ref (adr w 120)] F (QI w (fun z F' => z = clearDoorT A d ∧ (clearDoorT A d = 0 ∧ F' 120 0 = wI (clearDoorZ A d) ∧ CI F' (clearDoorN A d) ∨ clearDoorT A d ≠ 0 ∧ CI F' A) ∧ FrL F F')) := by
  refine ConW.mk (lv := [(0, .ref (adr w 0)), (1, .int (iI d)), (2, .ref (adr w 120))]) (by decide) (Nat.le_of_ble_eq_true rfl) rfl ?_
  intro pg ev s0 mi be me co C htab hz
  refine q_aload_n C 2 dL_clearDoor_0 rfl ?_
  refine q_iconst C 0 dL_clearDoor_1 ?_
  refine q_aload_n C 0 dL_clearDoor_2 rfl ?_
  refine q_iload_n C 1 dL_clearDoor_3 rfl ?_
  refine q_cIX C htab (q_runX (As := [.int (iI d)]) (rest := [.int (iI 0), .ref (adr w 120)]) C (k_X3_clearDoor l hl hA hd) kd0 (by decide) rfl wd_621 wd_619 wd_620 wd_77 wd_618 nd_X3_clearDoor rfl (by decide) ⟨Nat.le_refl _, Nat.le_refl _⟩ rfl (Nat.le_of_ble_eq_true rfl) dL_clearDoor_4) (fun z F1 hp => ?_) (fun E F1 q9 hX => ?_)
  · obtain ⟨hT, hz1, hJ⟩ := hp
    subst hz1
    refine q_i2l C dL_clearDoor_7 ?_
    refine q_last (z := wI (clearDoorZ A d)) C kd120 ⟨by decide, by rw [ln120]; decide⟩ dL_clearDoor_8 ?_
    refine q_goto C 15 dL_clearDoor_9 (by decide) ?_
    refine q_iconst C 0 dL_clearDoor_15 ?_
    refine q_wiret C ⟨Nat.le_refl _, Nat.le_refl _⟩ dL_clearDoor_16 ?_
    exact ⟨hT.symm, Or.inl ⟨hT, up_eq, hJ.1.keep (fun k a _ _ => up_k (by omega))⟩, fun k a c => (up_k c).trans (hJ.2 k a)⟩
  · obtain ⟨hX, hJ⟩ := hX
    obtain ⟨rfl, hT⟩ := hX
    refine ⟨12, ⟨[], [], (0, 9, 12, 13), rfl, rfl, ⟨by decide, by decide⟩, by decide, wd_466, nw_491, by decide, fun z hz => absurd hz List.not_mem_nil⟩, ?_⟩
    refine q_astore_n (lv' := [(3, .ref q9), (0, .ref (adr w 0)), (1, .int (iI d)), (2, .ref (adr w 120))]) C dL_clearDoor_12 (by decide) rfl ?_
    refine q_iconst C 1 dL_clearDoor_13 ?_
    refine q_wiret C ⟨Nat.le_refl _, Nat.le_refl _⟩ dL_clearDoor_14 ?_
    exact ⟨hT.symm, Or.inr ⟨by rw [hT]; decide, hJ.1⟩, fun k a c => hJ.2 k a⟩

set_option maxRecDepth 100000 in
set_option maxHeartbeats 4000000 in
theorem k_L_borrow (l : Launch) (hl : l.stackTraces = false) {w : WP} {F : FF} {A : AS} {d y e g : Int} (hA : CI F A) (hd : inR d) (hy : inR y) (he : inR e) (hg : inR g) : ConW l yL_borrow cL_borrow 7 (some .int) [(0, 14, 17, 13), (0, 14, 21, 31), (0, 14, 25, 15)] 7 w [.ref (adr w 0), .int (iI d), .int (iI y), .int (iI e), .int (iI g), .ref (adr w 120)] F (QI w (fun z F' => z = borrowT A d y e g ∧ (borrowT A d y e g = 0 ∧ F' 120 0 = wI (borrowZ A d y e g) ∧ CI F' (borrowN A d y e g) ∨ borrowT A d y e g ≠ 0 ∧ CI F' A) ∧ FrL F F')) := by
  refine ConW.mk (lv := [(0, .ref (adr w 0)), (1, .int (iI d)), (2, .int (iI y)), (3, .int (iI e)), (4, .int (iI g)), (5, .ref (adr w 120))]) (by decide) (Nat.le_of_ble_eq_true rfl) rfl ?_
  intro pg ev s0 mi be me co C htab hz
  refine q_aload C 5 dL_borrow_0 rfl ?_
  refine q_iconst C 0 dL_borrow_2 ?_
  refine q_aload_n C 0 dL_borrow_3 rfl ?_
  refine q_iload_n C 1 dL_borrow_4 rfl ?_
  refine q_iload_n C 2 dL_borrow_5 rfl ?_
  refine q_iload_n C 3 dL_borrow_6 rfl ?_
  refine q_iload C 4 dL_borrow_7 rfl ?_
  refine q_cIX C htab (q_runX (As := [.int (iI d), .int (iI y), .int (iI e), .int (iI g)]) (rest := [.int (iI 0), .ref (adr w 120)]) C (k_X3_borrow l hl hA hd hy he hg) kd0 (by decide) rfl wd_634 wd_632 wd_633 wd_77 wd_631 nd_X3_borrow rfl (by decide) ⟨Nat.le_refl _, Nat.le_refl _⟩ rfl (Nat.le_of_ble_eq_true rfl) dL_borrow_9) (fun z F1 hp => ?_) (fun E F1 q9 hX => ?_)
  · obtain ⟨hT, hz1, hJ⟩ := hp
    subst hz1
    refine q_i2l C dL_borrow_12 ?_
    refine q_last (z := wI (borrowZ A d y e g)) C kd120 ⟨by decide, by rw [ln120]; decide⟩ dL_borrow_13 ?_
    refine q_goto C 29 dL_borrow_14 (by decide) ?_
    refine q_iconst C 0 dL_borrow_29 ?_
    refine q_wiret C ⟨Nat.le_refl _, Nat.le_refl _⟩ dL_borrow_30 ?_
    exact ⟨hT.symm, Or.inl ⟨hT, up_eq, hJ.1.keep (fun k a _ _ => up_k (by omega))⟩, fun k a c => (up_k c).trans (hJ.2 k a)⟩
  · obtain ⟨hX, hJ⟩ := hX
    rcases hX with hX | hX | hX
    · obtain ⟨rfl, hT⟩ := hX
      refine ⟨17, ⟨[], [(0, 14, 21, 31), (0, 14, 25, 15)], (0, 14, 17, 13), rfl, rfl, ⟨by decide, by decide⟩, by decide, wd_466, nw_491, by decide, fun z hz => absurd hz List.not_mem_nil⟩, ?_⟩
      refine q_astore (lv' := [(6, .ref q9), (0, .ref (adr w 0)), (1, .int (iI d)), (2, .int (iI y)), (3, .int (iI e)), (4, .int (iI g)), (5, .ref (adr w 120))]) C dL_borrow_17 (by decide) rfl ?_
      refine q_iconst C 1 dL_borrow_19 ?_
      refine q_wiret C ⟨Nat.le_refl _, Nat.le_refl _⟩ dL_borrow_20 ?_
      exact ⟨hT.symm, Or.inr ⟨by rw [hT]; decide, hJ.1⟩, fun k a c => hJ.2 k a⟩
    · obtain ⟨rfl, hT⟩ := hX
      refine ⟨21, ⟨[(0, 14, 17, 13)], [(0, 14, 25, 15)], (0, 14, 21, 31), rfl, rfl, ⟨by decide, by decide⟩, by decide, wd_630, nw_638, by decide, fun z hz => by simp only [List.mem_cons, List.not_mem_nil, or_false] at hz; subst hz; exact ⟨by decide, _, wd_466, by decide, by decide⟩⟩, ?_⟩
      refine q_astore (lv' := [(6, .ref q9), (0, .ref (adr w 0)), (1, .int (iI d)), (2, .int (iI y)), (3, .int (iI e)), (4, .int (iI g)), (5, .ref (adr w 120))]) C dL_borrow_21 (by decide) rfl ?_
      refine q_iconst C 2 dL_borrow_23 ?_
      refine q_wiret C ⟨Nat.le_refl _, Nat.le_refl _⟩ dL_borrow_24 ?_
      exact ⟨hT.symm, Or.inr ⟨by rw [hT]; decide, hJ.1⟩, fun k a c => hJ.2 k a⟩
    · obtain ⟨rfl, hT⟩ := hX
      refine ⟨25, ⟨[(0, 14, 17, 13), (0, 14, 21, 31)], [], (0, 14, 25, 15), rfl, rfl, ⟨by decide, by decide⟩, by decide, wd_467, nw_563, by decide, fun z hz => by simp only [List.mem_cons, List.not_mem_nil, or_false] at hz; rcases hz with hz | hz; subst hz; exact ⟨by decide, _, wd_466, by decide, by decide⟩; subst hz; exact ⟨by decide, _, wd_630, by decide, by decide⟩⟩, ?_⟩
      refine q_astore (lv' := [(6, .ref q9), (0, .ref (adr w 0)), (1, .int (iI d)), (2, .int (iI y)), (3, .int (iI e)), (4, .int (iI g)), (5, .ref (adr w 120))]) C dL_borrow_25 (by decide) rfl ?_
      refine q_iconst C 3 dL_borrow_27 ?_
      refine q_wiret C ⟨Nat.le_refl _, Nat.le_refl _⟩ dL_borrow_28 ?_
      exact ⟨hT.symm, Or.inr ⟨by rw [hT]; decide, hJ.1⟩, fun k a c => hJ.2 k a⟩

set_option maxRecDepth 100000 in
set_option maxHeartbeats 4000000 in
theorem k_L_bringBack (l : Launch) (hl : l.stackTraces = false) {w : WP} {F : FF} {A : AS} {d y : Int} (hA : CI F A) (hd : inR d) (hy : inR y) : ConW l yL_bringBack cL_bringBack 5 (some .int) [(0, 10, 13, 13), (0, 10, 17, 15)] 7 w [.ref (adr w 0), .int (iI d), .int (iI y), .ref (adr w 120)] F (QI w (fun z F' => z = bringBackT A d y ∧ (bringBackT A d y = 0 ∧ F' 120 0 = wI (bringBackZ A d y) ∧ CI F' (bringBackN A d y) ∨ bringBackT A d y ≠ 0 ∧ CI F' A) ∧ FrL F F')) := by
  refine ConW.mk (lv := [(0, .ref (adr w 0)), (1, .int (iI d)), (2, .int (iI y)), (3, .ref (adr w 120))]) (by decide) (Nat.le_of_ble_eq_true rfl) rfl ?_
  intro pg ev s0 mi be me co C htab hz
  refine q_aload_n C 3 dL_bringBack_0 rfl ?_
  refine q_iconst C 0 dL_bringBack_1 ?_
  refine q_aload_n C 0 dL_bringBack_2 rfl ?_
  refine q_iload_n C 1 dL_bringBack_3 rfl ?_
  refine q_iload_n C 2 dL_bringBack_4 rfl ?_
  refine q_cIX C htab (q_runX (As := [.int (iI d), .int (iI y)]) (rest := [.int (iI 0), .ref (adr w 120)]) C (k_X3_bringBack l hl hA hd hy) kd0 (by decide) rfl wd_668 wd_666 wd_667 wd_77 wd_665 nd_X3_bringBack rfl (by decide) ⟨Nat.le_refl _, Nat.le_refl _⟩ rfl (Nat.le_of_ble_eq_true rfl) dL_bringBack_5) (fun z F1 hp => ?_) (fun E F1 q9 hX => ?_)
  · obtain ⟨hT, hz1, hJ⟩ := hp
    subst hz1
    refine q_i2l C dL_bringBack_8 ?_
    refine q_last (z := wI (bringBackZ A d y)) C kd120 ⟨by decide, by rw [ln120]; decide⟩ dL_bringBack_9 ?_
    refine q_goto C 21 dL_bringBack_10 (by decide) ?_
    refine q_iconst C 0 dL_bringBack_21 ?_
    refine q_wiret C ⟨Nat.le_refl _, Nat.le_refl _⟩ dL_bringBack_22 ?_
    exact ⟨hT.symm, Or.inl ⟨hT, up_eq, hJ.1.keep (fun k a _ _ => up_k (by omega))⟩, fun k a c => (up_k c).trans (hJ.2 k a)⟩
  · obtain ⟨hX, hJ⟩ := hX
    rcases hX with hX | hX
    · obtain ⟨rfl, hT⟩ := hX
      refine ⟨13, ⟨[], [(0, 10, 17, 15)], (0, 10, 13, 13), rfl, rfl, ⟨by decide, by decide⟩, by decide, wd_466, nw_491, by decide, fun z hz => absurd hz List.not_mem_nil⟩, ?_⟩
      refine q_astore (lv' := [(4, .ref q9), (0, .ref (adr w 0)), (1, .int (iI d)), (2, .int (iI y)), (3, .ref (adr w 120))]) C dL_bringBack_13 (by decide) rfl ?_
      refine q_iconst C 1 dL_bringBack_15 ?_
      refine q_wiret C ⟨Nat.le_refl _, Nat.le_refl _⟩ dL_bringBack_16 ?_
      exact ⟨hT.symm, Or.inr ⟨by rw [hT]; decide, hJ.1⟩, fun k a c => hJ.2 k a⟩
    · obtain ⟨rfl, hT⟩ := hX
      refine ⟨17, ⟨[(0, 10, 13, 13)], [], (0, 10, 17, 15), rfl, rfl, ⟨by decide, by decide⟩, by decide, wd_467, nw_563, by decide, fun z hz => by simp only [List.mem_cons, List.not_mem_nil, or_false] at hz; subst hz; exact ⟨by decide, _, wd_466, by decide, by decide⟩⟩, ?_⟩
      refine q_astore (lv' := [(4, .ref q9), (0, .ref (adr w 0)), (1, .int (iI d)), (2, .int (iI y)), (3, .ref (adr w 120))]) C dL_bringBack_17 (by decide) rfl ?_
      refine q_iconst C 2 dL_bringBack_19 ?_
      refine q_wiret C ⟨Nat.le_refl _, Nat.le_refl _⟩ dL_bringBack_20 ?_
      exact ⟨hT.symm, Or.inr ⟨by rw [hT]; decide, hJ.1⟩, fun k a c => hJ.2 k a⟩

set_option maxRecDepth 100000 in
set_option maxHeartbeats 4000000 in
theorem k_L_sleep (l : Launch) (hl : l.stackTraces = false) {w : WP} {F : FF} {A : AS} {m : Int} (hA : CI F A) (hm : inR m) : ConW l yL_sleep cL_sleep 4 (some .int) [(0, 9, 12, 31), (0, 9, 15, 15)] 7 w [.ref (adr w 0), .int (iI m), .ref (adr w 120)] F (QI w (fun z F' => z = sleepT A m ∧ (sleepT A m = 0 ∧ F' 120 0 = wI (sleepZ A m) ∧ CI F' (sleepN A m) ∨ sleepT A m ≠ 0 ∧ CI F' A) ∧ FrL F F')) := by
  refine ConW.mk (lv := [(0, .ref (adr w 0)), (1, .int (iI m)), (2, .ref (adr w 120))]) (by decide) (Nat.le_of_ble_eq_true rfl) rfl ?_
  intro pg ev s0 mi be me co C htab hz
  refine q_aload_n C 2 dL_sleep_0 rfl ?_
  refine q_iconst C 0 dL_sleep_1 ?_
  refine q_aload_n C 0 dL_sleep_2 rfl ?_
  refine q_iload_n C 1 dL_sleep_3 rfl ?_
  refine q_cIX C htab (q_runX (As := [.int (iI m)]) (rest := [.int (iI 0), .ref (adr w 120)]) C (k_X3_sleep l hl hA hm) kd0 (by decide) rfl wd_681 wd_679 wd_680 wd_77 wd_678 nd_X3_sleep rfl (by decide) ⟨Nat.le_refl _, Nat.le_refl _⟩ rfl (Nat.le_of_ble_eq_true rfl) dL_sleep_4) (fun z F1 hp => ?_) (fun E F1 q9 hX => ?_)
  · obtain ⟨hT, hz1, hJ⟩ := hp
    subst hz1
    refine q_i2l C dL_sleep_7 ?_
    refine q_last (z := wI (sleepZ A m)) C kd120 ⟨by decide, by rw [ln120]; decide⟩ dL_sleep_8 ?_
    refine q_goto C 18 dL_sleep_9 (by decide) ?_
    refine q_iconst C 0 dL_sleep_18 ?_
    refine q_wiret C ⟨Nat.le_refl _, Nat.le_refl _⟩ dL_sleep_19 ?_
    exact ⟨hT.symm, Or.inl ⟨hT, up_eq, hJ.1.keep (fun k a _ _ => up_k (by omega))⟩, fun k a c => (up_k c).trans (hJ.2 k a)⟩
  · obtain ⟨hX, hJ⟩ := hX
    rcases hX with hX | hX
    · obtain ⟨rfl, hT⟩ := hX
      refine ⟨12, ⟨[], [(0, 9, 15, 15)], (0, 9, 12, 31), rfl, rfl, ⟨by decide, by decide⟩, by decide, wd_630, nw_638, by decide, fun z hz => absurd hz List.not_mem_nil⟩, ?_⟩
      refine q_astore_n (lv' := [(3, .ref q9), (0, .ref (adr w 0)), (1, .int (iI m)), (2, .ref (adr w 120))]) C dL_sleep_12 (by decide) rfl ?_
      refine q_iconst C 1 dL_sleep_13 ?_
      refine q_wiret C ⟨Nat.le_refl _, Nat.le_refl _⟩ dL_sleep_14 ?_
      exact ⟨hT.symm, Or.inr ⟨by rw [hT]; decide, hJ.1⟩, fun k a c => hJ.2 k a⟩
    · obtain ⟨rfl, hT⟩ := hX
      refine ⟨15, ⟨[(0, 9, 12, 31)], [], (0, 9, 15, 15), rfl, rfl, ⟨by decide, by decide⟩, by decide, wd_467, nw_563, by decide, fun z hz => by simp only [List.mem_cons, List.not_mem_nil, or_false] at hz; subst hz; exact ⟨by decide, _, wd_630, by decide, by decide⟩⟩, ?_⟩
      refine q_astore_n (lv' := [(3, .ref q9), (0, .ref (adr w 0)), (1, .int (iI m)), (2, .ref (adr w 120))]) C dL_sleep_15 (by decide) rfl ?_
      refine q_iconst C 2 dL_sleep_16 ?_
      refine q_wiret C ⟨Nat.le_refl _, Nat.le_refl _⟩ dL_sleep_17 ?_
      exact ⟨hT.symm, Or.inr ⟨by rw [hT]; decide, hJ.1⟩, fun k a c => hJ.2 k a⟩

set_option maxRecDepth 100000 in
set_option maxHeartbeats 4000000 in
theorem k_L_set (l : Launch) (hl : l.stackTraces = false) {w : WP} {F : FF} {A : AS} {k v : Int} (hA : CI F A) (hk : inR k) (hv : inR v) : ConW l yL_set cL_set 5 (some .int) [(0, 10, 13, 13), (0, 10, 17, 31)] 7 w [.ref (adr w 0), .int (iI k), .int (iI v), .ref (adr w 120)] F (QI w (fun z F' => z = setT A k v ∧ (setT A k v = 0 ∧ F' 120 0 = wI (setZ A k v) ∧ CI F' (setN A k v) ∨ setT A k v ≠ 0 ∧ CI F' A) ∧ FrL F F')) := by
  refine ConW.mk (lv := [(0, .ref (adr w 0)), (1, .int (iI k)), (2, .int (iI v)), (3, .ref (adr w 120))]) (by decide) (Nat.le_of_ble_eq_true rfl) rfl ?_
  intro pg ev s0 mi be me co C htab hz
  refine q_aload_n C 3 dL_set_0 rfl ?_
  refine q_iconst C 0 dL_set_1 ?_
  refine q_aload_n C 0 dL_set_2 rfl ?_
  refine q_iload_n C 1 dL_set_3 rfl ?_
  refine q_iload_n C 2 dL_set_4 rfl ?_
  refine q_cIX C htab (q_runX (As := [.int (iI k), .int (iI v)]) (rest := [.int (iI 0), .ref (adr w 120)]) C (k_X3_set l hl hA hk hv) kd0 (by decide) rfl wd_693 wd_691 wd_692 wd_77 wd_690 nd_X3_set rfl (by decide) ⟨Nat.le_refl _, Nat.le_refl _⟩ rfl (Nat.le_of_ble_eq_true rfl) dL_set_5) (fun z F1 hp => ?_) (fun E F1 q9 hX => ?_)
  · obtain ⟨hT, hz1, hJ⟩ := hp
    subst hz1
    refine q_i2l C dL_set_8 ?_
    refine q_last (z := wI (setZ A k v)) C kd120 ⟨by decide, by rw [ln120]; decide⟩ dL_set_9 ?_
    refine q_goto C 21 dL_set_10 (by decide) ?_
    refine q_iconst C 0 dL_set_21 ?_
    refine q_wiret C ⟨Nat.le_refl _, Nat.le_refl _⟩ dL_set_22 ?_
    exact ⟨hT.symm, Or.inl ⟨hT, up_eq, hJ.1.keep (fun k a _ _ => up_k (by omega))⟩, fun k a c => (up_k c).trans (hJ.2 k a)⟩
  · obtain ⟨hX, hJ⟩ := hX
    rcases hX with hX | hX
    · obtain ⟨rfl, hT⟩ := hX
      refine ⟨13, ⟨[], [(0, 10, 17, 31)], (0, 10, 13, 13), rfl, rfl, ⟨by decide, by decide⟩, by decide, wd_466, nw_491, by decide, fun z hz => absurd hz List.not_mem_nil⟩, ?_⟩
      refine q_astore (lv' := [(4, .ref q9), (0, .ref (adr w 0)), (1, .int (iI k)), (2, .int (iI v)), (3, .ref (adr w 120))]) C dL_set_13 (by decide) rfl ?_
      refine q_iconst C 1 dL_set_15 ?_
      refine q_wiret C ⟨Nat.le_refl _, Nat.le_refl _⟩ dL_set_16 ?_
      exact ⟨hT.symm, Or.inr ⟨by rw [hT]; decide, hJ.1⟩, fun k a c => hJ.2 k a⟩
    · obtain ⟨rfl, hT⟩ := hX
      refine ⟨17, ⟨[(0, 10, 13, 13)], [], (0, 10, 17, 31), rfl, rfl, ⟨by decide, by decide⟩, by decide, wd_630, nw_638, by decide, fun z hz => by simp only [List.mem_cons, List.not_mem_nil, or_false] at hz; subst hz; exact ⟨by decide, _, wd_466, by decide, by decide⟩⟩, ?_⟩
      refine q_astore (lv' := [(4, .ref q9), (0, .ref (adr w 0)), (1, .int (iI k)), (2, .int (iI v)), (3, .ref (adr w 120))]) C dL_set_17 (by decide) rfl ?_
      refine q_iconst C 2 dL_set_19 ?_
      refine q_wiret C ⟨Nat.le_refl _, Nat.le_refl _⟩ dL_set_20 ?_
      exact ⟨hT.symm, Or.inr ⟨by rw [hT]; decide, hJ.1⟩, fun k a c => hJ.2 k a⟩

set_option maxRecDepth 100000 in
set_option maxHeartbeats 4000000 in
theorem k_L_append (l : Launch) (hl : l.stackTraces = false) {w : WP} {F : FF} {A : AS} {c : Int} (hA : CI F A) (hc : inR c) : ConW l yL_append cL_append 4 (some .int) [(0, 9, 12, 31), (0, 9, 15, 15)] 7 w [.ref (adr w 0), .int (iI c), .ref (adr w 120)] F (QI w (fun z F' => z = appendT A c ∧ (appendT A c = 0 ∧ F' 120 0 = wI (appendZ A c) ∧ CI F' (appendN A c) ∨ appendT A c ≠ 0 ∧ CI F' A) ∧ FrL F F')) := by
  refine ConW.mk (lv := [(0, .ref (adr w 0)), (1, .int (iI c)), (2, .ref (adr w 120))]) (by decide) (Nat.le_of_ble_eq_true rfl) rfl ?_
  intro pg ev s0 mi be me co C htab hz
  refine q_aload_n C 2 dL_append_0 rfl ?_
  refine q_iconst C 0 dL_append_1 ?_
  refine q_aload_n C 0 dL_append_2 rfl ?_
  refine q_iload_n C 1 dL_append_3 rfl ?_
  refine q_cIX C htab (q_runX (As := [.int (iI c)]) (rest := [.int (iI 0), .ref (adr w 120)]) C (k_X3_append l hl hA hc) kd0 (by decide) rfl wd_712 wd_710 wd_711 wd_77 wd_709 nd_X3_append rfl (by decide) ⟨Nat.le_refl _, Nat.le_refl _⟩ rfl (Nat.le_of_ble_eq_true rfl) dL_append_4) (fun z F1 hp => ?_) (fun E F1 q9 hX => ?_)
  · obtain ⟨hT, hz1, hJ⟩ := hp
    subst hz1
    refine q_i2l C dL_append_7 ?_
    refine q_last (z := wI (appendZ A c)) C kd120 ⟨by decide, by rw [ln120]; decide⟩ dL_append_8 ?_
    refine q_goto C 18 dL_append_9 (by decide) ?_
    refine q_iconst C 0 dL_append_18 ?_
    refine q_wiret C ⟨Nat.le_refl _, Nat.le_refl _⟩ dL_append_19 ?_
    exact ⟨hT.symm, Or.inl ⟨hT, up_eq, hJ.1.keep (fun k a _ _ => up_k (by omega))⟩, fun k a c => (up_k c).trans (hJ.2 k a)⟩
  · obtain ⟨hX, hJ⟩ := hX
    rcases hX with hX | hX
    · obtain ⟨rfl, hT⟩ := hX
      refine ⟨12, ⟨[], [(0, 9, 15, 15)], (0, 9, 12, 31), rfl, rfl, ⟨by decide, by decide⟩, by decide, wd_630, nw_638, by decide, fun z hz => absurd hz List.not_mem_nil⟩, ?_⟩
      refine q_astore_n (lv' := [(3, .ref q9), (0, .ref (adr w 0)), (1, .int (iI c)), (2, .ref (adr w 120))]) C dL_append_12 (by decide) rfl ?_
      refine q_iconst C 1 dL_append_13 ?_
      refine q_wiret C ⟨Nat.le_refl _, Nat.le_refl _⟩ dL_append_14 ?_
      exact ⟨hT.symm, Or.inr ⟨by rw [hT]; decide, hJ.1⟩, fun k a c => hJ.2 k a⟩
    · obtain ⟨rfl, hT⟩ := hX
      refine ⟨15, ⟨[(0, 9, 12, 31)], [], (0, 9, 15, 15), rfl, rfl, ⟨by decide, by decide⟩, by decide, wd_467, nw_563, by decide, fun z hz => by simp only [List.mem_cons, List.not_mem_nil, or_false] at hz; subst hz; exact ⟨by decide, _, wd_630, by decide, by decide⟩⟩, ?_⟩
      refine q_astore_n (lv' := [(3, .ref q9), (0, .ref (adr w 0)), (1, .int (iI c)), (2, .ref (adr w 120))]) C dL_append_15 (by decide) rfl ?_
      refine q_iconst C 2 dL_append_16 ?_
      refine q_wiret C ⟨Nat.le_refl _, Nat.le_refl _⟩ dL_append_17 ?_
      exact ⟨hT.symm, Or.inr ⟨by rw [hT]; decide, hJ.1⟩, fun k a c => hJ.2 k a⟩

set_option maxRecDepth 100000 in
set_option maxHeartbeats 4000000 in
theorem k_L_load (l : Launch) (hl : l.stackTraces = false) {w : WP} {F : FF} {A : AS} {d : Int} (hA : CI F A) (hd : inR d) : ConW l yL_load cL_load 4 (some .int) [(0, 9, 12, 13), (0, 9, 15, 31)] 7 w [.ref (adr w 0), .int (iI d), .ref (adr w 120)] F (QI w (fun z F' => z = loadT A d ∧ (loadT A d = 0 ∧ F' 120 0 = wI (loadZ A d) ∧ CI F' (loadN A d) ∨ loadT A d ≠ 0 ∧ CI F' A) ∧ FrL F F')) := by
  refine ConW.mk (lv := [(0, .ref (adr w 0)), (1, .int (iI d)), (2, .ref (adr w 120))]) (by decide) (Nat.le_of_ble_eq_true rfl) rfl ?_
  intro pg ev s0 mi be me co C htab hz
  refine q_aload_n C 2 dL_load_0 rfl ?_
  refine q_iconst C 0 dL_load_1 ?_
  refine q_aload_n C 0 dL_load_2 rfl ?_
  refine q_iload_n C 1 dL_load_3 rfl ?_
  refine q_cIX C htab (q_runX (As := [.int (iI d)]) (rest := [.int (iI 0), .ref (adr w 120)]) C (k_X3_load l hl hA hd) kd0 (by decide) rfl wd_725 wd_723 wd_724 wd_77 wd_722 nd_X3_load rfl (by decide) ⟨Nat.le_refl _, Nat.le_refl _⟩ rfl (Nat.le_of_ble_eq_true rfl) dL_load_4) (fun z F1 hp => ?_) (fun E F1 q9 hX => ?_)
  · obtain ⟨hT, hz1, hJ⟩ := hp
    subst hz1
    refine q_i2l C dL_load_7 ?_
    refine q_last (z := wI (loadZ A d)) C kd120 ⟨by decide, by rw [ln120]; decide⟩ dL_load_8 ?_
    refine q_goto C 18 dL_load_9 (by decide) ?_
    refine q_iconst C 0 dL_load_18 ?_
    refine q_wiret C ⟨Nat.le_refl _, Nat.le_refl _⟩ dL_load_19 ?_
    exact ⟨hT.symm, Or.inl ⟨hT, up_eq, hJ.1.keep (fun k a _ _ => up_k (by omega))⟩, fun k a c => (up_k c).trans (hJ.2 k a)⟩
  · obtain ⟨hX, hJ⟩ := hX
    rcases hX with hX | hX
    · obtain ⟨rfl, hT⟩ := hX
      refine ⟨12, ⟨[], [(0, 9, 15, 31)], (0, 9, 12, 13), rfl, rfl, ⟨by decide, by decide⟩, by decide, wd_466, nw_491, by decide, fun z hz => absurd hz List.not_mem_nil⟩, ?_⟩
      refine q_astore_n (lv' := [(3, .ref q9), (0, .ref (adr w 0)), (1, .int (iI d)), (2, .ref (adr w 120))]) C dL_load_12 (by decide) rfl ?_
      refine q_iconst C 1 dL_load_13 ?_
      refine q_wiret C ⟨Nat.le_refl _, Nat.le_refl _⟩ dL_load_14 ?_
      exact ⟨hT.symm, Or.inr ⟨by rw [hT]; decide, hJ.1⟩, fun k a c => hJ.2 k a⟩
    · obtain ⟨rfl, hT⟩ := hX
      refine ⟨15, ⟨[(0, 9, 12, 13)], [], (0, 9, 15, 31), rfl, rfl, ⟨by decide, by decide⟩, by decide, wd_630, nw_638, by decide, fun z hz => by simp only [List.mem_cons, List.not_mem_nil, or_false] at hz; subst hz; exact ⟨by decide, _, wd_466, by decide, by decide⟩⟩, ?_⟩
      refine q_astore_n (lv' := [(3, .ref q9), (0, .ref (adr w 0)), (1, .int (iI d)), (2, .ref (adr w 120))]) C dL_load_15 (by decide) rfl ?_
      refine q_iconst C 2 dL_load_16 ?_
      refine q_wiret C ⟨Nat.le_refl _, Nat.le_refl _⟩ dL_load_17 ?_
      exact ⟨hT.symm, Or.inr ⟨by rw [hT]; decide, hJ.1⟩, fun k a c => hJ.2 k a⟩

set_option maxRecDepth 100000 in
set_option maxHeartbeats 4000000 in
theorem k_L_write (l : Launch) (hl : l.stackTraces = false) {w : WP} {F : FF} {A : AS} {d : Int} (hA : CI F A) (hd : inR d) : ConW l yL_write cL_write 4 (some .int) [(0, 9, 12, 13)] 7 w [.ref (adr w 0), .int (iI d), .ref (adr w 120)] F (QI w (fun z F' => z = writeT A d ∧ (writeT A d = 0 ∧ F' 120 0 = wI (writeZ A d) ∧ CI F' (writeN A d) ∨ writeT A d ≠ 0 ∧ CI F' A) ∧ FrL F F')) := by
  refine ConW.mk (lv := [(0, .ref (adr w 0)), (1, .int (iI d)), (2, .ref (adr w 120))]) (by decide) (Nat.le_of_ble_eq_true rfl) rfl ?_
  intro pg ev s0 mi be me co C htab hz
  refine q_aload_n C 2 dL_write_0 rfl ?_
  refine q_iconst C 0 dL_write_1 ?_
  refine q_aload_n C 0 dL_write_2 rfl ?_
  refine q_iload_n C 1 dL_write_3 rfl ?_
  refine q_cIX C htab (q_runX (As := [.int (iI d)]) (rest := [.int (iI 0), .ref (adr w 120)]) C (k_X3_write l hl hA hd) kd0 (by decide) rfl wd_747 wd_745 wd_746 wd_77 wd_744 nd_X3_write rfl (by decide) ⟨Nat.le_refl _, Nat.le_refl _⟩ rfl (Nat.le_of_ble_eq_true rfl) dL_write_4) (fun z F1 hp => ?_) (fun E F1 q9 hX => ?_)
  · obtain ⟨hT, hz1, hJ⟩ := hp
    subst hz1
    refine q_i2l C dL_write_7 ?_
    refine q_last (z := wI (writeZ A d)) C kd120 ⟨by decide, by rw [ln120]; decide⟩ dL_write_8 ?_
    refine q_goto C 15 dL_write_9 (by decide) ?_
    refine q_iconst C 0 dL_write_15 ?_
    refine q_wiret C ⟨Nat.le_refl _, Nat.le_refl _⟩ dL_write_16 ?_
    exact ⟨hT.symm, Or.inl ⟨hT, up_eq, hJ.1.keep (fun k a _ _ => up_k (by omega))⟩, fun k a c => (up_k c).trans (hJ.2 k a)⟩
  · obtain ⟨hX, hJ⟩ := hX
    obtain ⟨rfl, hT⟩ := hX
    refine ⟨12, ⟨[], [], (0, 9, 12, 13), rfl, rfl, ⟨by decide, by decide⟩, by decide, wd_466, nw_491, by decide, fun z hz => absurd hz List.not_mem_nil⟩, ?_⟩
    refine q_astore_n (lv' := [(3, .ref q9), (0, .ref (adr w 0)), (1, .int (iI d)), (2, .ref (adr w 120))]) C dL_write_12 (by decide) rfl ?_
    refine q_iconst C 1 dL_write_13 ?_
    refine q_wiret C ⟨Nat.le_refl _, Nat.le_refl _⟩ dL_write_14 ?_
    exact ⟨hT.symm, Or.inr ⟨by rw [hT]; decide, hJ.1⟩, fun k a c => hJ.2 k a⟩

set_option maxRecDepth 100000 in
set_option maxHeartbeats 4000000 in
theorem k_L_keep (l : Launch) (hl : l.stackTraces = false) {w : WP} {F : FF} {A : AS} {k : Int} (hA : CI F A) (hk : inR k) : ConW l yL_keep cL_keep 4 (some .int) [(0, 9, 12, 31)] 7 w [.ref (adr w 0), .int (iI k), .ref (adr w 120)] F (QI w (fun z F' => z = keepT A k ∧ (keepT A k = 0 ∧ F' 120 0 = wI (keepZ A k) ∧ CI F' (keepN A k) ∨ keepT A k ≠ 0 ∧ CI F' A) ∧ FrL F F')) := by
  refine ConW.mk (lv := [(0, .ref (adr w 0)), (1, .int (iI k)), (2, .ref (adr w 120))]) (by decide) (Nat.le_of_ble_eq_true rfl) rfl ?_
  intro pg ev s0 mi be me co C htab hz
  refine q_aload_n C 2 dL_keep_0 rfl ?_
  refine q_iconst C 0 dL_keep_1 ?_
  refine q_aload_n C 0 dL_keep_2 rfl ?_
  refine q_iload_n C 1 dL_keep_3 rfl ?_
  refine q_cIX C htab (q_runX (As := [.int (iI k)]) (rest := [.int (iI 0), .ref (adr w 120)]) C (k_X3_keep l hl hA hk) kd0 (by decide) rfl wd_766 wd_764 wd_765 wd_77 wd_763 nd_X3_keep rfl (by decide) ⟨Nat.le_refl _, Nat.le_refl _⟩ rfl (Nat.le_of_ble_eq_true rfl) dL_keep_4) (fun z F1 hp => ?_) (fun E F1 q9 hX => ?_)
  · obtain ⟨hT, hz1, hJ⟩ := hp
    subst hz1
    refine q_i2l C dL_keep_7 ?_
    refine q_last (z := wI (keepZ A k)) C kd120 ⟨by decide, by rw [ln120]; decide⟩ dL_keep_8 ?_
    refine q_goto C 15 dL_keep_9 (by decide) ?_
    refine q_iconst C 0 dL_keep_15 ?_
    refine q_wiret C ⟨Nat.le_refl _, Nat.le_refl _⟩ dL_keep_16 ?_
    exact ⟨hT.symm, Or.inl ⟨hT, up_eq, hJ.1.keep (fun k a _ _ => up_k (by omega))⟩, fun k a c => (up_k c).trans (hJ.2 k a)⟩
  · obtain ⟨hX, hJ⟩ := hX
    obtain ⟨rfl, hT⟩ := hX
    refine ⟨12, ⟨[], [], (0, 9, 12, 31), rfl, rfl, ⟨by decide, by decide⟩, by decide, wd_630, nw_638, by decide, fun z hz => absurd hz List.not_mem_nil⟩, ?_⟩
    refine q_astore_n (lv' := [(3, .ref q9), (0, .ref (adr w 0)), (1, .int (iI k)), (2, .ref (adr w 120))]) C dL_keep_12 (by decide) rfl ?_
    refine q_iconst C 1 dL_keep_13 ?_
    refine q_wiret C ⟨Nat.le_refl _, Nat.le_refl _⟩ dL_keep_14 ?_
    exact ⟨hT.symm, Or.inr ⟨by rw [hT]; decide, hJ.1⟩, fun k a c => hJ.2 k a⟩

set_option maxRecDepth 100000 in
set_option maxHeartbeats 4000000 in
theorem k_L_goBack (l : Launch) (hl : l.stackTraces = false) {w : WP} {F : FF} {A : AS} {k : Int} (hA : CI F A) (hk : inR k) : ConW l yL_goBack cL_goBack 4 (some .int) [(0, 9, 12, 31), (0, 9, 15, 15)] 7 w [.ref (adr w 0), .int (iI k), .ref (adr w 120)] F (QI w (fun z F' => z = goBackT A k ∧ (goBackT A k = 0 ∧ F' 120 0 = wI (goBackZ A k) ∧ CI F' (goBackN A k) ∨ goBackT A k ≠ 0 ∧ CI F' A) ∧ FrL F F')) := by
  refine ConW.mk (lv := [(0, .ref (adr w 0)), (1, .int (iI k)), (2, .ref (adr w 120))]) (by decide) (Nat.le_of_ble_eq_true rfl) rfl ?_
  intro pg ev s0 mi be me co C htab hz
  refine q_aload_n C 2 dL_goBack_0 rfl ?_
  refine q_iconst C 0 dL_goBack_1 ?_
  refine q_aload_n C 0 dL_goBack_2 rfl ?_
  refine q_iload_n C 1 dL_goBack_3 rfl ?_
  refine q_cIX C htab (q_runX (As := [.int (iI k)]) (rest := [.int (iI 0), .ref (adr w 120)]) C (k_X3_goBack l hl hA hk) kd0 (by decide) rfl wd_777 wd_775 wd_776 wd_77 wd_774 nd_X3_goBack rfl (by decide) ⟨Nat.le_refl _, Nat.le_refl _⟩ rfl (Nat.le_of_ble_eq_true rfl) dL_goBack_4) (fun z F1 hp => ?_) (fun E F1 q9 hX => ?_)
  · obtain ⟨hT, hz1, hJ⟩ := hp
    subst hz1
    refine q_i2l C dL_goBack_7 ?_
    refine q_last (z := wI (goBackZ A k)) C kd120 ⟨by decide, by rw [ln120]; decide⟩ dL_goBack_8 ?_
    refine q_goto C 18 dL_goBack_9 (by decide) ?_
    refine q_iconst C 0 dL_goBack_18 ?_
    refine q_wiret C ⟨Nat.le_refl _, Nat.le_refl _⟩ dL_goBack_19 ?_
    exact ⟨hT.symm, Or.inl ⟨hT, up_eq, hJ.1.keep (fun k a _ _ => up_k (by omega))⟩, fun k a c => (up_k c).trans (hJ.2 k a)⟩
  · obtain ⟨hX, hJ⟩ := hX
    rcases hX with hX | hX
    · obtain ⟨rfl, hT⟩ := hX
      refine ⟨12, ⟨[], [(0, 9, 15, 15)], (0, 9, 12, 31), rfl, rfl, ⟨by decide, by decide⟩, by decide, wd_630, nw_638, by decide, fun z hz => absurd hz List.not_mem_nil⟩, ?_⟩
      refine q_astore_n (lv' := [(3, .ref q9), (0, .ref (adr w 0)), (1, .int (iI k)), (2, .ref (adr w 120))]) C dL_goBack_12 (by decide) rfl ?_
      refine q_iconst C 1 dL_goBack_13 ?_
      refine q_wiret C ⟨Nat.le_refl _, Nat.le_refl _⟩ dL_goBack_14 ?_
      exact ⟨hT.symm, Or.inr ⟨by rw [hT]; decide, hJ.1⟩, fun k a c => hJ.2 k a⟩
    · obtain ⟨rfl, hT⟩ := hX
      refine ⟨15, ⟨[(0, 9, 12, 31)], [], (0, 9, 15, 15), rfl, rfl, ⟨by decide, by decide⟩, by decide, wd_467, nw_563, by decide, fun z hz => by simp only [List.mem_cons, List.not_mem_nil, or_false] at hz; subst hz; exact ⟨by decide, _, wd_630, by decide, by decide⟩⟩, ?_⟩
      refine q_astore_n (lv' := [(3, .ref q9), (0, .ref (adr w 0)), (1, .int (iI k)), (2, .ref (adr w 120))]) C dL_goBack_15 (by decide) rfl ?_
      refine q_iconst C 2 dL_goBack_16 ?_
      refine q_wiret C ⟨Nat.le_refl _, Nat.le_refl _⟩ dL_goBack_17 ?_
      exact ⟨hT.symm, Or.inr ⟨by rw [hT]; decide, hJ.1⟩, fun k a c => hJ.2 k a⟩

set_option maxRecDepth 100000 in
set_option maxHeartbeats 4000000 in
theorem k_L_undo (l : Launch) (hl : l.stackTraces = false) {w : WP} {F : FF} {A : AS} (hA : CI F A) : ConW l yL_undo cL_undo 3 (some .int) [(0, 8, 11, 15)] 7 w [.ref (adr w 0), .ref (adr w 120)] F (QI w (fun z F' => z = undoT A ∧ (undoT A = 0 ∧ F' 120 0 = wI (undoZ A) ∧ CI F' (undoN A) ∨ undoT A ≠ 0 ∧ CI F' A) ∧ FrL F F')) := by
  refine ConW.mk (lv := [(0, .ref (adr w 0)), (1, .ref (adr w 120))]) (by decide) (Nat.le_of_ble_eq_true rfl) rfl ?_
  intro pg ev s0 mi be me co C htab hz
  refine q_aload_n C 1 dL_undo_0 rfl ?_
  refine q_iconst C 0 dL_undo_1 ?_
  refine q_aload_n C 0 dL_undo_2 rfl ?_
  refine q_cIX C htab (q_runX (As := []) (rest := [.int (iI 0), .ref (adr w 120)]) C (k_X3_undo l hl hA ) kd0 (by decide) rfl wd_785 wd_783 wd_784 wd_77 wd_782 nd_X3_undo rfl (by decide) ⟨Nat.le_refl _, Nat.le_refl _⟩ rfl (Nat.le_of_ble_eq_true rfl) dL_undo_3) (fun z F1 hp => ?_) (fun E F1 q9 hX => ?_)
  · obtain ⟨hT, hz1, hJ⟩ := hp
    subst hz1
    refine q_i2l C dL_undo_6 ?_
    refine q_last (z := wI (undoZ A)) C kd120 ⟨by decide, by rw [ln120]; decide⟩ dL_undo_7 ?_
    refine q_goto C 14 dL_undo_8 (by decide) ?_
    refine q_iconst C 0 dL_undo_14 ?_
    refine q_wiret C ⟨Nat.le_refl _, Nat.le_refl _⟩ dL_undo_15 ?_
    exact ⟨hT.symm, Or.inl ⟨hT, up_eq, hJ.1.keep (fun k a _ _ => up_k (by omega))⟩, fun k a c => (up_k c).trans (hJ.2 k a)⟩
  · obtain ⟨hX, hJ⟩ := hX
    obtain ⟨rfl, hT⟩ := hX
    refine ⟨11, ⟨[], [], (0, 8, 11, 15), rfl, rfl, ⟨by decide, by decide⟩, by decide, wd_467, nw_563, by decide, fun z hz => absurd hz List.not_mem_nil⟩, ?_⟩
    refine q_astore_n (lv' := [(2, .ref q9), (0, .ref (adr w 0)), (1, .ref (adr w 120))]) C dL_undo_11 (by decide) rfl ?_
    refine q_iconst C 1 dL_undo_12 ?_
    refine q_wiret C ⟨Nat.le_refl _, Nat.le_refl _⟩ dL_undo_13 ?_
    exact ⟨hT.symm, Or.inr ⟨by rw [hT]; decide, hJ.1⟩, fun k a c => hJ.2 k a⟩

set_option maxRecDepth 100000 in
set_option maxHeartbeats 4000000 in
theorem k_L_wordOf (l : Launch) (hl : l.stackTraces = false) {w : WP} {F : FF} {A : AS} {x k : Int} (hA : CI F A) (hx : inR x) (hk : inR k) : ConW l yL_wordOf cL_wordOf 5 (some .int) [(0, 10, 13, 13), (0, 10, 17, 31)] 7 w [.ref (adr w 0), .int (iI x), .int (iI k), .ref (adr w 120)] F (QI w (fun z F' => z = wordOfT A x k ∧ (wordOfT A x k = 0 ∧ F' 120 0 = wI (wordOfZ A x k) ∧ CI F' (wordOfN A x k) ∨ wordOfT A x k ≠ 0 ∧ CI F' A) ∧ FrL F F')) := by
  refine ConW.mk (lv := [(0, .ref (adr w 0)), (1, .int (iI x)), (2, .int (iI k)), (3, .ref (adr w 120))]) (by decide) (Nat.le_of_ble_eq_true rfl) rfl ?_
  intro pg ev s0 mi be me co C htab hz
  refine q_aload_n C 3 dL_wordOf_0 rfl ?_
  refine q_iconst C 0 dL_wordOf_1 ?_
  refine q_aload_n C 0 dL_wordOf_2 rfl ?_
  refine q_iload_n C 1 dL_wordOf_3 rfl ?_
  refine q_iload_n C 2 dL_wordOf_4 rfl ?_
  refine q_cIX C htab (q_runX (As := [.int (iI x), .int (iI k)]) (rest := [.int (iI 0), .ref (adr w 120)]) C (k_X3_wordOf l hl hA hx hk) kd0 (by decide) rfl wd_797 wd_795 wd_796 wd_77 wd_794 nd_X3_wordOf rfl (by decide) ⟨Nat.le_refl _, Nat.le_refl _⟩ rfl (Nat.le_of_ble_eq_true rfl) dL_wordOf_5) (fun z F1 hp => ?_) (fun E F1 q9 hX => ?_)
  · obtain ⟨hT, hz1, hJ⟩ := hp
    subst hz1
    refine q_i2l C dL_wordOf_8 ?_
    refine q_last (z := wI (wordOfZ A x k)) C kd120 ⟨by decide, by rw [ln120]; decide⟩ dL_wordOf_9 ?_
    refine q_goto C 21 dL_wordOf_10 (by decide) ?_
    refine q_iconst C 0 dL_wordOf_21 ?_
    refine q_wiret C ⟨Nat.le_refl _, Nat.le_refl _⟩ dL_wordOf_22 ?_
    exact ⟨hT.symm, Or.inl ⟨hT, up_eq, hJ.1.keep (fun k a _ _ => up_k (by omega))⟩, fun k a c => (up_k c).trans (hJ.2 k a)⟩
  · obtain ⟨hX, hJ⟩ := hX
    rcases hX with hX | hX
    · obtain ⟨rfl, hT⟩ := hX
      refine ⟨13, ⟨[], [(0, 10, 17, 31)], (0, 10, 13, 13), rfl, rfl, ⟨by decide, by decide⟩, by decide, wd_466, nw_491, by decide, fun z hz => absurd hz List.not_mem_nil⟩, ?_⟩
      refine q_astore (lv' := [(4, .ref q9), (0, .ref (adr w 0)), (1, .int (iI x)), (2, .int (iI k)), (3, .ref (adr w 120))]) C dL_wordOf_13 (by decide) rfl ?_
      refine q_iconst C 1 dL_wordOf_15 ?_
      refine q_wiret C ⟨Nat.le_refl _, Nat.le_refl _⟩ dL_wordOf_16 ?_
      exact ⟨hT.symm, Or.inr ⟨by rw [hT]; decide, hJ.1⟩, fun k a c => hJ.2 k a⟩
    · obtain ⟨rfl, hT⟩ := hX
      refine ⟨17, ⟨[(0, 10, 13, 13)], [], (0, 10, 17, 31), rfl, rfl, ⟨by decide, by decide⟩, by decide, wd_630, nw_638, by decide, fun z hz => by simp only [List.mem_cons, List.not_mem_nil, or_false] at hz; subst hz; exact ⟨by decide, _, wd_466, by decide, by decide⟩⟩, ?_⟩
      refine q_astore (lv' := [(4, .ref q9), (0, .ref (adr w 0)), (1, .int (iI x)), (2, .int (iI k)), (3, .ref (adr w 120))]) C dL_wordOf_17 (by decide) rfl ?_
      refine q_iconst C 2 dL_wordOf_19 ?_
      refine q_wiret C ⟨Nat.le_refl _, Nat.le_refl _⟩ dL_wordOf_20 ?_
      exact ⟨hT.symm, Or.inr ⟨by rw [hT]; decide, hJ.1⟩, fun k a c => hJ.2 k a⟩

set_option maxRecDepth 100000 in
set_option maxHeartbeats 4000000 in
theorem k_L_at (l : Launch) (hl : l.stackTraces = false) {w : WP} {F : FF} {A : AS} {d y p : Int} (hA : CI F A) (hd : inR d) (hy : inR y) (hp : inR p) : ConW l yL_at cL_at 6 (some .int) [(0, 12, 15, 13)] 7 w [.ref (adr w 0), .int (iI d), .int (iI y), .int (iI p), .ref (adr w 120)] F (QI w (fun z F' => z = atT A d y p ∧ (atT A d y p = 0 ∧ F' 120 0 = wI (atZ A d y p) ∧ CI F' (atN A d y p) ∨ atT A d y p ≠ 0 ∧ CI F' A) ∧ FrL F F')) := by
  refine ConW.mk (lv := [(0, .ref (adr w 0)), (1, .int (iI d)), (2, .int (iI y)), (3, .int (iI p)), (4, .ref (adr w 120))]) (by decide) (Nat.le_of_ble_eq_true rfl) rfl ?_
  intro pg ev s0 mi be me co C htab hz
  refine q_aload C 4 dL_at_0 rfl ?_
  refine q_iconst C 0 dL_at_2 ?_
  refine q_aload_n C 0 dL_at_3 rfl ?_
  refine q_iload_n C 1 dL_at_4 rfl ?_
  refine q_iload_n C 2 dL_at_5 rfl ?_
  refine q_iload_n C 3 dL_at_6 rfl ?_
  refine q_cIX C htab (q_runX (As := [.int (iI d), .int (iI y), .int (iI p)]) (rest := [.int (iI 0), .ref (adr w 120)]) C (k_X3_at l hl hA hd hy hp) kd0 (by decide) rfl wd_805 wd_803 wd_804 wd_77 wd_802 nd_X3_at rfl (by decide) ⟨Nat.le_refl _, Nat.le_refl _⟩ rfl (Nat.le_of_ble_eq_true rfl) dL_at_7) (fun z F1 hp => ?_) (fun E F1 q9 hX => ?_)
  · obtain ⟨hT, hz1, hJ⟩ := hp
    subst hz1
    refine q_i2l C dL_at_10 ?_
    refine q_last (z := wI (atZ A d y p)) C kd120 ⟨by decide, by rw [ln120]; decide⟩ dL_at_11 ?_
    refine q_goto C 19 dL_at_12 (by decide) ?_
    refine q_iconst C 0 dL_at_19 ?_
    refine q_wiret C ⟨Nat.le_refl _, Nat.le_refl _⟩ dL_at_20 ?_
    exact ⟨hT.symm, Or.inl ⟨hT, up_eq, hJ.1.keep (fun k a _ _ => up_k (by omega))⟩, fun k a c => (up_k c).trans (hJ.2 k a)⟩
  · obtain ⟨hX, hJ⟩ := hX
    obtain ⟨rfl, hT⟩ := hX
    refine ⟨15, ⟨[], [], (0, 12, 15, 13), rfl, rfl, ⟨by decide, by decide⟩, by decide, wd_466, nw_491, by decide, fun z hz => absurd hz List.not_mem_nil⟩, ?_⟩
    refine q_astore (lv' := [(5, .ref q9), (0, .ref (adr w 0)), (1, .int (iI d)), (2, .int (iI y)), (3, .int (iI p)), (4, .ref (adr w 120))]) C dL_at_15 (by decide) rfl ?_
    refine q_iconst C 1 dL_at_17 ?_
    refine q_wiret C ⟨Nat.le_refl _, Nat.le_refl _⟩ dL_at_18 ?_
    exact ⟨hT.symm, Or.inr ⟨by rw [hT]; decide, hJ.1⟩, fun k a c => hJ.2 k a⟩

set_option maxRecDepth 100000 in
set_option maxHeartbeats 4000000 in
theorem k_L_lineOf (l : Launch) (hl : l.stackTraces = false) {w : WP} {F : FF} {A : AS} {d y k : Int} (hA : CI F A) (hd : inR d) (hy : inR y) (hk : inR k) : ConW l yL_lineOf cL_lineOf 6 (some .int) [(0, 12, 15, 13), (0, 12, 19, 31)] 7 w [.ref (adr w 0), .int (iI d), .int (iI y), .int (iI k), .ref (adr w 120)] F (QI w (fun z F' => z = lineOfT A d y k ∧ (lineOfT A d y k = 0 ∧ F' 120 0 = wI (lineOfZ A d y k) ∧ CI F' (lineOfN A d y k) ∨ lineOfT A d y k ≠ 0 ∧ CI F' A) ∧ FrL F F')) := by
  refine ConW.mk (lv := [(0, .ref (adr w 0)), (1, .int (iI d)), (2, .int (iI y)), (3, .int (iI k)), (4, .ref (adr w 120))]) (by decide) (Nat.le_of_ble_eq_true rfl) rfl ?_
  intro pg ev s0 mi be me co C htab hz
  refine q_aload C 4 dL_lineOf_0 rfl ?_
  refine q_iconst C 0 dL_lineOf_2 ?_
  refine q_aload_n C 0 dL_lineOf_3 rfl ?_
  refine q_iload_n C 1 dL_lineOf_4 rfl ?_
  refine q_iload_n C 2 dL_lineOf_5 rfl ?_
  refine q_iload_n C 3 dL_lineOf_6 rfl ?_
  refine q_cIX C htab (q_runX (As := [.int (iI d), .int (iI y), .int (iI k)]) (rest := [.int (iI 0), .ref (adr w 120)]) C (k_X3_lineOf l hl hA hd hy hk) kd0 (by decide) rfl wd_813 wd_811 wd_812 wd_77 wd_810 nd_X3_lineOf rfl (by decide) ⟨Nat.le_refl _, Nat.le_refl _⟩ rfl (Nat.le_of_ble_eq_true rfl) dL_lineOf_7) (fun z F1 hp => ?_) (fun E F1 q9 hX => ?_)
  · obtain ⟨hT, hz1, hJ⟩ := hp
    subst hz1
    refine q_i2l C dL_lineOf_10 ?_
    refine q_last (z := wI (lineOfZ A d y k)) C kd120 ⟨by decide, by rw [ln120]; decide⟩ dL_lineOf_11 ?_
    refine q_goto C 23 dL_lineOf_12 (by decide) ?_
    refine q_iconst C 0 dL_lineOf_23 ?_
    refine q_wiret C ⟨Nat.le_refl _, Nat.le_refl _⟩ dL_lineOf_24 ?_
    exact ⟨hT.symm, Or.inl ⟨hT, up_eq, hJ.1.keep (fun k a _ _ => up_k (by omega))⟩, fun k a c => (up_k c).trans (hJ.2 k a)⟩
  · obtain ⟨hX, hJ⟩ := hX
    rcases hX with hX | hX
    · obtain ⟨rfl, hT⟩ := hX
      refine ⟨15, ⟨[], [(0, 12, 19, 31)], (0, 12, 15, 13), rfl, rfl, ⟨by decide, by decide⟩, by decide, wd_466, nw_491, by decide, fun z hz => absurd hz List.not_mem_nil⟩, ?_⟩
      refine q_astore (lv' := [(5, .ref q9), (0, .ref (adr w 0)), (1, .int (iI d)), (2, .int (iI y)), (3, .int (iI k)), (4, .ref (adr w 120))]) C dL_lineOf_15 (by decide) rfl ?_
      refine q_iconst C 1 dL_lineOf_17 ?_
      refine q_wiret C ⟨Nat.le_refl _, Nat.le_refl _⟩ dL_lineOf_18 ?_
      exact ⟨hT.symm, Or.inr ⟨by rw [hT]; decide, hJ.1⟩, fun k a c => hJ.2 k a⟩
    · obtain ⟨rfl, hT⟩ := hX
      refine ⟨19, ⟨[(0, 12, 15, 13)], [], (0, 12, 19, 31), rfl, rfl, ⟨by decide, by decide⟩, by decide, wd_630, nw_638, by decide, fun z hz => by simp only [List.mem_cons, List.not_mem_nil, or_false] at hz; subst hz; exact ⟨by decide, _, wd_466, by decide, by decide⟩⟩, ?_⟩
      refine q_astore (lv' := [(5, .ref q9), (0, .ref (adr w 0)), (1, .int (iI d)), (2, .int (iI y)), (3, .int (iI k)), (4, .ref (adr w 120))]) C dL_lineOf_19 (by decide) rfl ?_
      refine q_iconst C 2 dL_lineOf_21 ?_
      refine q_wiret C ⟨Nat.le_refl _, Nat.le_refl _⟩ dL_lineOf_22 ?_
      exact ⟨hT.symm, Or.inr ⟨by rw [hT]; decide, hJ.1⟩, fun k a c => hJ.2 k a⟩

set_option maxRecDepth 100000 in
set_option maxHeartbeats 4000000 in
theorem k_L_doorOf (l : Launch) (hl : l.stackTraces = false) {w : WP} {F : FF} {A : AS} {d k : Int} (hA : CI F A) (hd : inR d) (hk : inR k) : ConW l yL_doorOf cL_doorOf 5 (some .int) [(0, 10, 13, 13), (0, 10, 17, 31)] 7 w [.ref (adr w 0), .int (iI d), .int (iI k), .ref (adr w 120)] F (QI w (fun z F' => z = doorOfT A d k ∧ (doorOfT A d k = 0 ∧ F' 120 0 = wI (doorOfZ A d k) ∧ CI F' (doorOfN A d k) ∨ doorOfT A d k ≠ 0 ∧ CI F' A) ∧ FrL F F')) := by
  refine ConW.mk (lv := [(0, .ref (adr w 0)), (1, .int (iI d)), (2, .int (iI k)), (3, .ref (adr w 120))]) (by decide) (Nat.le_of_ble_eq_true rfl) rfl ?_
  intro pg ev s0 mi be me co C htab hz
  refine q_aload_n C 3 dL_doorOf_0 rfl ?_
  refine q_iconst C 0 dL_doorOf_1 ?_
  refine q_aload_n C 0 dL_doorOf_2 rfl ?_
  refine q_iload_n C 1 dL_doorOf_3 rfl ?_
  refine q_iload_n C 2 dL_doorOf_4 rfl ?_
  refine q_cIX C htab (q_runX (As := [.int (iI d), .int (iI k)]) (rest := [.int (iI 0), .ref (adr w 120)]) C (k_X3_doorOf l hl hA hd hk) kd0 (by decide) rfl wd_821 wd_819 wd_820 wd_77 wd_818 nd_X3_doorOf rfl (by decide) ⟨Nat.le_refl _, Nat.le_refl _⟩ rfl (Nat.le_of_ble_eq_true rfl) dL_doorOf_5) (fun z F1 hp => ?_) (fun E F1 q9 hX => ?_)
  · obtain ⟨hT, hz1, hJ⟩ := hp
    subst hz1
    refine q_i2l C dL_doorOf_8 ?_
    refine q_last (z := wI (doorOfZ A d k)) C kd120 ⟨by decide, by rw [ln120]; decide⟩ dL_doorOf_9 ?_
    refine q_goto C 21 dL_doorOf_10 (by decide) ?_
    refine q_iconst C 0 dL_doorOf_21 ?_
    refine q_wiret C ⟨Nat.le_refl _, Nat.le_refl _⟩ dL_doorOf_22 ?_
    exact ⟨hT.symm, Or.inl ⟨hT, up_eq, hJ.1.keep (fun k a _ _ => up_k (by omega))⟩, fun k a c => (up_k c).trans (hJ.2 k a)⟩
  · obtain ⟨hX, hJ⟩ := hX
    rcases hX with hX | hX
    · obtain ⟨rfl, hT⟩ := hX
      refine ⟨13, ⟨[], [(0, 10, 17, 31)], (0, 10, 13, 13), rfl, rfl, ⟨by decide, by decide⟩, by decide, wd_466, nw_491, by decide, fun z hz => absurd hz List.not_mem_nil⟩, ?_⟩
      refine q_astore (lv' := [(4, .ref q9), (0, .ref (adr w 0)), (1, .int (iI d)), (2, .int (iI k)), (3, .ref (adr w 120))]) C dL_doorOf_13 (by decide) rfl ?_
      refine q_iconst C 1 dL_doorOf_15 ?_
      refine q_wiret C ⟨Nat.le_refl _, Nat.le_refl _⟩ dL_doorOf_16 ?_
      exact ⟨hT.symm, Or.inr ⟨by rw [hT]; decide, hJ.1⟩, fun k a c => hJ.2 k a⟩
    · obtain ⟨rfl, hT⟩ := hX
      refine ⟨17, ⟨[(0, 10, 13, 13)], [], (0, 10, 17, 31), rfl, rfl, ⟨by decide, by decide⟩, by decide, wd_630, nw_638, by decide, fun z hz => by simp only [List.mem_cons, List.not_mem_nil, or_false] at hz; subst hz; exact ⟨by decide, _, wd_466, by decide, by decide⟩⟩, ?_⟩
      refine q_astore (lv' := [(4, .ref q9), (0, .ref (adr w 0)), (1, .int (iI d)), (2, .int (iI k)), (3, .ref (adr w 120))]) C dL_doorOf_17 (by decide) rfl ?_
      refine q_iconst C 2 dL_doorOf_19 ?_
      refine q_wiret C ⟨Nat.le_refl _, Nat.le_refl _⟩ dL_doorOf_20 ?_
      exact ⟨hT.symm, Or.inr ⟨by rw [hT]; decide, hJ.1⟩, fun k a c => hJ.2 k a⟩

set_option maxRecDepth 100000 in
set_option maxHeartbeats 4000000 in
theorem k_L_count (l : Launch) (hl : l.stackTraces = false) {w : WP} {F : FF} {A : AS} {k : Int} (hA : CI F A) (hk : inR k) : ConW l yL_count cL_count 4 (some .int) [(0, 9, 12, 31)] 7 w [.ref (adr w 0), .int (iI k), .ref (adr w 120)] F (QI w (fun z F' => z = countT A k ∧ (countT A k = 0 ∧ F' 120 0 = wI (countZ A k) ∧ CI F' (countN A k) ∨ countT A k ≠ 0 ∧ CI F' A) ∧ FrL F F')) := by
  refine ConW.mk (lv := [(0, .ref (adr w 0)), (1, .int (iI k)), (2, .ref (adr w 120))]) (by decide) (Nat.le_of_ble_eq_true rfl) rfl ?_
  intro pg ev s0 mi be me co C htab hz
  refine q_aload_n C 2 dL_count_0 rfl ?_
  refine q_iconst C 0 dL_count_1 ?_
  refine q_aload_n C 0 dL_count_2 rfl ?_
  refine q_iload_n C 1 dL_count_3 rfl ?_
  refine q_cIX C htab (q_runX (As := [.int (iI k)]) (rest := [.int (iI 0), .ref (adr w 120)]) C (k_X3_count l hl hA hk) kd0 (by decide) rfl wd_829 wd_827 wd_828 wd_77 wd_826 nd_X3_count rfl (by decide) ⟨Nat.le_refl _, Nat.le_refl _⟩ rfl (Nat.le_of_ble_eq_true rfl) dL_count_4) (fun z F1 hp => ?_) (fun E F1 q9 hX => ?_)
  · obtain ⟨hT, hz1, hJ⟩ := hp
    subst hz1
    refine q_i2l C dL_count_7 ?_
    refine q_last (z := wI (countZ A k)) C kd120 ⟨by decide, by rw [ln120]; decide⟩ dL_count_8 ?_
    refine q_goto C 15 dL_count_9 (by decide) ?_
    refine q_iconst C 0 dL_count_15 ?_
    refine q_wiret C ⟨Nat.le_refl _, Nat.le_refl _⟩ dL_count_16 ?_
    exact ⟨hT.symm, Or.inl ⟨hT, up_eq, hJ.1.keep (fun k a _ _ => up_k (by omega))⟩, fun k a c => (up_k c).trans (hJ.2 k a)⟩
  · obtain ⟨hX, hJ⟩ := hX
    obtain ⟨rfl, hT⟩ := hX
    refine ⟨12, ⟨[], [], (0, 9, 12, 31), rfl, rfl, ⟨by decide, by decide⟩, by decide, wd_630, nw_638, by decide, fun z hz => absurd hz List.not_mem_nil⟩, ?_⟩
    refine q_astore_n (lv' := [(3, .ref q9), (0, .ref (adr w 0)), (1, .int (iI k)), (2, .ref (adr w 120))]) C dL_count_12 (by decide) rfl ?_
    refine q_iconst C 1 dL_count_13 ?_
    refine q_wiret C ⟨Nat.le_refl _, Nat.le_refl _⟩ dL_count_14 ?_
    exact ⟨hT.symm, Or.inr ⟨by rw [hT]; decide, hJ.1⟩, fun k a c => hJ.2 k a⟩

set_option maxRecDepth 100000 in
set_option maxHeartbeats 4000000 in
theorem k_L_setting (l : Launch) (hl : l.stackTraces = false) {w : WP} {F : FF} {A : AS} {k : Int} (hA : CI F A) (hk : inR k) : ConW l yL_setting cL_setting 4 (some .int) [(0, 9, 12, 13)] 7 w [.ref (adr w 0), .int (iI k), .ref (adr w 120)] F (QI w (fun z F' => z = settingT A k ∧ (settingT A k = 0 ∧ F' 120 0 = wI (settingZ A k) ∧ CI F' (settingN A k) ∨ settingT A k ≠ 0 ∧ CI F' A) ∧ FrL F F')) := by
  refine ConW.mk (lv := [(0, .ref (adr w 0)), (1, .int (iI k)), (2, .ref (adr w 120))]) (by decide) (Nat.le_of_ble_eq_true rfl) rfl ?_
  intro pg ev s0 mi be me co C htab hz
  refine q_aload_n C 2 dL_setting_0 rfl ?_
  refine q_iconst C 0 dL_setting_1 ?_
  refine q_aload_n C 0 dL_setting_2 rfl ?_
  refine q_iload_n C 1 dL_setting_3 rfl ?_
  refine q_cIX C htab (q_runX (As := [.int (iI k)]) (rest := [.int (iI 0), .ref (adr w 120)]) C (k_X3_setting l hl hA hk) kd0 (by decide) rfl wd_837 wd_835 wd_836 wd_77 wd_834 nd_X3_setting rfl (by decide) ⟨Nat.le_refl _, Nat.le_refl _⟩ rfl (Nat.le_of_ble_eq_true rfl) dL_setting_4) (fun z F1 hp => ?_) (fun E F1 q9 hX => ?_)
  · obtain ⟨hT, hz1, hJ⟩ := hp
    subst hz1
    refine q_i2l C dL_setting_7 ?_
    refine q_last (z := wI (settingZ A k)) C kd120 ⟨by decide, by rw [ln120]; decide⟩ dL_setting_8 ?_
    refine q_goto C 15 dL_setting_9 (by decide) ?_
    refine q_iconst C 0 dL_setting_15 ?_
    refine q_wiret C ⟨Nat.le_refl _, Nat.le_refl _⟩ dL_setting_16 ?_
    exact ⟨hT.symm, Or.inl ⟨hT, up_eq, hJ.1.keep (fun k a _ _ => up_k (by omega))⟩, fun k a c => (up_k c).trans (hJ.2 k a)⟩
  · obtain ⟨hX, hJ⟩ := hX
    obtain ⟨rfl, hT⟩ := hX
    refine ⟨12, ⟨[], [], (0, 9, 12, 13), rfl, rfl, ⟨by decide, by decide⟩, by decide, wd_466, nw_491, by decide, fun z hz => absurd hz List.not_mem_nil⟩, ?_⟩
    refine q_astore_n (lv' := [(3, .ref q9), (0, .ref (adr w 0)), (1, .int (iI k)), (2, .ref (adr w 120))]) C dL_setting_12 (by decide) rfl ?_
    refine q_iconst C 1 dL_setting_13 ?_
    refine q_wiret C ⟨Nat.le_refl _, Nat.le_refl _⟩ dL_setting_14 ?_
    exact ⟨hT.symm, Or.inr ⟨by rw [hT]; decide, hJ.1⟩, fun k a c => hJ.2 k a⟩

set_option maxRecDepth 100000 in
set_option maxHeartbeats 4000000 in
theorem k_L_whyNot (l : Launch) (hl : l.stackTraces = false) {w : WP} {F : FF} {A : AS} {x d y p : Int} (hA : CI F A) (hx : inR x) (hd : inR d) (hy : inR y) (hp : inR p) : ConW l yL_whyNot cL_whyNot 7 (some .int) [(0, 14, 17, 13)] 7 w [.ref (adr w 0), .int (iI x), .int (iI d), .int (iI y), .int (iI p), .ref (adr w 120)] F (QI w (fun z F' => z = whyNotT A x d y p ∧ (whyNotT A x d y p = 0 ∧ F' 120 0 = wI (whyNotZ A x d y p) ∧ CI F' (whyNotN A x d y p) ∨ whyNotT A x d y p ≠ 0 ∧ CI F' A) ∧ FrL F F')) := by
  refine ConW.mk (lv := [(0, .ref (adr w 0)), (1, .int (iI x)), (2, .int (iI d)), (3, .int (iI y)), (4, .int (iI p)), (5, .ref (adr w 120))]) (by decide) (Nat.le_of_ble_eq_true rfl) rfl ?_
  intro pg ev s0 mi be me co C htab hz
  refine q_aload C 5 dL_whyNot_0 rfl ?_
  refine q_iconst C 0 dL_whyNot_2 ?_
  refine q_aload_n C 0 dL_whyNot_3 rfl ?_
  refine q_iload_n C 1 dL_whyNot_4 rfl ?_
  refine q_iload_n C 2 dL_whyNot_5 rfl ?_
  refine q_iload_n C 3 dL_whyNot_6 rfl ?_
  refine q_iload C 4 dL_whyNot_7 rfl ?_
  refine q_cIX C htab (q_runX (As := [.int (iI x), .int (iI d), .int (iI y), .int (iI p)]) (rest := [.int (iI 0), .ref (adr w 120)]) C (k_X3_whyNot l hl hA hx hd hy hp) kd0 (by decide) rfl wd_844 wd_842 wd_843 wd_77 wd_841 nd_X3_whyNot rfl (by decide) ⟨Nat.le_refl _, Nat.le_refl _⟩ rfl (Nat.le_of_ble_eq_true rfl) dL_whyNot_9) (fun z F1 hp => ?_) (fun E F1 q9 hX => ?_)
  · obtain ⟨hT, hz1, hJ⟩ := hp
    subst hz1
    refine q_i2l C dL_whyNot_12 ?_
    refine q_last (z := wI (whyNotZ A x d y p)) C kd120 ⟨by decide, by rw [ln120]; decide⟩ dL_whyNot_13 ?_
    refine q_goto C 21 dL_whyNot_14 (by decide) ?_
    refine q_iconst C 0 dL_whyNot_21 ?_
    refine q_wiret C ⟨Nat.le_refl _, Nat.le_refl _⟩ dL_whyNot_22 ?_
    exact ⟨hT.symm, Or.inl ⟨hT, up_eq, hJ.1.keep (fun k a _ _ => up_k (by omega))⟩, fun k a c => (up_k c).trans (hJ.2 k a)⟩
  · obtain ⟨hX, hJ⟩ := hX
    obtain ⟨rfl, hT⟩ := hX
    refine ⟨17, ⟨[], [], (0, 14, 17, 13), rfl, rfl, ⟨by decide, by decide⟩, by decide, wd_466, nw_491, by decide, fun z hz => absurd hz List.not_mem_nil⟩, ?_⟩
    refine q_astore (lv' := [(6, .ref q9), (0, .ref (adr w 0)), (1, .int (iI x)), (2, .int (iI d)), (3, .int (iI y)), (4, .int (iI p)), (5, .ref (adr w 120))]) C dL_whyNot_17 (by decide) rfl ?_
    refine q_iconst C 1 dL_whyNot_19 ?_
    refine q_wiret C ⟨Nat.le_refl _, Nat.le_refl _⟩ dL_whyNot_20 ?_
    exact ⟨hT.symm, Or.inr ⟨by rw [hT]; decide, hJ.1⟩, fun k a c => hJ.2 k a⟩

set_option maxRecDepth 100000 in
set_option maxHeartbeats 4000000 in
theorem k_L_bestWord (l : Launch) (hl : l.stackTraces = false) {w : WP} {F : FF} {A : AS} {d y : Int} (hA : CI F A) (hd : inR d) (hy : inR y) : ConW l yL_bestWord cL_bestWord 5 (some .int) [(0, 10, 13, 13)] 7 w [.ref (adr w 0), .int (iI d), .int (iI y), .ref (adr w 120)] F (QI w (fun z F' => z = bestWordT A d y ∧ (bestWordT A d y = 0 ∧ F' 120 0 = wI (bestWordZ A d y) ∧ CI F' (bestWordN A d y) ∨ bestWordT A d y ≠ 0 ∧ CI F' A) ∧ FrL F F')) := by
  refine ConW.mk (lv := [(0, .ref (adr w 0)), (1, .int (iI d)), (2, .int (iI y)), (3, .ref (adr w 120))]) (by decide) (Nat.le_of_ble_eq_true rfl) rfl ?_
  intro pg ev s0 mi be me co C htab hz
  refine q_aload_n C 3 dL_bestWord_0 rfl ?_
  refine q_iconst C 0 dL_bestWord_1 ?_
  refine q_aload_n C 0 dL_bestWord_2 rfl ?_
  refine q_iload_n C 1 dL_bestWord_3 rfl ?_
  refine q_iload_n C 2 dL_bestWord_4 rfl ?_
  refine q_cIX C htab (q_runX (As := [.int (iI d), .int (iI y)]) (rest := [.int (iI 0), .ref (adr w 120)]) C (k_X3_bestWord l hl hA hd hy) kd0 (by decide) rfl wd_851 wd_849 wd_850 wd_77 wd_848 nd_X3_bestWord rfl (by decide) ⟨Nat.le_refl _, Nat.le_refl _⟩ rfl (Nat.le_of_ble_eq_true rfl) dL_bestWord_5) (fun z F1 hp => ?_) (fun E F1 q9 hX => ?_)
  · obtain ⟨hT, hz1, hJ⟩ := hp
    subst hz1
    refine q_i2l C dL_bestWord_8 ?_
    refine q_last (z := wI (bestWordZ A d y)) C kd120 ⟨by decide, by rw [ln120]; decide⟩ dL_bestWord_9 ?_
    refine q_goto C 17 dL_bestWord_10 (by decide) ?_
    refine q_iconst C 0 dL_bestWord_17 ?_
    refine q_wiret C ⟨Nat.le_refl _, Nat.le_refl _⟩ dL_bestWord_18 ?_
    exact ⟨hT.symm, Or.inl ⟨hT, up_eq, hJ.1.keep (fun k a _ _ => up_k (by omega))⟩, fun k a c => (up_k c).trans (hJ.2 k a)⟩
  · obtain ⟨hX, hJ⟩ := hX
    obtain ⟨rfl, hT⟩ := hX
    refine ⟨13, ⟨[], [], (0, 10, 13, 13), rfl, rfl, ⟨by decide, by decide⟩, by decide, wd_466, nw_491, by decide, fun z hz => absurd hz List.not_mem_nil⟩, ?_⟩
    refine q_astore (lv' := [(4, .ref q9), (0, .ref (adr w 0)), (1, .int (iI d)), (2, .int (iI y)), (3, .ref (adr w 120))]) C dL_bestWord_13 (by decide) rfl ?_
    refine q_iconst C 1 dL_bestWord_15 ?_
    refine q_wiret C ⟨Nat.le_refl _, Nat.le_refl _⟩ dL_bestWord_16 ?_
    exact ⟨hT.symm, Or.inr ⟨by rw [hT]; decide, hJ.1⟩, fun k a c => hJ.2 k a⟩

set_option maxRecDepth 100000 in
set_option maxHeartbeats 4000000 in
theorem k_L_ifSlept (l : Launch) (hl : l.stackTraces = false) {w : WP} {F : FF} {A : AS} {m d : Int} (hA : CI F A) (hm : inR m) (hd : inR d) : ConW l yL_ifSlept cL_ifSlept 5 (some .int) [(0, 10, 13, 13), (0, 10, 17, 31)] 7 w [.ref (adr w 0), .int (iI m), .int (iI d), .ref (adr w 120)] F (QI w (fun z F' => z = ifSleptT A m d ∧ (ifSleptT A m d = 0 ∧ F' 120 0 = wI (ifSleptZ A m d) ∧ CI F' (ifSleptN A m d) ∨ ifSleptT A m d ≠ 0 ∧ CI F' A) ∧ FrL F F')) := by
  refine ConW.mk (lv := [(0, .ref (adr w 0)), (1, .int (iI m)), (2, .int (iI d)), (3, .ref (adr w 120))]) (by decide) (Nat.le_of_ble_eq_true rfl) rfl ?_
  intro pg ev s0 mi be me co C htab hz
  refine q_aload_n C 3 dL_ifSlept_0 rfl ?_
  refine q_iconst C 0 dL_ifSlept_1 ?_
  refine q_aload_n C 0 dL_ifSlept_2 rfl ?_
  refine q_iload_n C 1 dL_ifSlept_3 rfl ?_
  refine q_iload_n C 2 dL_ifSlept_4 rfl ?_
  refine q_cIX C htab (q_runX (As := [.int (iI m), .int (iI d)]) (rest := [.int (iI 0), .ref (adr w 120)]) C (k_X3_ifSlept l hl hA hm hd) kd0 (by decide) rfl wd_858 wd_856 wd_857 wd_77 wd_855 nd_X3_ifSlept rfl (by decide) ⟨Nat.le_refl _, Nat.le_refl _⟩ rfl (Nat.le_of_ble_eq_true rfl) dL_ifSlept_5) (fun z F1 hp => ?_) (fun E F1 q9 hX => ?_)
  · obtain ⟨hT, hz1, hJ⟩ := hp
    subst hz1
    refine q_i2l C dL_ifSlept_8 ?_
    refine q_last (z := wI (ifSleptZ A m d)) C kd120 ⟨by decide, by rw [ln120]; decide⟩ dL_ifSlept_9 ?_
    refine q_goto C 21 dL_ifSlept_10 (by decide) ?_
    refine q_iconst C 0 dL_ifSlept_21 ?_
    refine q_wiret C ⟨Nat.le_refl _, Nat.le_refl _⟩ dL_ifSlept_22 ?_
    exact ⟨hT.symm, Or.inl ⟨hT, up_eq, hJ.1.keep (fun k a _ _ => up_k (by omega))⟩, fun k a c => (up_k c).trans (hJ.2 k a)⟩
  · obtain ⟨hX, hJ⟩ := hX
    rcases hX with hX | hX
    · obtain ⟨rfl, hT⟩ := hX
      refine ⟨13, ⟨[], [(0, 10, 17, 31)], (0, 10, 13, 13), rfl, rfl, ⟨by decide, by decide⟩, by decide, wd_466, nw_491, by decide, fun z hz => absurd hz List.not_mem_nil⟩, ?_⟩
      refine q_astore (lv' := [(4, .ref q9), (0, .ref (adr w 0)), (1, .int (iI m)), (2, .int (iI d)), (3, .ref (adr w 120))]) C dL_ifSlept_13 (by decide) rfl ?_
      refine q_iconst C 1 dL_ifSlept_15 ?_
      refine q_wiret C ⟨Nat.le_refl _, Nat.le_refl _⟩ dL_ifSlept_16 ?_
      exact ⟨hT.symm, Or.inr ⟨by rw [hT]; decide, hJ.1⟩, fun k a c => hJ.2 k a⟩
    · obtain ⟨rfl, hT⟩ := hX
      refine ⟨17, ⟨[(0, 10, 13, 13)], [], (0, 10, 17, 31), rfl, rfl, ⟨by decide, by decide⟩, by decide, wd_630, nw_638, by decide, fun z hz => by simp only [List.mem_cons, List.not_mem_nil, or_false] at hz; subst hz; exact ⟨by decide, _, wd_466, by decide, by decide⟩⟩, ?_⟩
      refine q_astore (lv' := [(4, .ref q9), (0, .ref (adr w 0)), (1, .int (iI m)), (2, .int (iI d)), (3, .ref (adr w 120))]) C dL_ifSlept_17 (by decide) rfl ?_
      refine q_iconst C 2 dL_ifSlept_19 ?_
      refine q_wiret C ⟨Nat.le_refl _, Nat.le_refl _⟩ dL_ifSlept_20 ?_
      exact ⟨hT.symm, Or.inr ⟨by rw [hT]; decide, hJ.1⟩, fun k a c => hJ.2 k a⟩
