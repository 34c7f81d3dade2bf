/-! what the making methods leave -/
theorem dfl0 : ∀ j, j < 13 → defaultValue (tyX0 j) = vp_V [.null, .null, .null, .null, .null, .null, .null, .null, .null, .int (iI 0), .int (iI 0), .int (iI 0), .int (iI 0)] j := by
  intro j hj
  rcases (show j = 0 ∨ j = 1 ∨ j = 2 ∨ j = 3 ∨ j = 4 ∨ j = 5 ∨ j = 6 ∨ j = 7 ∨ j = 8 ∨ j = 9 ∨ j = 10 ∨ j = 11 ∨ j = 12 by omega) with rfl | rfl | rfl | rfl | rfl | rfl | rfl | rfl | rfl | rfl | rfl | rfl | rfl <;> rfl
theorem dfl1 : ∀ j, j < 3 → defaultValue (tyX1 j) = vp_V [.null, .int (iI 0), .int (iI 0)] j := by
  intro j hj
  rcases (show j = 0 ∨ j = 1 ∨ j = 2 by omega) with rfl | rfl | rfl <;> rfl
theorem dfl2 : ∀ j, j < 7 → defaultValue (tyX2 j) = vp_V [.null, .null, .null, .int (iI 0), .int (iI 0), .int (iI 0), .int (iI 0)] j := by
  intro j hj
  rcases (show j = 0 ∨ j = 1 ∨ j = 2 ∨ j = 3 ∨ j = 4 ∨ j = 5 ∨ j = 6 by omega) with rfl | rfl | rfl | rfl | rfl | rfl | rfl <;> rfl
theorem dfl3 : ∀ j, j < 8 → defaultValue (tyX3 j) = vp_V [.null, .null, .null, .null, .null, .null, .int (iI 0), .null] j := by
  intro j hj
  rcases (show j = 0 ∨ j = 1 ∨ j = 2 ∨ j = 3 ∨ j = 4 ∨ j = 5 ∨ j = 6 ∨ j = 7 by omega) with rfl | rfl | rfl | rfl | rfl | rfl | rfl | rfl <;> rfl
abbrev bdL (w : WP) (h q1 q2 q3 q4 q5 q6 q7 q8 q9 : Nat) : va_W := [(h, .inr (0, [.ref q1, .ref q2, .ref q3, .ref q4, .ref q5, .ref q6, .ref q7, .ref q8, .ref q9, .int (iI 0), .int (iI 0), .int (iI 0), .int (iI 0)])), (q1, aI w 40 (f0 1 40)), (q2, aI w 96 (f0 1 96)), (q3, aI w 16 (f0 0 16)), (q4, aI w 16 (f0 1 16)), (q5, aI w 16 (f0 1 16)), (q6, aI w 40 (f0 0 40)), (q7, aI w 4 (f0 0 4)), (q8, aI w 4 (f0 0 4)), (q9, aI w 3 (f0 2 3))]
set_option maxRecDepth 100000 in
theorem seg_bd {w : WP} {ad : Nat → Nat} {b : Nat} (hb : IsB b) : seg w ad b 10 = bdL w (ad b) (ad (b + 1)) (ad (b + 2)) (ad (b + 3)) (ad (b + 4)) (ad (b + 5)) (ad (b + 6)) (ad (b + 7)) (ad (b + 8)) (ad (b + 9)) := by
  rcases (by simpa [IsB] using hb : b = 1 ∨ b = 11 ∨ b = 23 ∨ b = 33 ∨ b = 43 ∨ b = 53 ∨ b = 63 ∨ b = 73 ∨ b = 90 ∨ b = 100) with rfl | rfl | rfl | rfl | rfl | rfl | rfl | rfl | rfl | rfl <;> rfl
theorem f0_set : ru (ru (f0 0 3) 1 20) 2 1 = f0 2 3 := by
  funext j
  unfold ru
  by_cases h2 : j = 2
  · rw [if_pos h2, h2]; rfl
  · rw [if_neg h2]
    by_cases h1 : j = 1
    · rw [if_pos h1, h1]; rfl
    · rw [if_neg h1, f0_0]
      unfold f0
      by_cases h : 0 ≤ j ∧ j < ((3 : Nat) : Int)
      · rw [if_pos h, if_neg (by decide), if_pos rfl, if_neg h1, if_neg h2]
      · rw [if_neg h]
theorem set_self {α : Type} {L : List α} {i : Nat} {x : α} (h : L[i]? = some x) : L.set i x = L := by
  apply List.ext_getElem?
  intro j
  by_cases e : j = i
  · subst e
    rw [List.getElem?_set_self (List.getElem?_eq_some_iff.mp h).1, h]
  · rw [List.getElem?_set_ne (Ne.symm e)]
theorem at_setL {α : Type} {L : List α} {i : Nat} {x y : α} (h : L[i]? = some x) : (L.set i y)[i]? = some y := List.getElem?_set_self (List.getElem?_eq_some_iff.mp h).1
def gp (x : Int) : Int → Int := fun j => if 0 ≤ j ∧ j < x then -1 else 0
theorem gp_0 (N : Nat) : gp 0 = f0 0 N := by
  funext j
  unfold gp
  rw [f0_0, if_neg (by omega)]
theorem gp_s {x : Int} (h : 0 ≤ x) : ru (gp x) x (-1) = gp (x + 1) := by
  funext j
  unfold ru gp
  by_cases e : j = x
  · rw [if_pos e, if_pos (by omega)]
  · rw [if_neg e]
    by_cases g : 0 ≤ j ∧ j < x
    · rw [if_pos g, if_pos (by omega)]
    · rw [if_neg g, if_neg (by omega)]
theorem gp_N (N : Nat) : gp (N : Int) = f0 1 N := by
  funext j
  unfold gp f0
  rw [if_pos (show (1 : Nat) = 1 from rfl)]
set_option maxRecDepth 100000 in
set_option maxHeartbeats 4000000 in
theorem k_Gfill (l : Launch) {w : WP} {pre L : va_W} {i a N : Nat} (hi : L[i]? = some (a, aI w N (f0 0 N))) (hN : N ≤ 2000) : ConG l yX3_fillRow cX3_fillRow 3 0 0 0 w [.ref a, .int (iI (-1))] (pre ++ L) (fun ws' => ws' = pre ++ L.set i (a, aI w N (f0 1 N))) := by
  refine ConG.mk (lv := [(0, .ref a), (1, .int (iI (-1)))]) (by decide) (Nat.le_of_ble_eq_true rfl) rfl ?_
  intro p e s m be me c C hin
  refine r_iconst C 0 dX3_fillRow_0 ?_
  refine r_istore_n (lv' := [(2, .int (iI 0)), (0, .ref a), (1, .int (iI (-1)))]) C dX3_fillRow_1 (by decide) rfl ?_
  refine Wk.eq (ws' := pre ++ L.set i (a, aI w N (gp 0))) (by rw [gp_0 N, set_self hi]) ?_
  refine wf1 (P := fun x => Wk p l e _ s m _ be me c _ w _ _ _ 2 [(2, .int (iI x)), (0, .ref a), (1, .int (iI (-1)))] [] (pre ++ L.set i (a, aI w N (gp x)))) (I := fun x => 0 ≤ x ∧ x ≤ (N : Int)) (μ := fun x => ((N : Int) - x).toNat) ?_ 0 ⟨by omega, by omega⟩
  intro x hx ih
  refine r_iload_n C 0 dX3_fillRow_2 rfl ?_
  refine r_aload_n C 1 dX3_fillRow_3 rfl ?_
  refine r_alen (L := L.set i (a, aI w N (gp x))) C i 0 (at_setL hi) rfl dX3_fillRow_4 ?_
  refine r_icmp_ge C 18 dX3_fillRow_5 ⟨by omega, by omega⟩ ⟨by omega, by omega⟩ (by decide) (fun h => ?_) (fun h => ?_)
  · refine r_vret C (by decide) dX3_fillRow_18 ?_
    rw [show x = (N : Int) by omega, gp_N]
  · refine r_aload_n C 1 dX3_fillRow_8 rfl ?_
    refine r_iload_n C 0 dX3_fillRow_9 rfl ?_
    refine r_iload_n C 2 dX3_fillRow_10 rfl ?_
    refine r_iast (L := L.set i (a, aI w N (gp x))) C i (at_setL hi) ⟨by omega, by omega⟩ hN dX3_fillRow_11 ?_
    refine Wk.eq (ws' := pre ++ L.set i (a, aI w N (gp (x + 1)))) (by rw [List.set_set, gp_s hx.1]) ?_
    refine r_iinc (lv' := [(2, .int (iI (x + 1))), (0, .ref a), (1, .int (iI (-1)))]) C 0 dX3_fillRow_12 rfl (by decide) rfl ?_
    refine r_goto C 2 dX3_fillRow_15 (by decide) ?_
    exact ih (x + 1) ⟨by omega, by omega⟩ (by omega)
section RK2
variable {p : Program} {l : Launch} {e : Env} {R : Room} {s : State} {m : MethodId} {args : Array Value} {below : List Frame} {meth : Method} {c : Code} {Qf : State → Prop} {w : WP} {k n nL pc : Nat} {lv lv' : List (Nat × Value)} {st : List Value} {ws pre L : va_W} {cc : ByteArray} {own : String} {ret : Option FieldType}
theorem r_if_lt (C : Ck p s m args meth c cc own ret nL w) {x : Int} {off : Int} (tgt : Nat) (d : decode cc pc = .ok (.ifCond .lt off, 3)) (hx : inR x) (ht : (pc : Int) + off = (tgt : Int)) (kt : x < 0 → Wk p l e R s m args below meth c Qf w k n nL tgt lv st ws) (kf : 0 ≤ x → Wk p l e R s m args below meth c Qf w k n nL (pc + 3) lv st ws) : Wk p l e R s m args below meth c Qf w k n nL pc lv (.int (iI x) :: st) ws :=
  fun H locs ls hH hS hl => lv_if_lt C.1 C.2.1 d ht (fun hc => kt (by rw [iI_0, iI_lt hx (show inR 0 by decide)] at hc; omega) H locs ls hH hS hl) (fun hc => kf (by rw [iI_0, iI_lt hx (show inR 0 by decide)] at hc; omega) H locs ls hH hS hl)
end RK2
set_option maxRecDepth 100000 in
set_option maxHeartbeats 4000000 in
theorem k_Gset (l : Launch) {w : WP} {pre L : va_W} {i a N : Nat} {x z : Int} {g : Int → Int} (hi : L[i]? = some (a, aI w N g)) (hx : 0 ≤ x ∧ x < (N : Int)) (hN : N ≤ 2000) : ConG l yX3_setCell cX3_setCell 3 0 0 0 w [.ref a, .int (iI x), .int (iI z)] (pre ++ L) (fun ws' => ws' = pre ++ L.set i (a, aI w N (ru g x z))) := by
  refine ConG.mk (lv := [(0, .ref a), (1, .int (iI x)), (2, .int (iI z))]) (by decide) (Nat.le_of_ble_eq_true rfl) rfl ?_
  intro p e s m be me c C hin
  refine r_iload_n C 1 dX3_setCell_0 rfl ?_
  refine r_if_lt C 14 dX3_setCell_1 ⟨by omega, by omega⟩ (by decide) (fun h => by omega) (fun h => ?_)
  refine r_iload_n C 1 dX3_setCell_4 rfl ?_
  refine r_aload_n C 0 dX3_setCell_5 rfl ?_
  refine r_alen C i 0 hi rfl dX3_setCell_6 ?_
  refine r_icmp_ge C 14 dX3_setCell_7 ⟨by omega, by omega⟩ ⟨by omega, by omega⟩ (by decide) (fun h => by omega) (fun h => ?_)
  refine r_aload_n C 0 dX3_setCell_10 rfl ?_
  refine r_iload_n C 1 dX3_setCell_11 rfl ?_
  refine r_iload_n C 2 dX3_setCell_12 rfl ?_
  refine r_iast C i hi hx hN dX3_setCell_13 ?_
  exact r_vret C (by decide) dX3_setCell_14 rfl
theorem seg_hist {w : WP} {ad : Nat → Nat} : seg w ad 21 62 = (((((seg w ad 21 2 ++ seg w ad 23 10) ++ seg w ad 33 10) ++ seg w ad 43 10) ++ seg w ad 53 10) ++ seg w ad 63 10) ++ seg w ad 73 10 := by
  rw [show (62 : Nat) = 2 + 10 + 10 + 10 + 10 + 10 + 10 from rfl, seg_add, seg_add, seg_add, seg_add, seg_add, seg_add]
theorem gA22 {ad : Nat → Nat} : (fun j => (gA 22 j).map ad) = va_up (va_up (va_up (va_up (va_up (va_up (fun _ => none) 0 (some (ad 23))) 1 (some (ad 33))) 2 (some (ad 43))) 3 (some (ad 53))) 4 (some (ad 63))) 5 (some (ad 73)) := by
  funext j
  unfold gA va_up
  rw [if_pos rfl]
  by_cases h : j < 6
  · rcases (show j = 0 ∨ j = 1 ∨ j = 2 ∨ j = 3 ∨ j = 4 ∨ j = 5 by omega) with rfl | rfl | rfl | rfl | rfl | rfl <;> rfl
  · rw [if_neg h, if_neg (by omega), if_neg (by omega), if_neg (by omega), if_neg (by omega), if_neg (by omega), if_neg (by omega)]; rfl
theorem gA83 {ad : Nat → Nat} : (fun j => (gA 83 j).map ad) = va_up (va_up (fun _ => none) 0 (some (ad 90))) 1 (some (ad 100)) := by
  funext j
  unfold gA va_up
  rw [if_neg (by decide)]
  by_cases h : j < 2
  · rcases (show j = 0 ∨ j = 1 by omega) with rfl | rfl <;> rfl
  · rw [if_neg h, if_neg (by omega), if_neg (by omega)]; rfl
theorem seg22 {w : WP} {ad : Nat → Nat} : seg w ad 21 2 = [(ad 21, .inr (1, [.ref (ad 22), .int (iI 0), .int (iI 0)])), (ad 22, aQ w 6 (va_up (va_up (va_up (va_up (va_up (va_up (fun _ => none) 0 (some (ad 23))) 1 (some (ad 33))) 2 (some (ad 43))) 3 (some (ad 53))) 4 (some (ad 63))) 5 (some (ad 73))))] := by
  rw [← gA22]; rfl
theorem seg83 {w : WP} {ad : Nat → Nat} : seg w ad 83 3 = [(ad 83, aQ w 2 (va_up (va_up (fun _ => none) 0 (some (ad 90))) 1 (some (ad 100)))), (ad 84, aB w 2 (f0 0 2)), (ad 85, aI w 60 (f0 0 60))] := by
  rw [← gA83]; rfl
theorem seg_mp {w : WP} {ad : Nat → Nat} : seg w ad 0 110 = ((((((seg w ad 0 1 ++ seg w ad 1 10) ++ seg w ad 11 10) ++ seg w ad 21 62) ++ seg w ad 83 3) ++ seg w ad 86 4) ++ seg w ad 90 10) ++ seg w ad 100 10 := by
  rw [show (110 : Nat) = 1 + 10 + 10 + 62 + 3 + 4 + 10 + 10 from rfl, seg_add, seg_add, seg_add, seg_add, seg_add, seg_add, seg_add]
set_option maxRecDepth 100000 in
theorem hi_norm {w : WP} {ad : Nat → Nat} : seg w ad 21 62 = seg w (fun k => if 21 ≤ k ∧ k < 83 then ad k else 0) 21 62 := by
  rw [seg_hist, seg_hist, seg22, seg22, seg_bd (show IsB 23 by unfold IsB; decide), seg_bd (show IsB 33 by unfold IsB; decide), seg_bd (show IsB 43 by unfold IsB; decide), seg_bd (show IsB 53 by unfold IsB; decide), seg_bd (show IsB 63 by unfold IsB; decide), seg_bd (show IsB 73 by unfold IsB; decide), seg_bd (show IsB 23 by unfold IsB; decide), seg_bd (show IsB 33 by unfold IsB; decide), seg_bd (show IsB 43 by unfold IsB; decide), seg_bd (show IsB 53 by unfold IsB; decide), seg_bd (show IsB 63 by unfold IsB; decide), seg_bd (show IsB 73 by unfold IsB; decide)]
  rfl
theorem hi_congr {w : WP} {ad ad' : Nat → Nat} (h : ∀ k, 21 ≤ k → k < 83 → ad k = ad' k) : seg w ad 21 62 = seg w ad' 21 62 := by
  rw [hi_norm (ad := ad), hi_norm (ad := ad')]
  congr 1
  funext k
  by_cases g : 21 ≤ k ∧ k < 83
  · rw [if_pos g, if_pos g, h k g.1 g.2]
  · rw [if_neg g, if_neg g]

set_option maxRecDepth 100000 in
set_option maxHeartbeats 4000000 in
theorem k_G0 (l : Launch) {w : WP} {pre : va_W} {h : Nat} {b : Nat} (hb : IsB b) : ConG l yX0_init cX0_init 1 1 9 235 w [.ref h] (pre ++ [(h, .inr (0, [.null, .null, .null, .null, .null, .null, .null, .null, .null, .int (iI 0), .int (iI 0), .int (iI 0), .int (iI 0)]))]) (fun ws' => ∃ ad : Nat → Nat, ad b = h ∧ ws' = pre ++ seg w ad b 10) := by
  refine ConG.mk (lv := [(0, .ref h)]) (by decide) (Nat.le_of_ble_eq_true rfl) rfl ?_
  intro p e s m be me c C hin
  refine r_aload_n C 0 dX0_init_0 rfl ?_
  refine r_obj C wd_36 (by decide) dX0_init_1 ?_
  refine r_aload_n C 0 dX0_init_4 rfl ?_
  refine r_bipush C 40 dX0_init_5 (by decide) ?_
  refine r_newa (L := ([(h, .inr (0, [.null, .null, .null, .null, .null, .null, .null, .null, .null, .int (iI 0), .int (iI 0), .int (iI 0), .int (iI 0)]))] : va_W)) C 40 (by decide) dX0_init_7 (fun q1 => ?_)
  refine Wk.eq (ws' := pre ++ ([(h, .inr (0, [.null, .null, .null, .null, .null, .null, .null, .null, .null, .int (iI 0), .int (iI 0), .int (iI 0), .int (iI 0)])), (q1, aI w 40 (f0 0 40))] : va_W)) rfl ?_
  refine r_putF (L := ([(h, .inr (0, [.null, .null, .null, .null, .null, .null, .null, .null, .null, .int (iI 0), .int (iI 0), .int (iI 0), .int (iI 0)])), (q1, aI w 40 (f0 0 40))] : va_W)) (v := .ref q1) C hin 0 (ci := 0) (j := 0) tyX0 rfl rfl uws0 tyX0_ok nmX0 (by decide) wd_43 rfl rfl rfl rfl rfl (Nat.le_of_ble_eq_true rfl) dX0_init_9 ?_
  refine Wk.eq (ws' := pre ++ ([(h, .inr (0, [.ref q1, .null, .null, .null, .null, .null, .null, .null, .null, .int (iI 0), .int (iI 0), .int (iI 0), .int (iI 0)])), (q1, aI w 40 (f0 0 40))] : va_W)) rfl ?_
  refine r_aload_n C 0 dX0_init_12 rfl ?_
  refine r_bipush C 96 dX0_init_13 (by decide) ?_
  refine r_newa (L := ([(h, .inr (0, [.ref q1, .null, .null, .null, .null, .null, .null, .null, .null, .int (iI 0), .int (iI 0), .int (iI 0), .int (iI 0)])), (q1, aI w 40 (f0 0 40))] : va_W)) C 96 (by decide) dX0_init_15 (fun q2 => ?_)
  refine Wk.eq (ws' := pre ++ ([(h, .inr (0, [.ref q1, .null, .null, .null, .null, .null, .null, .null, .null, .int (iI 0), .int (iI 0), .int (iI 0), .int (iI 0)])), (q1, aI w 40 (f0 0 40)), (q2, aI w 96 (f0 0 96))] : va_W)) rfl ?_
  refine r_putF (L := ([(h, .inr (0, [.ref q1, .null, .null, .null, .null, .null, .null, .null, .null, .int (iI 0), .int (iI 0), .int (iI 0), .int (iI 0)])), (q1, aI w 40 (f0 0 40)), (q2, aI w 96 (f0 0 96))] : va_W)) (v := .ref q2) C hin 0 (ci := 0) (j := 1) tyX0 rfl rfl uws0 tyX0_ok nmX0 (by decide) wd_44 rfl rfl rfl rfl rfl (Nat.le_of_ble_eq_true rfl) dX0_init_17 ?_
  refine Wk.eq (ws' := pre ++ ([(h, .inr (0, [.ref q1, .ref q2, .null, .null, .null, .null, .null, .null, .null, .int (iI 0), .int (iI 0), .int (iI 0), .int (iI 0)])), (q1, aI w 40 (f0 0 40)), (q2, aI w 96 (f0 0 96))] : va_W)) rfl ?_
  refine r_aload_n C 0 dX0_init_20 rfl ?_
  refine r_bipush C 16 dX0_init_21 (by decide) ?_
  refine r_newa (L := ([(h, .inr (0, [.ref q1, .ref q2, .null, .null, .null, .null, .null, .null, .null, .int (iI 0), .int (iI 0), .int (iI 0), .int (iI 0)])), (q1, aI w 40 (f0 0 40)), (q2, aI w 96 (f0 0 96))] : va_W)) C 16 (by decide) dX0_init_23 (fun q3 => ?_)
  refine Wk.eq (ws' := pre ++ ([(h, .inr (0, [.ref q1, .ref q2, .null, .null, .null, .null, .null, .null, .null, .int (iI 0), .int (iI 0), .int (iI 0), .int (iI 0)])), (q1, aI w 40 (f0 0 40)), (q2, aI w 96 (f0 0 96)), (q3, aI w 16 (f0 0 16))] : va_W)) rfl ?_
  refine r_putF (L := ([(h, .inr (0, [.ref q1, .ref q2, .null, .null, .null, .null, .null, .null, .null, .int (iI 0), .int (iI 0), .int (iI 0), .int (iI 0)])), (q1, aI w 40 (f0 0 40)), (q2, aI w 96 (f0 0 96)), (q3, aI w 16 (f0 0 16))] : va_W)) (v := .ref q3) C hin 0 (ci := 0) (j := 2) tyX0 rfl rfl uws0 tyX0_ok nmX0 (by decide) wd_45 rfl rfl rfl rfl rfl (Nat.le_of_ble_eq_true rfl) dX0_init_25 ?_
  refine Wk.eq (ws' := pre ++ ([(h, .inr (0, [.ref q1, .ref q2, .ref q3, .null, .null, .null, .null, .null, .null, .int (iI 0), .int (iI 0), .int (iI 0), .int (iI 0)])), (q1, aI w 40 (f0 0 40)), (q2, aI w 96 (f0 0 96)), (q3, aI w 16 (f0 0 16))] : va_W)) rfl ?_
  refine r_aload_n C 0 dX0_init_28 rfl ?_
  refine r_bipush C 16 dX0_init_29 (by decide) ?_
  refine r_newa (L := ([(h, .inr (0, [.ref q1, .ref q2, .ref q3, .null, .null, .null, .null, .null, .null, .int (iI 0), .int (iI 0), .int (iI 0), .int (iI 0)])), (q1, aI w 40 (f0 0 40)), (q2, aI w 96 (f0 0 96)), (q3, aI w 16 (f0 0 16))] : va_W)) C 16 (by decide) dX0_init_31 (fun q4 => ?_)
  refine Wk.eq (ws' := pre ++ ([(h, .inr (0, [.ref q1, .ref q2, .ref q3, .null, .null, .null, .null, .null, .null, .int (iI 0), .int (iI 0), .int (iI 0), .int (iI 0)])), (q1, aI w 40 (f0 0 40)), (q2, aI w 96 (f0 0 96)), (q3, aI w 16 (f0 0 16)), (q4, aI w 16 (f0 0 16))] : va_W)) rfl ?_
  refine r_putF (L := ([(h, .inr (0, [.ref q1, .ref q2, .ref q3, .null, .null, .null, .null, .null, .null, .int (iI 0), .int (iI 0), .int (iI 0), .int (iI 0)])), (q1, aI w 40 (f0 0 40)), (q2, aI w 96 (f0 0 96)), (q3, aI w 16 (f0 0 16)), (q4, aI w 16 (f0 0 16))] : va_W)) (v := .ref q4) C hin 0 (ci := 0) (j := 3) tyX0 rfl rfl uws0 tyX0_ok nmX0 (by decide) wd_46 rfl rfl rfl rfl rfl (Nat.le_of_ble_eq_true rfl) dX0_init_33 ?_
  refine Wk.eq (ws' := pre ++ ([(h, .inr (0, [.ref q1, .ref q2, .ref q3, .ref q4, .null, .null, .null, .null, .null, .int (iI 0), .int (iI 0), .int (iI 0), .int (iI 0)])), (q1, aI w 40 (f0 0 40)), (q2, aI w 96 (f0 0 96)), (q3, aI w 16 (f0 0 16)), (q4, aI w 16 (f0 0 16))] : va_W)) rfl ?_
  refine r_aload_n C 0 dX0_init_36 rfl ?_
  refine r_bipush C 16 dX0_init_37 (by decide) ?_
  refine r_newa (L := ([(h, .inr (0, [.ref q1, .ref q2, .ref q3, .ref q4, .null, .null, .null, .null, .null, .int (iI 0), .int (iI 0), .int (iI 0), .int (iI 0)])), (q1, aI w 40 (f0 0 40)), (q2, aI w 96 (f0 0 96)), (q3, aI w 16 (f0 0 16)), (q4, aI w 16 (f0 0 16))] : va_W)) C 16 (by decide) dX0_init_39 (fun q5 => ?_)
  refine Wk.eq (ws' := pre ++ ([(h, .inr (0, [.ref q1, .ref q2, .ref q3, .ref q4, .null, .null, .null, .null, .null, .int (iI 0), .int (iI 0), .int (iI 0), .int (iI 0)])), (q1, aI w 40 (f0 0 40)), (q2, aI w 96 (f0 0 96)), (q3, aI w 16 (f0 0 16)), (q4, aI w 16 (f0 0 16)), (q5, aI w 16 (f0 0 16))] : va_W)) rfl ?_
  refine r_putF (L := ([(h, .inr (0, [.ref q1, .ref q2, .ref q3, .ref q4, .null, .null, .null, .null, .null, .int (iI 0), .int (iI 0), .int (iI 0), .int (iI 0)])), (q1, aI w 40 (f0 0 40)), (q2, aI w 96 (f0 0 96)), (q3, aI w 16 (f0 0 16)), (q4, aI w 16 (f0 0 16)), (q5, aI w 16 (f0 0 16))] : va_W)) (v := .ref q5) C hin 0 (ci := 0) (j := 4) tyX0 rfl rfl uws0 tyX0_ok nmX0 (by decide) wd_47 rfl rfl rfl rfl rfl (Nat.le_of_ble_eq_true rfl) dX0_init_41 ?_
  refine Wk.eq (ws' := pre ++ ([(h, .inr (0, [.ref q1, .ref q2, .ref q3, .ref q4, .ref q5, .null, .null, .null, .null, .int (iI 0), .int (iI 0), .int (iI 0), .int (iI 0)])), (q1, aI w 40 (f0 0 40)), (q2, aI w 96 (f0 0 96)), (q3, aI w 16 (f0 0 16)), (q4, aI w 16 (f0 0 16)), (q5, aI w 16 (f0 0 16))] : va_W)) rfl ?_
  refine r_aload_n C 0 dX0_init_44 rfl ?_
  refine r_bipush C 40 dX0_init_45 (by decide) ?_
  refine r_newa (L := ([(h, .inr (0, [.ref q1, .ref q2, .ref q3, .ref q4, .ref q5, .null, .null, .null, .null, .int (iI 0), .int (iI 0), .int (iI 0), .int (iI 0)])), (q1, aI w 40 (f0 0 40)), (q2, aI w 96 (f0 0 96)), (q3, aI w 16 (f0 0 16)), (q4, aI w 16 (f0 0 16)), (q5, aI w 16 (f0 0 16))] : va_W)) C 40 (by decide) dX0_init_47 (fun q6 => ?_)
  refine Wk.eq (ws' := pre ++ ([(h, .inr (0, [.ref q1, .ref q2, .ref q3, .ref q4, .ref q5, .null, .null, .null, .null, .int (iI 0), .int (iI 0), .int (iI 0), .int (iI 0)])), (q1, aI w 40 (f0 0 40)), (q2, aI w 96 (f0 0 96)), (q3, aI w 16 (f0 0 16)), (q4, aI w 16 (f0 0 16)), (q5, aI w 16 (f0 0 16)), (q6, aI w 40 (f0 0 40))] : va_W)) rfl ?_
  refine r_putF (L := ([(h, .inr (0, [.ref q1, .ref q2, .ref q3, .ref q4, .ref q5, .null, .null, .null, .null, .int (iI 0), .int (iI 0), .int (iI 0), .int (iI 0)])), (q1, aI w 40 (f0 0 40)), (q2, aI w 96 (f0 0 96)), (q3, aI w 16 (f0 0 16)), (q4, aI w 16 (f0 0 16)), (q5, aI w 16 (f0 0 16)), (q6, aI w 40 (f0 0 40))] : va_W)) (v := .ref q6) C hin 0 (ci := 0) (j := 5) tyX0 rfl rfl uws0 tyX0_ok nmX0 (by decide) wd_48 rfl rfl rfl rfl rfl (Nat.le_of_ble_eq_true rfl) dX0_init_49 ?_
  refine Wk.eq (ws' := pre ++ ([(h, .inr (0, [.ref q1, .ref q2, .ref q3, .ref q4, .ref q5, .ref q6, .null, .null, .null, .int (iI 0), .int (iI 0), .int (iI 0), .int (iI 0)])), (q1, aI w 40 (f0 0 40)), (q2, aI w 96 (f0 0 96)), (q3, aI w 16 (f0 0 16)), (q4, aI w 16 (f0 0 16)), (q5, aI w 16 (f0 0 16)), (q6, aI w 40 (f0 0 40))] : va_W)) rfl ?_
  refine r_aload_n C 0 dX0_init_52 rfl ?_
  refine r_iconst C 4 dX0_init_53 ?_
  refine r_newa (L := ([(h, .inr (0, [.ref q1, .ref q2, .ref q3, .ref q4, .ref q5, .ref q6, .null, .null, .null, .int (iI 0), .int (iI 0), .int (iI 0), .int (iI 0)])), (q1, aI w 40 (f0 0 40)), (q2, aI w 96 (f0 0 96)), (q3, aI w 16 (f0 0 16)), (q4, aI w 16 (f0 0 16)), (q5, aI w 16 (f0 0 16)), (q6, aI w 40 (f0 0 40))] : va_W)) C 4 (by decide) dX0_init_54 (fun q7 => ?_)
  refine Wk.eq (ws' := pre ++ ([(h, .inr (0, [.ref q1, .ref q2, .ref q3, .ref q4, .ref q5, .ref q6, .null, .null, .null, .int (iI 0), .int (iI 0), .int (iI 0), .int (iI 0)])), (q1, aI w 40 (f0 0 40)), (q2, aI w 96 (f0 0 96)), (q3, aI w 16 (f0 0 16)), (q4, aI w 16 (f0 0 16)), (q5, aI w 16 (f0 0 16)), (q6, aI w 40 (f0 0 40)), (q7, aI w 4 (f0 0 4))] : va_W)) rfl ?_
  refine r_putF (L := ([(h, .inr (0, [.ref q1, .ref q2, .ref q3, .ref q4, .ref q5, .ref q6, .null, .null, .null, .int (iI 0), .int (iI 0), .int (iI 0), .int (iI 0)])), (q1, aI w 40 (f0 0 40)), (q2, aI w 96 (f0 0 96)), (q3, aI w 16 (f0 0 16)), (q4, aI w 16 (f0 0 16)), (q5, aI w 16 (f0 0 16)), (q6, aI w 40 (f0 0 40)), (q7, aI w 4 (f0 0 4))] : va_W)) (v := .ref q7) C hin 0 (ci := 0) (j := 6) tyX0 rfl rfl uws0 tyX0_ok nmX0 (by decide) wd_49 rfl rfl rfl rfl rfl (Nat.le_of_ble_eq_true rfl) dX0_init_56 ?_
  refine Wk.eq (ws' := pre ++ ([(h, .inr (0, [.ref q1, .ref q2, .ref q3, .ref q4, .ref q5, .ref q6, .ref q7, .null, .null, .int (iI 0), .int (iI 0), .int (iI 0), .int (iI 0)])), (q1, aI w 40 (f0 0 40)), (q2, aI w 96 (f0 0 96)), (q3, aI w 16 (f0 0 16)), (q4, aI w 16 (f0 0 16)), (q5, aI w 16 (f0 0 16)), (q6, aI w 40 (f0 0 40)), (q7, aI w 4 (f0 0 4))] : va_W)) rfl ?_
  refine r_aload_n C 0 dX0_init_59 rfl ?_
  refine r_iconst C 4 dX0_init_60 ?_
  refine r_newa (L := ([(h, .inr (0, [.ref q1, .ref q2, .ref q3, .ref q4, .ref q5, .ref q6, .ref q7, .null, .null, .int (iI 0), .int (iI 0), .int (iI 0), .int (iI 0)])), (q1, aI w 40 (f0 0 40)), (q2, aI w 96 (f0 0 96)), (q3, aI w 16 (f0 0 16)), (q4, aI w 16 (f0 0 16)), (q5, aI w 16 (f0 0 16)), (q6, aI w 40 (f0 0 40)), (q7, aI w 4 (f0 0 4))] : va_W)) C 4 (by decide) dX0_init_61 (fun q8 => ?_)
  refine Wk.eq (ws' := pre ++ ([(h, .inr (0, [.ref q1, .ref q2, .ref q3, .ref q4, .ref q5, .ref q6, .ref q7, .null, .null, .int (iI 0), .int (iI 0), .int (iI 0), .int (iI 0)])), (q1, aI w 40 (f0 0 40)), (q2, aI w 96 (f0 0 96)), (q3, aI w 16 (f0 0 16)), (q4, aI w 16 (f0 0 16)), (q5, aI w 16 (f0 0 16)), (q6, aI w 40 (f0 0 40)), (q7, aI w 4 (f0 0 4)), (q8, aI w 4 (f0 0 4))] : va_W)) rfl ?_
  refine r_putF (L := ([(h, .inr (0, [.ref q1, .ref q2, .ref q3, .ref q4, .ref q5, .ref q6, .ref q7, .null, .null, .int (iI 0), .int (iI 0), .int (iI 0), .int (iI 0)])), (q1, aI w 40 (f0 0 40)), (q2, aI w 96 (f0 0 96)), (q3, aI w 16 (f0 0 16)), (q4, aI w 16 (f0 0 16)), (q5, aI w 16 (f0 0 16)), (q6, aI w 40 (f0 0 40)), (q7, aI w 4 (f0 0 4)), (q8, aI w 4 (f0 0 4))] : va_W)) (v := .ref q8) C hin 0 (ci := 0) (j := 7) tyX0 rfl rfl uws0 tyX0_ok nmX0 (by decide) wd_50 rfl rfl rfl rfl rfl (Nat.le_of_ble_eq_true rfl) dX0_init_63 ?_
  refine Wk.eq (ws' := pre ++ ([(h, .inr (0, [.ref q1, .ref q2, .ref q3, .ref q4, .ref q5, .ref q6, .ref q7, .ref q8, .null, .int (iI 0), .int (iI 0), .int (iI 0), .int (iI 0)])), (q1, aI w 40 (f0 0 40)), (q2, aI w 96 (f0 0 96)), (q3, aI w 16 (f0 0 16)), (q4, aI w 16 (f0 0 16)), (q5, aI w 16 (f0 0 16)), (q6, aI w 40 (f0 0 40)), (q7, aI w 4 (f0 0 4)), (q8, aI w 4 (f0 0 4))] : va_W)) rfl ?_
  refine r_aload_n C 0 dX0_init_66 rfl ?_
  refine r_iconst C 3 dX0_init_67 ?_
  refine r_newa (L := ([(h, .inr (0, [.ref q1, .ref q2, .ref q3, .ref q4, .ref q5, .ref q6, .ref q7, .ref q8, .null, .int (iI 0), .int (iI 0), .int (iI 0), .int (iI 0)])), (q1, aI w 40 (f0 0 40)), (q2, aI w 96 (f0 0 96)), (q3, aI w 16 (f0 0 16)), (q4, aI w 16 (f0 0 16)), (q5, aI w 16 (f0 0 16)), (q6, aI w 40 (f0 0 40)), (q7, aI w 4 (f0 0 4)), (q8, aI w 4 (f0 0 4))] : va_W)) C 3 (by decide) dX0_init_68 (fun q9 => ?_)
  refine Wk.eq (ws' := pre ++ ([(h, .inr (0, [.ref q1, .ref q2, .ref q3, .ref q4, .ref q5, .ref q6, .ref q7, .ref q8, .null, .int (iI 0), .int (iI 0), .int (iI 0), .int (iI 0)])), (q1, aI w 40 (f0 0 40)), (q2, aI w 96 (f0 0 96)), (q3, aI w 16 (f0 0 16)), (q4, aI w 16 (f0 0 16)), (q5, aI w 16 (f0 0 16)), (q6, aI w 40 (f0 0 40)), (q7, aI w 4 (f0 0 4)), (q8, aI w 4 (f0 0 4)), (q9, aI w 3 (f0 0 3))] : va_W)) rfl ?_
  refine r_putF (L := ([(h, .inr (0, [.ref q1, .ref q2, .ref q3, .ref q4, .ref q5, .ref q6, .ref q7, .ref q8, .null, .int (iI 0), .int (iI 0), .int (iI 0), .int (iI 0)])), (q1, aI w 40 (f0 0 40)), (q2, aI w 96 (f0 0 96)), (q3, aI w 16 (f0 0 16)), (q4, aI w 16 (f0 0 16)), (q5, aI w 16 (f0 0 16)), (q6, aI w 40 (f0 0 40)), (q7, aI w 4 (f0 0 4)), (q8, aI w 4 (f0 0 4)), (q9, aI w 3 (f0 0 3))] : va_W)) (v := .ref q9) C hin 0 (ci := 0) (j := 8) tyX0 rfl rfl uws0 tyX0_ok nmX0 (by decide) wd_51 rfl rfl rfl rfl rfl (Nat.le_of_ble_eq_true rfl) dX0_init_70 ?_
  refine Wk.eq (ws' := pre ++ ([(h, .inr (0, [.ref q1, .ref q2, .ref q3, .ref q4, .ref q5, .ref q6, .ref q7, .ref q8, .ref q9, .int (iI 0), .int (iI 0), .int (iI 0), .int (iI 0)])), (q1, aI w 40 (f0 0 40)), (q2, aI w 96 (f0 0 96)), (q3, aI w 16 (f0 0 16)), (q4, aI w 16 (f0 0 16)), (q5, aI w 16 (f0 0 16)), (q6, aI w 40 (f0 0 40)), (q7, aI w 4 (f0 0 4)), (q8, aI w 4 (f0 0 4)), (q9, aI w 3 (f0 0 3))] : va_W)) rfl ?_
  refine r_aload_n C 0 dX0_init_73 rfl ?_
  refine r_get (L := ([(h, .inr (0, [.ref q1, .ref q2, .ref q3, .ref q4, .ref q5, .ref q6, .ref q7, .ref q8, .ref q9, .int (iI 0), .int (iI 0), .int (iI 0), .int (iI 0)])), (q1, aI w 40 (f0 0 40)), (q2, aI w 96 (f0 0 96)), (q3, aI w 16 (f0 0 16)), (q4, aI w 16 (f0 0 16)), (q5, aI w 16 (f0 0 16)), (q6, aI w 40 (f0 0 40)), (q7, aI w 4 (f0 0 4)), (q8, aI w 4 (f0 0 4)), (q9, aI w 3 (f0 0 3))] : va_W)) C 0 (ci := 0) (j := 0) rfl rfl uws0 (by decide) wd_43 rfl dX0_init_74 ?_
  refine r_iconst C (-1) dX0_init_77 ?_
  refine r_callSN (As := [.ref q1, .int (iI (-1))]) C (k_Gfill l (L := ([(h, .inr (0, [.ref q1, .ref q2, .ref q3, .ref q4, .ref q5, .ref q6, .ref q7, .ref q8, .ref q9, .int (iI 0), .int (iI 0), .int (iI 0), .int (iI 0)])), (q1, aI w 40 (f0 0 40)), (q2, aI w 96 (f0 0 96)), (q3, aI w 16 (f0 0 16)), (q4, aI w 16 (f0 0 16)), (q5, aI w 16 (f0 0 16)), (q6, aI w 40 (f0 0 40)), (q7, aI w 4 (f0 0 4)), (q8, aI w 4 (f0 0 4)), (q9, aI w 3 (f0 0 3))] : va_W)) (i := 1) rfl (by decide)) wd_39 wd_38 wd_13 nw_37 nd_X3_fillRow rfl (by decide) rfl (Nat.le_of_ble_eq_true rfl) dX0_init_78 ?_
  rintro ws9 rfl
  refine Wk.eq (ws' := pre ++ ([(h, .inr (0, [.ref q1, .ref q2, .ref q3, .ref q4, .ref q5, .ref q6, .ref q7, .ref q8, .ref q9, .int (iI 0), .int (iI 0), .int (iI 0), .int (iI 0)])), (q1, aI w 40 (f0 1 40)), (q2, aI w 96 (f0 0 96)), (q3, aI w 16 (f0 0 16)), (q4, aI w 16 (f0 0 16)), (q5, aI w 16 (f0 0 16)), (q6, aI w 40 (f0 0 40)), (q7, aI w 4 (f0 0 4)), (q8, aI w 4 (f0 0 4)), (q9, aI w 3 (f0 0 3))] : va_W)) rfl ?_
  refine r_aload_n C 0 dX0_init_81 rfl ?_
  refine r_get (L := ([(h, .inr (0, [.ref q1, .ref q2, .ref q3, .ref q4, .ref q5, .ref q6, .ref q7, .ref q8, .ref q9, .int (iI 0), .int (iI 0), .int (iI 0), .int (iI 0)])), (q1, aI w 40 (f0 1 40)), (q2, aI w 96 (f0 0 96)), (q3, aI w 16 (f0 0 16)), (q4, aI w 16 (f0 0 16)), (q5, aI w 16 (f0 0 16)), (q6, aI w 40 (f0 0 40)), (q7, aI w 4 (f0 0 4)), (q8, aI w 4 (f0 0 4)), (q9, aI w 3 (f0 0 3))] : va_W)) C 0 (ci := 0) (j := 1) rfl rfl uws0 (by decide) wd_44 rfl dX0_init_82 ?_
  refine r_iconst C (-1) dX0_init_85 ?_
  refine r_callSN (As := [.ref q2, .int (iI (-1))]) C (k_Gfill l (L := ([(h, .inr (0, [.ref q1, .ref q2, .ref q3, .ref q4, .ref q5, .ref q6, .ref q7, .ref q8, .ref q9, .int (iI 0), .int (iI 0), .int (iI 0), .int (iI 0)])), (q1, aI w 40 (f0 1 40)), (q2, aI w 96 (f0 0 96)), (q3, aI w 16 (f0 0 16)), (q4, aI w 16 (f0 0 16)), (q5, aI w 16 (f0 0 16)), (q6, aI w 40 (f0 0 40)), (q7, aI w 4 (f0 0 4)), (q8, aI w 4 (f0 0 4)), (q9, aI w 3 (f0 0 3))] : va_W)) (i := 2) rfl (by decide)) wd_39 wd_38 wd_13 nw_37 nd_X3_fillRow rfl (by decide) rfl (Nat.le_of_ble_eq_true rfl) dX0_init_86 ?_
  rintro ws9 rfl
  refine Wk.eq (ws' := pre ++ ([(h, .inr (0, [.ref q1, .ref q2, .ref q3, .ref q4, .ref q5, .ref q6, .ref q7, .ref q8, .ref q9, .int (iI 0), .int (iI 0), .int (iI 0), .int (iI 0)])), (q1, aI w 40 (f0 1 40)), (q2, aI w 96 (f0 1 96)), (q3, aI w 16 (f0 0 16)), (q4, aI w 16 (f0 0 16)), (q5, aI w 16 (f0 0 16)), (q6, aI w 40 (f0 0 40)), (q7, aI w 4 (f0 0 4)), (q8, aI w 4 (f0 0 4)), (q9, aI w 3 (f0 0 3))] : va_W)) rfl ?_
  refine r_aload_n C 0 dX0_init_89 rfl ?_
  refine r_get (L := ([(h, .inr (0, [.ref q1, .ref q2, .ref q3, .ref q4, .ref q5, .ref q6, .ref q7, .ref q8, .ref q9, .int (iI 0), .int (iI 0), .int (iI 0), .int (iI 0)])), (q1, aI w 40 (f0 1 40)), (q2, aI w 96 (f0 1 96)), (q3, aI w 16 (f0 0 16)), (q4, aI w 16 (f0 0 16)), (q5, aI w 16 (f0 0 16)), (q6, aI w 40 (f0 0 40)), (q7, aI w 4 (f0 0 4)), (q8, aI w 4 (f0 0 4)), (q9, aI w 3 (f0 0 3))] : va_W)) C 0 (ci := 0) (j := 3) rfl rfl uws0 (by decide) wd_46 rfl dX0_init_90 ?_
  refine r_iconst C (-1) dX0_init_93 ?_
  refine r_callSN (As := [.ref q4, .int (iI (-1))]) C (k_Gfill l (L := ([(h, .inr (0, [.ref q1, .ref q2, .ref q3, .ref q4, .ref q5, .ref q6, .ref q7, .ref q8, .ref q9, .int (iI 0), .int (iI 0), .int (iI 0), .int (iI 0)])), (q1, aI w 40 (f0 1 40)), (q2, aI w 96 (f0 1 96)), (q3, aI w 16 (f0 0 16)), (q4, aI w 16 (f0 0 16)), (q5, aI w 16 (f0 0 16)), (q6, aI w 40 (f0 0 40)), (q7, aI w 4 (f0 0 4)), (q8, aI w 4 (f0 0 4)), (q9, aI w 3 (f0 0 3))] : va_W)) (i := 4) rfl (by decide)) wd_39 wd_38 wd_13 nw_37 nd_X3_fillRow rfl (by decide) rfl (Nat.le_of_ble_eq_true rfl) dX0_init_94 ?_
  rintro ws9 rfl
  refine Wk.eq (ws' := pre ++ ([(h, .inr (0, [.ref q1, .ref q2, .ref q3, .ref q4, .ref q5, .ref q6, .ref q7, .ref q8, .ref q9, .int (iI 0), .int (iI 0), .int (iI 0), .int (iI 0)])), (q1, aI w 40 (f0 1 40)), (q2, aI w 96 (f0 1 96)), (q3, aI w 16 (f0 0 16)), (q4, aI w 16 (f0 1 16)), (q5, aI w 16 (f0 0 16)), (q6, aI w 40 (f0 0 40)), (q7, aI w 4 (f0 0 4)), (q8, aI w 4 (f0 0 4)), (q9, aI w 3 (f0 0 3))] : va_W)) rfl ?_
  refine r_aload_n C 0 dX0_init_97 rfl ?_
  refine r_get (L := ([(h, .inr (0, [.ref q1, .ref q2, .ref q3, .ref q4, .ref q5, .ref q6, .ref q7, .ref q8, .ref q9, .int (iI 0), .int (iI 0), .int (iI 0), .int (iI 0)])), (q1, aI w 40 (f0 1 40)), (q2, aI w 96 (f0 1 96)), (q3, aI w 16 (f0 0 16)), (q4, aI w 16 (f0 1 16)), (q5, aI w 16 (f0 0 16)), (q6, aI w 40 (f0 0 40)), (q7, aI w 4 (f0 0 4)), (q8, aI w 4 (f0 0 4)), (q9, aI w 3 (f0 0 3))] : va_W)) C 0 (ci := 0) (j := 4) rfl rfl uws0 (by decide) wd_47 rfl dX0_init_98 ?_
  refine r_iconst C (-1) dX0_init_101 ?_
  refine r_callSN (As := [.ref q5, .int (iI (-1))]) C (k_Gfill l (L := ([(h, .inr (0, [.ref q1, .ref q2, .ref q3, .ref q4, .ref q5, .ref q6, .ref q7, .ref q8, .ref q9, .int (iI 0), .int (iI 0), .int (iI 0), .int (iI 0)])), (q1, aI w 40 (f0 1 40)), (q2, aI w 96 (f0 1 96)), (q3, aI w 16 (f0 0 16)), (q4, aI w 16 (f0 1 16)), (q5, aI w 16 (f0 0 16)), (q6, aI w 40 (f0 0 40)), (q7, aI w 4 (f0 0 4)), (q8, aI w 4 (f0 0 4)), (q9, aI w 3 (f0 0 3))] : va_W)) (i := 5) rfl (by decide)) wd_39 wd_38 wd_13 nw_37 nd_X3_fillRow rfl (by decide) rfl (Nat.le_of_ble_eq_true rfl) dX0_init_102 ?_
  rintro ws9 rfl
  refine Wk.eq (ws' := pre ++ ([(h, .inr (0, [.ref q1, .ref q2, .ref q3, .ref q4, .ref q5, .ref q6, .ref q7, .ref q8, .ref q9, .int (iI 0), .int (iI 0), .int (iI 0), .int (iI 0)])), (q1, aI w 40 (f0 1 40)), (q2, aI w 96 (f0 1 96)), (q3, aI w 16 (f0 0 16)), (q4, aI w 16 (f0 1 16)), (q5, aI w 16 (f0 1 16)), (q6, aI w 40 (f0 0 40)), (q7, aI w 4 (f0 0 4)), (q8, aI w 4 (f0 0 4)), (q9, aI w 3 (f0 0 3))] : va_W)) rfl ?_
  refine r_aload_n C 0 dX0_init_105 rfl ?_
  refine r_get (L := ([(h, .inr (0, [.ref q1, .ref q2, .ref q3, .ref q4, .ref q5, .ref q6, .ref q7, .ref q8, .ref q9, .int (iI 0), .int (iI 0), .int (iI 0), .int (iI 0)])), (q1, aI w 40 (f0 1 40)), (q2, aI w 96 (f0 1 96)), (q3, aI w 16 (f0 0 16)), (q4, aI w 16 (f0 1 16)), (q5, aI w 16 (f0 1 16)), (q6, aI w 40 (f0 0 40)), (q7, aI w 4 (f0 0 4)), (q8, aI w 4 (f0 0 4)), (q9, aI w 3 (f0 0 3))] : va_W)) C 0 (ci := 0) (j := 8) rfl rfl uws0 (by decide) wd_51 rfl dX0_init_106 ?_
  refine r_iconst C 1 dX0_init_109 ?_
  refine r_bipush C 20 dX0_init_110 (by decide) ?_
  refine r_callSN (As := [.ref q9, .int (iI 1), .int (iI 20)]) C (k_Gset l (L := ([(h, .inr (0, [.ref q1, .ref q2, .ref q3, .ref q4, .ref q5, .ref q6, .ref q7, .ref q8, .ref q9, .int (iI 0), .int (iI 0), .int (iI 0), .int (iI 0)])), (q1, aI w 40 (f0 1 40)), (q2, aI w 96 (f0 1 96)), (q3, aI w 16 (f0 0 16)), (q4, aI w 16 (f0 1 16)), (q5, aI w 16 (f0 1 16)), (q6, aI w 40 (f0 0 40)), (q7, aI w 4 (f0 0 4)), (q8, aI w 4 (f0 0 4)), (q9, aI w 3 (f0 0 3))] : va_W)) (i := 9) (x := 1) (z := 20) rfl (by decide) (by decide)) wd_42 wd_41 wd_13 nw_40 nd_X3_setCell rfl (by decide) rfl (Nat.le_of_ble_eq_true rfl) dX0_init_112 ?_
  rintro ws9 rfl
  refine Wk.eq (ws' := pre ++ ([(h, .inr (0, [.ref q1, .ref q2, .ref q3, .ref q4, .ref q5, .ref q6, .ref q7, .ref q8, .ref q9, .int (iI 0), .int (iI 0), .int (iI 0), .int (iI 0)])), (q1, aI w 40 (f0 1 40)), (q2, aI w 96 (f0 1 96)), (q3, aI w 16 (f0 0 16)), (q4, aI w 16 (f0 1 16)), (q5, aI w 16 (f0 1 16)), (q6, aI w 40 (f0 0 40)), (q7, aI w 4 (f0 0 4)), (q8, aI w 4 (f0 0 4)), (q9, aI w 3 (ru (f0 0 3) 1 20))] : va_W)) rfl ?_
  refine r_aload_n C 0 dX0_init_115 rfl ?_
  refine r_get (L := ([(h, .inr (0, [.ref q1, .ref q2, .ref q3, .ref q4, .ref q5, .ref q6, .ref q7, .ref q8, .ref q9, .int (iI 0), .int (iI 0), .int (iI 0), .int (iI 0)])), (q1, aI w 40 (f0 1 40)), (q2, aI w 96 (f0 1 96)), (q3, aI w 16 (f0 0 16)), (q4, aI w 16 (f0 1 16)), (q5, aI w 16 (f0 1 16)), (q6, aI w 40 (f0 0 40)), (q7, aI w 4 (f0 0 4)), (q8, aI w 4 (f0 0 4)), (q9, aI w 3 (ru (f0 0 3) 1 20))] : va_W)) C 0 (ci := 0) (j := 8) rfl rfl uws0 (by decide) wd_51 rfl dX0_init_116 ?_
  refine r_iconst C 2 dX0_init_119 ?_
  refine r_iconst C 1 dX0_init_120 ?_
  refine r_callSN (As := [.ref q9, .int (iI 2), .int (iI 1)]) C (k_Gset l (L := ([(h, .inr (0, [.ref q1, .ref q2, .ref q3, .ref q4, .ref q5, .ref q6, .ref q7, .ref q8, .ref q9, .int (iI 0), .int (iI 0), .int (iI 0), .int (iI 0)])), (q1, aI w 40 (f0 1 40)), (q2, aI w 96 (f0 1 96)), (q3, aI w 16 (f0 0 16)), (q4, aI w 16 (f0 1 16)), (q5, aI w 16 (f0 1 16)), (q6, aI w 40 (f0 0 40)), (q7, aI w 4 (f0 0 4)), (q8, aI w 4 (f0 0 4)), (q9, aI w 3 (ru (f0 0 3) 1 20))] : va_W)) (i := 9) (x := 2) (z := 1) rfl (by decide) (by decide)) wd_42 wd_41 wd_13 nw_40 nd_X3_setCell rfl (by decide) rfl (Nat.le_of_ble_eq_true rfl) dX0_init_121 ?_
  rintro ws9 rfl
  refine Wk.eq (ws' := pre ++ ([(h, .inr (0, [.ref q1, .ref q2, .ref q3, .ref q4, .ref q5, .ref q6, .ref q7, .ref q8, .ref q9, .int (iI 0), .int (iI 0), .int (iI 0), .int (iI 0)])), (q1, aI w 40 (f0 1 40)), (q2, aI w 96 (f0 1 96)), (q3, aI w 16 (f0 0 16)), (q4, aI w 16 (f0 1 16)), (q5, aI w 16 (f0 1 16)), (q6, aI w 40 (f0 0 40)), (q7, aI w 4 (f0 0 4)), (q8, aI w 4 (f0 0 4)), (q9, aI w 3 (ru (ru (f0 0 3) 1 20) 2 1))] : va_W)) rfl ?_
  refine r_vret C (by decide) dX0_init_124 ?_
  refine ⟨fun k => [h, q1, q2, q3, q4, q5, q6, q7, q8, q9].getD (k - b) 0, ?_, ?_⟩
  · show List.getD _ (b - b) 0 = h; rw [Nat.sub_self]; rfl
  · rw [seg_bd hb]
    simp only [Nat.add_sub_cancel_left, Nat.sub_self]
    rw [show ru (ru (f0 0 3) 1 20) 2 1 = f0 2 3 from f0_set]
    rfl

set_option maxRecDepth 100000 in
set_option maxHeartbeats 4000000 in
theorem k_G2 (l : Launch) {w : WP} {pre : va_W} {h : Nat} : ConG l yX2_init cX2_init 1 1 3 88 w [.ref h] (pre ++ [(h, .inr (2, [.null, .null, .null, .int (iI 0), .int (iI 0), .int (iI 0), .int (iI 0)]))]) (fun ws' => ∃ ad : Nat → Nat, ad 86 = h ∧ ws' = pre ++ seg w ad 86 4) := by
  refine ConG.mk (lv := [(0, .ref h)]) (by decide) (Nat.le_of_ble_eq_true rfl) rfl ?_
  intro p e s m be me c C hin
  refine r_aload_n C 0 dX2_init_0 rfl ?_
  refine r_obj C wd_113 (by decide) dX2_init_1 ?_
  refine r_aload_n C 0 dX2_init_4 rfl ?_
  refine r_bipush C 40 dX2_init_5 (by decide) ?_
  refine r_newb (L := ([(h, .inr (2, [.null, .null, .null, .int (iI 0), .int (iI 0), .int (iI 0), .int (iI 0)]))] : va_W)) C 40 (by decide) dX2_init_7 (fun q1 => ?_)
  refine Wk.eq (ws' := pre ++ ([(h, .inr (2, [.null, .null, .null, .int (iI 0), .int (iI 0), .int (iI 0), .int (iI 0)])), (q1, aB w 40 (f0 0 40))] : va_W)) rfl ?_
  refine r_putF (L := ([(h, .inr (2, [.null, .null, .null, .int (iI 0), .int (iI 0), .int (iI 0), .int (iI 0)])), (q1, aB w 40 (f0 0 40))] : va_W)) (v := .ref q1) C hin 0 (ci := 2) (j := 0) tyX2 rfl rfl uws2 tyX2_ok nmX2 (by decide) wd_114 rfl rfl rfl rfl rfl (Nat.le_of_ble_eq_true rfl) dX2_init_9 ?_
  refine Wk.eq (ws' := pre ++ ([(h, .inr (2, [.ref q1, .null, .null, .int (iI 0), .int (iI 0), .int (iI 0), .int (iI 0)])), (q1, aB w 40 (f0 0 40))] : va_W)) rfl ?_
  refine r_aload_n C 0 dX2_init_12 rfl ?_
  refine r_bipush C 24 dX2_init_13 (by decide) ?_
  refine r_newa (L := ([(h, .inr (2, [.ref q1, .null, .null, .int (iI 0), .int (iI 0), .int (iI 0), .int (iI 0)])), (q1, aB w 40 (f0 0 40))] : va_W)) C 24 (by decide) dX2_init_15 (fun q2 => ?_)
  refine Wk.eq (ws' := pre ++ ([(h, .inr (2, [.ref q1, .null, .null, .int (iI 0), .int (iI 0), .int (iI 0), .int (iI 0)])), (q1, aB w 40 (f0 0 40)), (q2, aI w 24 (f0 0 24))] : va_W)) rfl ?_
  refine r_putF (L := ([(h, .inr (2, [.ref q1, .null, .null, .int (iI 0), .int (iI 0), .int (iI 0), .int (iI 0)])), (q1, aB w 40 (f0 0 40)), (q2, aI w 24 (f0 0 24))] : va_W)) (v := .ref q2) C hin 0 (ci := 2) (j := 1) tyX2 rfl rfl uws2 tyX2_ok nmX2 (by decide) wd_115 rfl rfl rfl rfl rfl (Nat.le_of_ble_eq_true rfl) dX2_init_17 ?_
  refine Wk.eq (ws' := pre ++ ([(h, .inr (2, [.ref q1, .ref q2, .null, .int (iI 0), .int (iI 0), .int (iI 0), .int (iI 0)])), (q1, aB w 40 (f0 0 40)), (q2, aI w 24 (f0 0 24))] : va_W)) rfl ?_
  refine r_aload_n C 0 dX2_init_20 rfl ?_
  refine r_bipush C 24 dX2_init_21 (by decide) ?_
  refine r_newa (L := ([(h, .inr (2, [.ref q1, .ref q2, .null, .int (iI 0), .int (iI 0), .int (iI 0), .int (iI 0)])), (q1, aB w 40 (f0 0 40)), (q2, aI w 24 (f0 0 24))] : va_W)) C 24 (by decide) dX2_init_23 (fun q3 => ?_)
  refine Wk.eq (ws' := pre ++ ([(h, .inr (2, [.ref q1, .ref q2, .null, .int (iI 0), .int (iI 0), .int (iI 0), .int (iI 0)])), (q1, aB w 40 (f0 0 40)), (q2, aI w 24 (f0 0 24)), (q3, aI w 24 (f0 0 24))] : va_W)) rfl ?_
  refine r_putF (L := ([(h, .inr (2, [.ref q1, .ref q2, .null, .int (iI 0), .int (iI 0), .int (iI 0), .int (iI 0)])), (q1, aB w 40 (f0 0 40)), (q2, aI w 24 (f0 0 24)), (q3, aI w 24 (f0 0 24))] : va_W)) (v := .ref q3) C hin 0 (ci := 2) (j := 2) tyX2 rfl rfl uws2 tyX2_ok nmX2 (by decide) wd_116 rfl rfl rfl rfl rfl (Nat.le_of_ble_eq_true rfl) dX2_init_25 ?_
  refine Wk.eq (ws' := pre ++ ([(h, .inr (2, [.ref q1, .ref q2, .ref q3, .int (iI 0), .int (iI 0), .int (iI 0), .int (iI 0)])), (q1, aB w 40 (f0 0 40)), (q2, aI w 24 (f0 0 24)), (q3, aI w 24 (f0 0 24))] : va_W)) rfl ?_
  refine r_vret C (by decide) dX2_init_28 ?_
  exact ⟨fun k => [h, q1, q2, q3].getD (k - 86) 0, rfl, rfl⟩

set_option maxRecDepth 100000 in
set_option maxHeartbeats 4000000 in
theorem k_G1 (l : Launch) {w : WP} {pre : va_W} {h : Nat} : ConG l yX1_init cX1_init 2 2 61 1494 w [.ref h] (pre ++ [(h, .inr (1, [.null, .int (iI 0), .int (iI 0)]))]) (fun ws' => ∃ ad : Nat → Nat, ad 21 = h ∧ ws' = pre ++ seg w ad 21 62) := by
  refine ConG.mk (lv := [(0, .ref h)]) (by decide) (Nat.le_of_ble_eq_true rfl) rfl ?_
  intro p e s m be me c C hin
  refine r_aload_n C 0 dX1_init_0 rfl ?_
  refine r_obj C wd_93 (by decide) dX1_init_1 ?_
  refine r_aload_n C 0 dX1_init_4 rfl ?_
  refine r_bipush C 6 dX1_init_5 (by decide) ?_
  refine r_newq (L := ([(h, .inr (1, [.null, .int (iI 0), .int (iI 0)]))] : va_W)) C 6 wd_94 (by decide) dX1_init_7 (fun q1 => ?_)
  refine Wk.eq (ws' := pre ++ ([(h, .inr (1, [.null, .int (iI 0), .int (iI 0)])), (q1, aQ w 6 (fun _ => none))] : va_W)) rfl ?_
  refine r_putF (L := ([(h, .inr (1, [.null, .int (iI 0), .int (iI 0)])), (q1, aQ w 6 (fun _ => none))] : va_W)) (v := .ref q1) C hin 0 (ci := 1) (j := 0) tyX1 rfl rfl uws1 tyX1_ok nmX1 (by decide) wd_97 rfl rfl rfl rfl rfl (Nat.le_of_ble_eq_true rfl) dX1_init_10 ?_
  refine Wk.eq (ws' := pre ++ ([(h, .inr (1, [.ref q1, .int (iI 0), .int (iI 0)])), (q1, aQ w 6 (fun _ => none))] : va_W)) rfl ?_
  refine r_iconst C 0 dX1_init_13 ?_
  refine r_istore_n (lv' := [(1, .int (iI 0)), (0, .ref h)]) C dX1_init_14 (by decide) rfl ?_
  refine r_iload_n C 0 dX1_init_15 rfl ?_
  refine r_aload_n C 1 dX1_init_16 rfl ?_
  refine r_get (L := ([(h, .inr (1, [.ref q1, .int (iI 0), .int (iI 0)])), (q1, aQ w 6 (fun _ => none))] : va_W)) C 0 (ci := 1) (j := 0) rfl rfl uws1 (by decide) wd_97 rfl dX1_init_17 ?_
  refine r_alen (L := ([(h, .inr (1, [.ref q1, .int (iI 0), .int (iI 0)])), (q1, aQ w 6 (fun _ => none))] : va_W)) C 1 2 rfl rfl dX1_init_20 ?_
  refine r_icmp_ge C 43 dX1_init_21 ⟨by decide, by decide⟩ ⟨by decide, by decide⟩ (by decide) (fun h => absurd h (by decide)) (fun _ => ?_)
  refine r_aload_n C 1 dX1_init_24 rfl ?_
  refine r_get (L := ([(h, .inr (1, [.ref q1, .int (iI 0), .int (iI 0)])), (q1, aQ w 6 (fun _ => none))] : va_W)) C 0 (ci := 1) (j := 0) rfl rfl uws1 (by decide) wd_97 rfl dX1_init_25 ?_
  refine r_iload_n C 0 dX1_init_28 rfl ?_
  refine r_new (L := ([(h, .inr (1, [.ref q1, .int (iI 0), .int (iI 0)])), (q1, aQ w 6 (fun _ => none))] : va_W)) (ci := 0) C tyX0 [.null, .null, .null, .null, .null, .null, .null, .null, .null, .int (iI 0), .int (iI 0), .int (iI 0), .int (iI 0)] rfl uws0 tyX0_ok wd_94 wd_32 wd_14 dfl0 (by decide) dX1_init_29 (fun q2 => ?_)
  refine Wk.eq (ws' := pre ++ ([(h, .inr (1, [.ref q1, .int (iI 0), .int (iI 0)])), (q1, aQ w 6 (fun _ => none)), (q2, .inr (0, [.null, .null, .null, .null, .null, .null, .null, .null, .null, .int (iI 0), .int (iI 0), .int (iI 0), .int (iI 0)]))] : va_W)) rfl ?_
  refine r_dup C dX1_init_32 rfl ?_
  refine r_callI C (k_G0 l (pre := pre ++ ([(h, .inr (1, [.ref q1, .int (iI 0), .int (iI 0)])), (q1, aQ w 6 (fun _ => none))] : va_W)) (h := q2) (show IsB 23 by unfold IsB; decide)) (List.append_assoc pre (([(h, .inr (1, [.ref q1, .int (iI 0), .int (iI 0)])), (q1, aQ w 6 (fun _ => none))] : va_W)) [(q2, .inr (0, [.null, .null, .null, .null, .null, .null, .null, .null, .null, .int (iI 0), .int (iI 0), .int (iI 0), .int (iI 0)]))]).symm wd_35 wd_34 wd_14 wd_96 nd_X0_init rfl (by decide) (Nat.le_of_ble_eq_true rfl) dX1_init_33 ?_
  rintro ws9 ⟨a3, rfl, rfl⟩
  refine Wk.eq (ws' := pre ++ (([(h, .inr (1, [.ref q1, .int (iI 0), .int (iI 0)])), (q1, aQ w 6 (fun _ => none))] : va_W) ++ seg w a3 23 10)) (List.append_assoc pre (([(h, .inr (1, [.ref q1, .int (iI 0), .int (iI 0)])), (q1, aQ w 6 (fun _ => none))] : va_W)) (seg w a3 23 10)) ?_
  refine r_astq (L := (([(h, .inr (1, [.ref q1, .int (iI 0), .int (iI 0)])), (q1, aQ w 6 (fun _ => none))] : va_W) ++ seg w a3 23 10)) C 1 2 rfl rfl (by decide) (by decide) dX1_init_36 ?_
  refine Wk.eq (ws' := pre ++ (([(h, .inr (1, [.ref q1, .int (iI 0), .int (iI 0)])), (q1, aQ w 6 (va_up (fun _ => none) 0 (some (a3 23))))] : va_W) ++ seg w a3 23 10)) rfl ?_
  refine r_iinc (lv' := [(1, .int (iI 1)), (0, .ref h)]) C 0 dX1_init_37 rfl (by decide) rfl ?_
  refine r_goto C 15 dX1_init_40 (by decide) ?_
  refine r_iload_n C 0 dX1_init_15 rfl ?_
  refine r_aload_n C 1 dX1_init_16 rfl ?_
  refine r_get (L := (([(h, .inr (1, [.ref q1, .int (iI 0), .int (iI 0)])), (q1, aQ w 6 (va_up (fun _ => none) 0 (some (a3 23))))] : va_W) ++ seg w a3 23 10)) C 0 (ci := 1) (j := 0) rfl rfl uws1 (by decide) wd_97 rfl dX1_init_17 ?_
  refine r_alen (L := (([(h, .inr (1, [.ref q1, .int (iI 0), .int (iI 0)])), (q1, aQ w 6 (va_up (fun _ => none) 0 (some (a3 23))))] : va_W) ++ seg w a3 23 10)) C 1 2 rfl rfl dX1_init_20 ?_
  refine r_icmp_ge C 43 dX1_init_21 ⟨by decide, by decide⟩ ⟨by decide, by decide⟩ (by decide) (fun h => absurd h (by decide)) (fun _ => ?_)
  refine r_aload_n C 1 dX1_init_24 rfl ?_
  refine r_get (L := (([(h, .inr (1, [.ref q1, .int (iI 0), .int (iI 0)])), (q1, aQ w 6 (va_up (fun _ => none) 0 (some (a3 23))))] : va_W) ++ seg w a3 23 10)) C 0 (ci := 1) (j := 0) rfl rfl uws1 (by decide) wd_97 rfl dX1_init_25 ?_
  refine r_iload_n C 0 dX1_init_28 rfl ?_
  refine r_new (L := (([(h, .inr (1, [.ref q1, .int (iI 0), .int (iI 0)])), (q1, aQ w 6 (va_up (fun _ => none) 0 (some (a3 23))))] : va_W) ++ seg w a3 23 10)) (ci := 0) C tyX0 [.null, .null, .null, .null, .null, .null, .null, .null, .null, .int (iI 0), .int (iI 0), .int (iI 0), .int (iI 0)] rfl uws0 tyX0_ok wd_94 wd_32 wd_14 dfl0 (by decide) dX1_init_29 (fun q4 => ?_)
  refine Wk.eq (ws' := pre ++ ((([(h, .inr (1, [.ref q1, .int (iI 0), .int (iI 0)])), (q1, aQ w 6 (va_up (fun _ => none) 0 (some (a3 23))))] : va_W) ++ seg w a3 23 10) ++ ([(q4, .inr (0, [.null, .null, .null, .null, .null, .null, .null, .null, .null, .int (iI 0), .int (iI 0), .int (iI 0), .int (iI 0)]))] : va_W))) rfl ?_
  refine r_dup C dX1_init_32 rfl ?_
  refine r_callI C (k_G0 l (pre := pre ++ (([(h, .inr (1, [.ref q1, .int (iI 0), .int (iI 0)])), (q1, aQ w 6 (va_up (fun _ => none) 0 (some (a3 23))))] : va_W) ++ seg w a3 23 10)) (h := q4) (show IsB 33 by unfold IsB; decide)) (List.append_assoc pre ((([(h, .inr (1, [.ref q1, .int (iI 0), .int (iI 0)])), (q1, aQ w 6 (va_up (fun _ => none) 0 (some (a3 23))))] : va_W) ++ seg w a3 23 10)) [(q4, .inr (0, [.null, .null, .null, .null, .null, .null, .null, .null, .null, .int (iI 0), .int (iI 0), .int (iI 0), .int (iI 0)]))]).symm wd_35 wd_34 wd_14 wd_96 nd_X0_init rfl (by decide) (Nat.le_of_ble_eq_true rfl) dX1_init_33 ?_
  rintro ws9 ⟨a5, rfl, rfl⟩
  refine Wk.eq (ws' := pre ++ ((([(h, .inr (1, [.ref q1, .int (iI 0), .int (iI 0)])), (q1, aQ w 6 (va_up (fun _ => none) 0 (some (a3 23))))] : va_W) ++ seg w a3 23 10) ++ seg w a5 33 10)) (List.append_assoc pre ((([(h, .inr (1, [.ref q1, .int (iI 0), .int (iI 0)])), (q1, aQ w 6 (va_up (fun _ => none) 0 (some (a3 23))))] : va_W) ++ seg w a3 23 10)) (seg w a5 33 10)) ?_
  refine r_astq (L := ((([(h, .inr (1, [.ref q1, .int (iI 0), .int (iI 0)])), (q1, aQ w 6 (va_up (fun _ => none) 0 (some (a3 23))))] : va_W) ++ seg w a3 23 10) ++ seg w a5 33 10)) C 1 12 rfl rfl (by decide) (by decide) dX1_init_36 ?_
  refine Wk.eq (ws' := pre ++ ((([(h, .inr (1, [.ref q1, .int (iI 0), .int (iI 0)])), (q1, aQ w 6 (va_up (va_up (fun _ => none) 0 (some (a3 23))) 1 (some (a5 33))))] : va_W) ++ seg w a3 23 10) ++ seg w a5 33 10)) rfl ?_
  refine r_iinc (lv' := [(1, .int (iI 2)), (0, .ref h)]) C 0 dX1_init_37 rfl (by decide) rfl ?_
  refine r_goto C 15 dX1_init_40 (by decide) ?_
  refine r_iload_n C 0 dX1_init_15 rfl ?_
  refine r_aload_n C 1 dX1_init_16 rfl ?_
  refine r_get (L := ((([(h, .inr (1, [.ref q1, .int (iI 0), .int (iI 0)])), (q1, aQ w 6 (va_up (va_up (fun _ => none) 0 (some (a3 23))) 1 (some (a5 33))))] : va_W) ++ seg w a3 23 10) ++ seg w a5 33 10)) C 0 (ci := 1) (j := 0) rfl rfl uws1 (by decide) wd_97 rfl dX1_init_17 ?_
  refine r_alen (L := ((([(h, .inr (1, [.ref q1, .int (iI 0), .int (iI 0)])), (q1, aQ w 6 (va_up (va_up (fun _ => none) 0 (some (a3 23))) 1 (some (a5 33))))] : va_W) ++ seg w a3 23 10) ++ seg w a5 33 10)) C 1 2 rfl rfl dX1_init_20 ?_
  refine r_icmp_ge C 43 dX1_init_21 ⟨by decide, by decide⟩ ⟨by decide, by decide⟩ (by decide) (fun h => absurd h (by decide)) (fun _ => ?_)
  refine r_aload_n C 1 dX1_init_24 rfl ?_
  refine r_get (L := ((([(h, .inr (1, [.ref q1, .int (iI 0), .int (iI 0)])), (q1, aQ w 6 (va_up (va_up (fun _ => none) 0 (some (a3 23))) 1 (some (a5 33))))] : va_W) ++ seg w a3 23 10) ++ seg w a5 33 10)) C 0 (ci := 1) (j := 0) rfl rfl uws1 (by decide) wd_97 rfl dX1_init_25 ?_
  refine r_iload_n C 0 dX1_init_28 rfl ?_
  refine r_new (L := ((([(h, .inr (1, [.ref q1, .int (iI 0), .int (iI 0)])), (q1, aQ w 6 (va_up (va_up (fun _ => none) 0 (some (a3 23))) 1 (some (a5 33))))] : va_W) ++ seg w a3 23 10) ++ seg w a5 33 10)) (ci := 0) C tyX0 [.null, .null, .null, .null, .null, .null, .null, .null, .null, .int (iI 0), .int (iI 0), .int (iI 0), .int (iI 0)] rfl uws0 tyX0_ok wd_94 wd_32 wd_14 dfl0 (by decide) dX1_init_29 (fun q6 => ?_)
  refine Wk.eq (ws' := pre ++ (((([(h, .inr (1, [.ref q1, .int (iI 0), .int (iI 0)])), (q1, aQ w 6 (va_up (va_up (fun _ => none) 0 (some (a3 23))) 1 (some (a5 33))))] : va_W) ++ seg w a3 23 10) ++ seg w a5 33 10) ++ ([(q6, .inr (0, [.null, .null, .null, .null, .null, .null, .null, .null, .null, .int (iI 0), .int (iI 0), .int (iI 0), .int (iI 0)]))] : va_W))) rfl ?_
  refine r_dup C dX1_init_32 rfl ?_
  refine r_callI C (k_G0 l (pre := pre ++ ((([(h, .inr (1, [.ref q1, .int (iI 0), .int (iI 0)])), (q1, aQ w 6 (va_up (va_up (fun _ => none) 0 (some (a3 23))) 1 (some (a5 33))))] : va_W) ++ seg w a3 23 10) ++ seg w a5 33 10)) (h := q6) (show IsB 43 by unfold IsB; decide)) (List.append_assoc pre (((([(h, .inr (1, [.ref q1, .int (iI 0), .int (iI 0)])), (q1, aQ w 6 (va_up (va_up (fun _ => none) 0 (some (a3 23))) 1 (some (a5 33))))] : va_W) ++ seg w a3 23 10) ++ seg w a5 33 10)) [(q6, .inr (0, [.null, .null, .null, .null, .null, .null, .null, .null, .null, .int (iI 0), .int (iI 0), .int (iI 0), .int (iI 0)]))]).symm wd_35 wd_34 wd_14 wd_96 nd_X0_init rfl (by decide) (Nat.le_of_ble_eq_true rfl) dX1_init_33 ?_
  rintro ws9 ⟨a7, rfl, rfl⟩
  refine Wk.eq (ws' := pre ++ (((([(h, .inr (1, [.ref q1, .int (iI 0), .int (iI 0)])), (q1, aQ w 6 (va_up (va_up (fun _ => none) 0 (some (a3 23))) 1 (some (a5 33))))] : va_W) ++ seg w a3 23 10) ++ seg w a5 33 10) ++ seg w a7 43 10)) (List.append_assoc pre (((([(h, .inr (1, [.ref q1, .int (iI 0), .int (iI 0)])), (q1, aQ w 6 (va_up (va_up (fun _ => none) 0 (some (a3 23))) 1 (some (a5 33))))] : va_W) ++ seg w a3 23 10) ++ seg w a5 33 10)) (seg w a7 43 10)) ?_
  refine r_astq (L := (((([(h, .inr (1, [.ref q1, .int (iI 0), .int (iI 0)])), (q1, aQ w 6 (va_up (va_up (fun _ => none) 0 (some (a3 23))) 1 (some (a5 33))))] : va_W) ++ seg w a3 23 10) ++ seg w a5 33 10) ++ seg w a7 43 10)) C 1 22 rfl rfl (by decide) (by decide) dX1_init_36 ?_
  refine Wk.eq (ws' := pre ++ (((([(h, .inr (1, [.ref q1, .int (iI 0), .int (iI 0)])), (q1, aQ w 6 (va_up (va_up (va_up (fun _ => none) 0 (some (a3 23))) 1 (some (a5 33))) 2 (some (a7 43))))] : va_W) ++ seg w a3 23 10) ++ seg w a5 33 10) ++ seg w a7 43 10)) rfl ?_
  refine r_iinc (lv' := [(1, .int (iI 3)), (0, .ref h)]) C 0 dX1_init_37 rfl (by decide) rfl ?_
  refine r_goto C 15 dX1_init_40 (by decide) ?_
  refine r_iload_n C 0 dX1_init_15 rfl ?_
  refine r_aload_n C 1 dX1_init_16 rfl ?_
  refine r_get (L := (((([(h, .inr (1, [.ref q1, .int (iI 0), .int (iI 0)])), (q1, aQ w 6 (va_up (va_up (va_up (fun _ => none) 0 (some (a3 23))) 1 (some (a5 33))) 2 (some (a7 43))))] : va_W) ++ seg w a3 23 10) ++ seg w a5 33 10) ++ seg w a7 43 10)) C 0 (ci := 1) (j := 0) rfl rfl uws1 (by decide) wd_97 rfl dX1_init_17 ?_
  refine r_alen (L := (((([(h, .inr (1, [.ref q1, .int (iI 0), .int (iI 0)])), (q1, aQ w 6 (va_up (va_up (va_up (fun _ => none) 0 (some (a3 23))) 1 (some (a5 33))) 2 (some (a7 43))))] : va_W) ++ seg w a3 23 10) ++ seg w a5 33 10) ++ seg w a7 43 10)) C 1 2 rfl rfl dX1_init_20 ?_
  refine r_icmp_ge C 43 dX1_init_21 ⟨by decide, by decide⟩ ⟨by decide, by decide⟩ (by decide) (fun h => absurd h (by decide)) (fun _ => ?_)
  refine r_aload_n C 1 dX1_init_24 rfl ?_
  refine r_get (L := (((([(h, .inr (1, [.ref q1, .int (iI 0), .int (iI 0)])), (q1, aQ w 6 (va_up (va_up (va_up (fun _ => none) 0 (some (a3 23))) 1 (some (a5 33))) 2 (some (a7 43))))] : va_W) ++ seg w a3 23 10) ++ seg w a5 33 10) ++ seg w a7 43 10)) C 0 (ci := 1) (j := 0) rfl rfl uws1 (by decide) wd_97 rfl dX1_init_25 ?_
  refine r_iload_n C 0 dX1_init_28 rfl ?_
  refine r_new (L := (((([(h, .inr (1, [.ref q1, .int (iI 0), .int (iI 0)])), (q1, aQ w 6 (va_up (va_up (va_up (fun _ => none) 0 (some (a3 23))) 1 (some (a5 33))) 2 (some (a7 43))))] : va_W) ++ seg w a3 23 10) ++ seg w a5 33 10) ++ seg w a7 43 10)) (ci := 0) C tyX0 [.null, .null, .null, .null, .null, .null, .null, .null, .null, .int (iI 0), .int (iI 0), .int (iI 0), .int (iI 0)] rfl uws0 tyX0_ok wd_94 wd_32 wd_14 dfl0 (by decide) dX1_init_29 (fun q8 => ?_)
  refine Wk.eq (ws' := pre ++ ((((([(h, .inr (1, [.ref q1, .int (iI 0), .int (iI 0)])), (q1, aQ w 6 (va_up (va_up (va_up (fun _ => none) 0 (some (a3 23))) 1 (some (a5 33))) 2 (some (a7 43))))] : va_W) ++ seg w a3 23 10) ++ seg w a5 33 10) ++ seg w a7 43 10) ++ ([(q8, .inr (0, [.null, .null, .null, .null, .null, .null, .null, .null, .null, .int (iI 0), .int (iI 0), .int (iI 0), .int (iI 0)]))] : va_W))) rfl ?_
  refine r_dup C dX1_init_32 rfl ?_
  refine r_callI C (k_G0 l (pre := pre ++ (((([(h, .inr (1, [.ref q1, .int (iI 0), .int (iI 0)])), (q1, aQ w 6 (va_up (va_up (va_up (fun _ => none) 0 (some (a3 23))) 1 (some (a5 33))) 2 (some (a7 43))))] : va_W) ++ seg w a3 23 10) ++ seg w a5 33 10) ++ seg w a7 43 10)) (h := q8) (show IsB 53 by unfold IsB; decide)) (List.append_assoc pre ((((([(h, .inr (1, [.ref q1, .int (iI 0), .int (iI 0)])), (q1, aQ w 6 (va_up (va_up (va_up (fun _ => none) 0 (some (a3 23))) 1 (some (a5 33))) 2 (some (a7 43))))] : va_W) ++ seg w a3 23 10) ++ seg w a5 33 10) ++ seg w a7 43 10)) [(q8, .inr (0, [.null, .null, .null, .null, .null, .null, .null, .null, .null, .int (iI 0), .int (iI 0), .int (iI 0), .int (iI 0)]))]).symm wd_35 wd_34 wd_14 wd_96 nd_X0_init rfl (by decide) (Nat.le_of_ble_eq_true rfl) dX1_init_33 ?_
  rintro ws9 ⟨a9, rfl, rfl⟩
  refine Wk.eq (ws' := pre ++ ((((([(h, .inr (1, [.ref q1, .int (iI 0), .int (iI 0)])), (q1, aQ w 6 (va_up (va_up (va_up (fun _ => none) 0 (some (a3 23))) 1 (some (a5 33))) 2 (some (a7 43))))] : va_W) ++ seg w a3 23 10) ++ seg w a5 33 10) ++ seg w a7 43 10) ++ seg w a9 53 10)) (List.append_assoc pre ((((([(h, .inr (1, [.ref q1, .int (iI 0), .int (iI 0)])), (q1, aQ w 6 (va_up (va_up (va_up (fun _ => none) 0 (some (a3 23))) 1 (some (a5 33))) 2 (some (a7 43))))] : va_W) ++ seg w a3 23 10) ++ seg w a5 33 10) ++ seg w a7 43 10)) (seg w a9 53 10)) ?_
  refine r_astq (L := ((((([(h, .inr (1, [.ref q1, .int (iI 0), .int (iI 0)])), (q1, aQ w 6 (va_up (va_up (va_up (fun _ => none) 0 (some (a3 23))) 1 (some (a5 33))) 2 (some (a7 43))))] : va_W) ++ seg w a3 23 10) ++ seg w a5 33 10) ++ seg w a7 43 10) ++ seg w a9 53 10)) C 1 32 rfl rfl (by decide) (by decide) dX1_init_36 ?_
  refine Wk.eq (ws' := pre ++ ((((([(h, .inr (1, [.ref q1, .int (iI 0), .int (iI 0)])), (q1, aQ w 6 (va_up (va_up (va_up (va_up (fun _ => none) 0 (some (a3 23))) 1 (some (a5 33))) 2 (some (a7 43))) 3 (some (a9 53))))] : va_W) ++ seg w a3 23 10) ++ seg w a5 33 10) ++ seg w a7 43 10) ++ seg w a9 53 10)) rfl ?_
  refine r_iinc (lv' := [(1, .int (iI 4)), (0, .ref h)]) C 0 dX1_init_37 rfl (by decide) rfl ?_
  refine r_goto C 15 dX1_init_40 (by decide) ?_
  refine r_iload_n C 0 dX1_init_15 rfl ?_
  refine r_aload_n C 1 dX1_init_16 rfl ?_
  refine r_get (L := ((((([(h, .inr (1, [.ref q1, .int (iI 0), .int (iI 0)])), (q1, aQ w 6 (va_up (va_up (va_up (va_up (fun _ => none) 0 (some (a3 23))) 1 (some (a5 33))) 2 (some (a7 43))) 3 (some (a9 53))))] : va_W) ++ seg w a3 23 10) ++ seg w a5 33 10) ++ seg w a7 43 10) ++ seg w a9 53 10)) C 0 (ci := 1) (j := 0) rfl rfl uws1 (by decide) wd_97 rfl dX1_init_17 ?_
  refine r_alen (L := ((((([(h, .inr (1, [.ref q1, .int (iI 0), .int (iI 0)])), (q1, aQ w 6 (va_up (va_up (va_up (va_up (fun _ => none) 0 (some (a3 23))) 1 (some (a5 33))) 2 (some (a7 43))) 3 (some (a9 53))))] : va_W) ++ seg w a3 23 10) ++ seg w a5 33 10) ++ seg w a7 43 10) ++ seg w a9 53 10)) C 1 2 rfl rfl dX1_init_20 ?_
  refine r_icmp_ge C 43 dX1_init_21 ⟨by decide, by decide⟩ ⟨by decide, by decide⟩ (by decide) (fun h => absurd h (by decide)) (fun _ => ?_)
  refine r_aload_n C 1 dX1_init_24 rfl ?_
  refine r_get (L := ((((([(h, .inr (1, [.ref q1, .int (iI 0), .int (iI 0)])), (q1, aQ w 6 (va_up (va_up (va_up (va_up (fun _ => none) 0 (some (a3 23))) 1 (some (a5 33))) 2 (some (a7 43))) 3 (some (a9 53))))] : va_W) ++ seg w a3 23 10) ++ seg w a5 33 10) ++ seg w a7 43 10) ++ seg w a9 53 10)) C 0 (ci := 1) (j := 0) rfl rfl uws1 (by decide) wd_97 rfl dX1_init_25 ?_
  refine r_iload_n C 0 dX1_init_28 rfl ?_
  refine r_new (L := ((((([(h, .inr (1, [.ref q1, .int (iI 0), .int (iI 0)])), (q1, aQ w 6 (va_up (va_up (va_up (va_up (fun _ => none) 0 (some (a3 23))) 1 (some (a5 33))) 2 (some (a7 43))) 3 (some (a9 53))))] : va_W) ++ seg w a3 23 10) ++ seg w a5 33 10) ++ seg w a7 43 10) ++ seg w a9 53 10)) (ci := 0) C tyX0 [.null, .null, .null, .null, .null, .null, .null, .null, .null, .int (iI 0), .int (iI 0), .int (iI 0), .int (iI 0)] rfl uws0 tyX0_ok wd_94 wd_32 wd_14 dfl0 (by decide) dX1_init_29 (fun q10 => ?_)
  refine Wk.eq (ws' := pre ++ (((((([(h, .inr (1, [.ref q1, .int (iI 0), .int (iI 0)])), (q1, aQ w 6 (va_up (va_up (va_up (va_up (fun _ => none) 0 (some (a3 23))) 1 (some (a5 33))) 2 (some (a7 43))) 3 (some (a9 53))))] : va_W) ++ seg w a3 23 10) ++ seg w a5 33 10) ++ seg w a7 43 10) ++ seg w a9 53 10) ++ ([(q10, .inr (0, [.null, .null, .null, .null, .null, .null, .null, .null, .null, .int (iI 0), .int (iI 0), .int (iI 0), .int (iI 0)]))] : va_W))) rfl ?_
  refine r_dup C dX1_init_32 rfl ?_
  refine r_callI C (k_G0 l (pre := pre ++ ((((([(h, .inr (1, [.ref q1, .int (iI 0), .int (iI 0)])), (q1, aQ w 6 (va_up (va_up (va_up (va_up (fun _ => none) 0 (some (a3 23))) 1 (some (a5 33))) 2 (some (a7 43))) 3 (some (a9 53))))] : va_W) ++ seg w a3 23 10) ++ seg w a5 33 10) ++ seg w a7 43 10) ++ seg w a9 53 10)) (h := q10) (show IsB 63 by unfold IsB; decide)) (List.append_assoc pre (((((([(h, .inr (1, [.ref q1, .int (iI 0), .int (iI 0)])), (q1, aQ w 6 (va_up (va_up (va_up (va_up (fun _ => none) 0 (some (a3 23))) 1 (some (a5 33))) 2 (some (a7 43))) 3 (some (a9 53))))] : va_W) ++ seg w a3 23 10) ++ seg w a5 33 10) ++ seg w a7 43 10) ++ seg w a9 53 10)) [(q10, .inr (0, [.null, .null, .null, .null, .null, .null, .null, .null, .null, .int (iI 0), .int (iI 0), .int (iI 0), .int (iI 0)]))]).symm wd_35 wd_34 wd_14 wd_96 nd_X0_init rfl (by decide) (Nat.le_of_ble_eq_true rfl) dX1_init_33 ?_
  rintro ws9 ⟨a11, rfl, rfl⟩
  refine Wk.eq (ws' := pre ++ (((((([(h, .inr (1, [.ref q1, .int (iI 0), .int (iI 0)])), (q1, aQ w 6 (va_up (va_up (va_up (va_up (fun _ => none) 0 (some (a3 23))) 1 (some (a5 33))) 2 (some (a7 43))) 3 (some (a9 53))))] : va_W) ++ seg w a3 23 10) ++ seg w a5 33 10) ++ seg w a7 43 10) ++ seg w a9 53 10) ++ seg w a11 63 10)) (List.append_assoc pre (((((([(h, .inr (1, [.ref q1, .int (iI 0), .int (iI 0)])), (q1, aQ w 6 (va_up (va_up (va_up (va_up (fun _ => none) 0 (some (a3 23))) 1 (some (a5 33))) 2 (some (a7 43))) 3 (some (a9 53))))] : va_W) ++ seg w a3 23 10) ++ seg w a5 33 10) ++ seg w a7 43 10) ++ seg w a9 53 10)) (seg w a11 63 10)) ?_
  refine r_astq (L := (((((([(h, .inr (1, [.ref q1, .int (iI 0), .int (iI 0)])), (q1, aQ w 6 (va_up (va_up (va_up (va_up (fun _ => none) 0 (some (a3 23))) 1 (some (a5 33))) 2 (some (a7 43))) 3 (some (a9 53))))] : va_W) ++ seg w a3 23 10) ++ seg w a5 33 10) ++ seg w a7 43 10) ++ seg w a9 53 10) ++ seg w a11 63 10)) C 1 42 rfl rfl (by decide) (by decide) dX1_init_36 ?_
  refine Wk.eq (ws' := pre ++ (((((([(h, .inr (1, [.ref q1, .int (iI 0), .int (iI 0)])), (q1, aQ w 6 (va_up (va_up (va_up (va_up (va_up (fun _ => none) 0 (some (a3 23))) 1 (some (a5 33))) 2 (some (a7 43))) 3 (some (a9 53))) 4 (some (a11 63))))] : va_W) ++ seg w a3 23 10) ++ seg w a5 33 10) ++ seg w a7 43 10) ++ seg w a9 53 10) ++ seg w a11 63 10)) rfl ?_
  refine r_iinc (lv' := [(1, .int (iI 5)), (0, .ref h)]) C 0 dX1_init_37 rfl (by decide) rfl ?_
  refine r_goto C 15 dX1_init_40 (by decide) ?_
  refine r_iload_n C 0 dX1_init_15 rfl ?_
  refine r_aload_n C 1 dX1_init_16 rfl ?_
  refine r_get (L := (((((([(h, .inr (1, [.ref q1, .int (iI 0), .int (iI 0)])), (q1, aQ w 6 (va_up (va_up (va_up (va_up (va_up (fun _ => none) 0 (some (a3 23))) 1 (some (a5 33))) 2 (some (a7 43))) 3 (some (a9 53))) 4 (some (a11 63))))] : va_W) ++ seg w a3 23 10) ++ seg w a5 33 10) ++ seg w a7 43 10) ++ seg w a9 53 10) ++ seg w a11 63 10)) C 0 (ci := 1) (j := 0) rfl rfl uws1 (by decide) wd_97 rfl dX1_init_17 ?_
  refine r_alen (L := (((((([(h, .inr (1, [.ref q1, .int (iI 0), .int (iI 0)])), (q1, aQ w 6 (va_up (va_up (va_up (va_up (va_up (fun _ => none) 0 (some (a3 23))) 1 (some (a5 33))) 2 (some (a7 43))) 3 (some (a9 53))) 4 (some (a11 63))))] : va_W) ++ seg w a3 23 10) ++ seg w a5 33 10) ++ seg w a7 43 10) ++ seg w a9 53 10) ++ seg w a11 63 10)) C 1 2 rfl rfl dX1_init_20 ?_
  refine r_icmp_ge C 43 dX1_init_21 ⟨by decide, by decide⟩ ⟨by decide, by decide⟩ (by decide) (fun h => absurd h (by decide)) (fun _ => ?_)
  refine r_aload_n C 1 dX1_init_24 rfl ?_
  refine r_get (L := (((((([(h, .inr (1, [.ref q1, .int (iI 0), .int (iI 0)])), (q1, aQ w 6 (va_up (va_up (va_up (va_up (va_up (fun _ => none) 0 (some (a3 23))) 1 (some (a5 33))) 2 (some (a7 43))) 3 (some (a9 53))) 4 (some (a11 63))))] : va_W) ++ seg w a3 23 10) ++ seg w a5 33 10) ++ seg w a7 43 10) ++ seg w a9 53 10) ++ seg w a11 63 10)) C 0 (ci := 1) (j := 0) rfl rfl uws1 (by decide) wd_97 rfl dX1_init_25 ?_
  refine r_iload_n C 0 dX1_init_28 rfl ?_
  refine r_new (L := (((((([(h, .inr (1, [.ref q1, .int (iI 0), .int (iI 0)])), (q1, aQ w 6 (va_up (va_up (va_up (va_up (va_up (fun _ => none) 0 (some (a3 23))) 1 (some (a5 33))) 2 (some (a7 43))) 3 (some (a9 53))) 4 (some (a11 63))))] : va_W) ++ seg w a3 23 10) ++ seg w a5 33 10) ++ seg w a7 43 10) ++ seg w a9 53 10) ++ seg w a11 63 10)) (ci := 0) C tyX0 [.null, .null, .null, .null, .null, .null, .null, .null, .null, .int (iI 0), .int (iI 0), .int (iI 0), .int (iI 0)] rfl uws0 tyX0_ok wd_94 wd_32 wd_14 dfl0 (by decide) dX1_init_29 (fun q12 => ?_)
  refine Wk.eq (ws' := pre ++ ((((((([(h, .inr (1, [.ref q1, .int (iI 0), .int (iI 0)])), (q1, aQ w 6 (va_up (va_up (va_up (va_up (va_up (fun _ => none) 0 (some (a3 23))) 1 (some (a5 33))) 2 (some (a7 43))) 3 (some (a9 53))) 4 (some (a11 63))))] : va_W) ++ seg w a3 23 10) ++ seg w a5 33 10) ++ seg w a7 43 10) ++ seg w a9 53 10) ++ seg w a11 63 10) ++ ([(q12, .inr (0, [.null, .null, .null, .null, .null, .null, .null, .null, .null, .int (iI 0), .int (iI 0), .int (iI 0), .int (iI 0)]))] : va_W))) rfl ?_
  refine r_dup C dX1_init_32 rfl ?_
  refine r_callI C (k_G0 l (pre := pre ++ (((((([(h, .inr (1, [.ref q1, .int (iI 0), .int (iI 0)])), (q1, aQ w 6 (va_up (va_up (va_up (va_up (va_up (fun _ => none) 0 (some (a3 23))) 1 (some (a5 33))) 2 (some (a7 43))) 3 (some (a9 53))) 4 (some (a11 63))))] : va_W) ++ seg w a3 23 10) ++ seg w a5 33 10) ++ seg w a7 43 10) ++ seg w a9 53 10) ++ seg w a11 63 10)) (h := q12) (show IsB 73 by unfold IsB; decide)) (List.append_assoc pre ((((((([(h, .inr (1, [.ref q1, .int (iI 0), .int (iI 0)])), (q1, aQ w 6 (va_up (va_up (va_up (va_up (va_up (fun _ => none) 0 (some (a3 23))) 1 (some (a5 33))) 2 (some (a7 43))) 3 (some (a9 53))) 4 (some (a11 63))))] : va_W) ++ seg w a3 23 10) ++ seg w a5 33 10) ++ seg w a7 43 10) ++ seg w a9 53 10) ++ seg w a11 63 10)) [(q12, .inr (0, [.null, .null, .null, .null, .null, .null, .null, .null, .null, .int (iI 0), .int (iI 0), .int (iI 0), .int (iI 0)]))]).symm wd_35 wd_34 wd_14 wd_96 nd_X0_init rfl (by decide) (Nat.le_of_ble_eq_true rfl) dX1_init_33 ?_
  rintro ws9 ⟨a13, rfl, rfl⟩
  refine Wk.eq (ws' := pre ++ ((((((([(h, .inr (1, [.ref q1, .int (iI 0), .int (iI 0)])), (q1, aQ w 6 (va_up (va_up (va_up (va_up (va_up (fun _ => none) 0 (some (a3 23))) 1 (some (a5 33))) 2 (some (a7 43))) 3 (some (a9 53))) 4 (some (a11 63))))] : va_W) ++ seg w a3 23 10) ++ seg w a5 33 10) ++ seg w a7 43 10) ++ seg w a9 53 10) ++ seg w a11 63 10) ++ seg w a13 73 10)) (List.append_assoc pre ((((((([(h, .inr (1, [.ref q1, .int (iI 0), .int (iI 0)])), (q1, aQ w 6 (va_up (va_up (va_up (va_up (va_up (fun _ => none) 0 (some (a3 23))) 1 (some (a5 33))) 2 (some (a7 43))) 3 (some (a9 53))) 4 (some (a11 63))))] : va_W) ++ seg w a3 23 10) ++ seg w a5 33 10) ++ seg w a7 43 10) ++ seg w a9 53 10) ++ seg w a11 63 10)) (seg w a13 73 10)) ?_
  refine r_astq (L := ((((((([(h, .inr (1, [.ref q1, .int (iI 0), .int (iI 0)])), (q1, aQ w 6 (va_up (va_up (va_up (va_up (va_up (fun _ => none) 0 (some (a3 23))) 1 (some (a5 33))) 2 (some (a7 43))) 3 (some (a9 53))) 4 (some (a11 63))))] : va_W) ++ seg w a3 23 10) ++ seg w a5 33 10) ++ seg w a7 43 10) ++ seg w a9 53 10) ++ seg w a11 63 10) ++ seg w a13 73 10)) C 1 52 rfl rfl (by decide) (by decide) dX1_init_36 ?_
  refine Wk.eq (ws' := pre ++ ((((((([(h, .inr (1, [.ref q1, .int (iI 0), .int (iI 0)])), (q1, aQ w 6 (va_up (va_up (va_up (va_up (va_up (va_up (fun _ => none) 0 (some (a3 23))) 1 (some (a5 33))) 2 (some (a7 43))) 3 (some (a9 53))) 4 (some (a11 63))) 5 (some (a13 73))))] : va_W) ++ seg w a3 23 10) ++ seg w a5 33 10) ++ seg w a7 43 10) ++ seg w a9 53 10) ++ seg w a11 63 10) ++ seg w a13 73 10)) rfl ?_
  refine r_iinc (lv' := [(1, .int (iI 6)), (0, .ref h)]) C 0 dX1_init_37 rfl (by decide) rfl ?_
  refine r_goto C 15 dX1_init_40 (by decide) ?_
  refine r_iload_n C 0 dX1_init_15 rfl ?_
  refine r_aload_n C 1 dX1_init_16 rfl ?_
  refine r_get (L := ((((((([(h, .inr (1, [.ref q1, .int (iI 0), .int (iI 0)])), (q1, aQ w 6 (va_up (va_up (va_up (va_up (va_up (va_up (fun _ => none) 0 (some (a3 23))) 1 (some (a5 33))) 2 (some (a7 43))) 3 (some (a9 53))) 4 (some (a11 63))) 5 (some (a13 73))))] : va_W) ++ seg w a3 23 10) ++ seg w a5 33 10) ++ seg w a7 43 10) ++ seg w a9 53 10) ++ seg w a11 63 10) ++ seg w a13 73 10)) C 0 (ci := 1) (j := 0) rfl rfl uws1 (by decide) wd_97 rfl dX1_init_17 ?_
  refine r_alen (L := ((((((([(h, .inr (1, [.ref q1, .int (iI 0), .int (iI 0)])), (q1, aQ w 6 (va_up (va_up (va_up (va_up (va_up (va_up (fun _ => none) 0 (some (a3 23))) 1 (some (a5 33))) 2 (some (a7 43))) 3 (some (a9 53))) 4 (some (a11 63))) 5 (some (a13 73))))] : va_W) ++ seg w a3 23 10) ++ seg w a5 33 10) ++ seg w a7 43 10) ++ seg w a9 53 10) ++ seg w a11 63 10) ++ seg w a13 73 10)) C 1 2 rfl rfl dX1_init_20 ?_
  refine r_icmp_ge C 43 dX1_init_21 ⟨by decide, by decide⟩ ⟨by decide, by decide⟩ (by decide) (fun _ => ?_) (fun h => absurd h (by decide))
  refine r_vret C (by decide) dX1_init_43 ?_
  refine ⟨fun k => if k = 21 then h else if k = 22 then q1 else if k < 33 then a3 k else if k < 43 then a5 k else if k < 53 then a7 k else if k < 63 then a9 k else if k < 73 then a11 k else a13 k, rfl, ?_⟩
  rw [seg_hist, seg22, seg_bd (show IsB 23 by unfold IsB; decide), seg_bd (show IsB 33 by unfold IsB; decide), seg_bd (show IsB 43 by unfold IsB; decide), seg_bd (show IsB 53 by unfold IsB; decide), seg_bd (show IsB 63 by unfold IsB; decide), seg_bd (show IsB 73 by unfold IsB; decide), seg_bd (show IsB 23 by unfold IsB; decide), seg_bd (show IsB 33 by unfold IsB; decide), seg_bd (show IsB 43 by unfold IsB; decide), seg_bd (show IsB 53 by unfold IsB; decide), seg_bd (show IsB 63 by unfold IsB; decide), seg_bd (show IsB 73 by unfold IsB; decide)]
  rfl

set_option maxRecDepth 100000 in
set_option maxHeartbeats 4000000 in
theorem k_G3 (l : Launch) {w : WP} {pre : va_W} {h : Nat} : ConG l yX3_init cX3_init 2 3 109 2648 w [.ref h] (pre ++ [(h, .inr (3, [.null, .null, .null, .null, .null, .null, .int (iI 0), .null]))]) (fun ws' => ∃ ad : Nat → Nat, ad 0 = h ∧ ws' = pre ++ seg w ad 0 110) := by
  refine ConG.mk (lv := [(0, .ref h)]) (by decide) (Nat.le_of_ble_eq_true rfl) rfl ?_
  intro p e s m be me c C hin
  refine r_aload_n C 0 dX3_init_0 rfl ?_
  refine r_obj C wd_28 (by decide) dX3_init_1 ?_
  refine r_aload_n C 0 dX3_init_4 rfl ?_
  refine r_new (L := ([(h, .inr (3, [.null, .null, .null, .null, .null, .null, .int (iI 0), .null]))] : va_W)) (ci := 0) C tyX0 [.null, .null, .null, .null, .null, .null, .null, .null, .null, .int (iI 0), .int (iI 0), .int (iI 0), .int (iI 0)] rfl uws0 tyX0_ok wd_31 wd_32 wd_14 dfl0 (by decide) dX3_init_5 (fun q1 => ?_)
  refine Wk.eq (ws' := pre ++ ([(h, .inr (3, [.null, .null, .null, .null, .null, .null, .int (iI 0), .null])), (q1, .inr (0, [.null, .null, .null, .null, .null, .null, .null, .null, .null, .int (iI 0), .int (iI 0), .int (iI 0), .int (iI 0)]))] : va_W)) rfl ?_
  refine r_dup C dX3_init_8 rfl ?_
  refine r_callI C (k_G0 l (pre := pre ++ ([(h, .inr (3, [.null, .null, .null, .null, .null, .null, .int (iI 0), .null]))] : va_W)) (h := q1) (show IsB 1 by unfold IsB; decide)) (List.append_assoc pre (([(h, .inr (3, [.null, .null, .null, .null, .null, .null, .int (iI 0), .null]))] : va_W)) [(q1, .inr (0, [.null, .null, .null, .null, .null, .null, .null, .null, .null, .int (iI 0), .int (iI 0), .int (iI 0), .int (iI 0)]))]).symm wd_35 wd_34 wd_14 wd_33 nd_X0_init rfl (by decide) (Nat.le_of_ble_eq_true rfl) dX3_init_9 ?_
  rintro ws9 ⟨a2, rfl, rfl⟩
  refine Wk.eq (ws' := pre ++ (([(h, .inr (3, [.null, .null, .null, .null, .null, .null, .int (iI 0), .null]))] : va_W) ++ seg w a2 1 10)) (List.append_assoc pre (([(h, .inr (3, [.null, .null, .null, .null, .null, .null, .int (iI 0), .null]))] : va_W)) (seg w a2 1 10)) ?_
  refine r_putF (L := (([(h, .inr (3, [.null, .null, .null, .null, .null, .null, .int (iI 0), .null]))] : va_W) ++ seg w a2 1 10)) (v := .ref (a2 1)) C hin 0 (ci := 3) (j := 0) tyX3 rfl rfl uws3 tyX3_ok nmX3 (by decide) wd_133 rfl rfl rfl rfl rfl (Nat.le_of_ble_eq_true rfl) dX3_init_12 ?_
  refine Wk.eq (ws' := pre ++ (([(h, .inr (3, [.ref (a2 1), .null, .null, .null, .null, .null, .int (iI 0), .null]))] : va_W) ++ seg w a2 1 10)) rfl ?_
  refine r_aload_n C 0 dX3_init_15 rfl ?_
  refine r_new (L := (([(h, .inr (3, [.ref (a2 1), .null, .null, .null, .null, .null, .int (iI 0), .null]))] : va_W) ++ seg w a2 1 10)) (ci := 0) C tyX0 [.null, .null, .null, .null, .null, .null, .null, .null, .null, .int (iI 0), .int (iI 0), .int (iI 0), .int (iI 0)] rfl uws0 tyX0_ok wd_31 wd_32 wd_14 dfl0 (by decide) dX3_init_16 (fun q3 => ?_)
  refine Wk.eq (ws' := pre ++ ((([(h, .inr (3, [.ref (a2 1), .null, .null, .null, .null, .null, .int (iI 0), .null]))] : va_W) ++ seg w a2 1 10) ++ ([(q3, .inr (0, [.null, .null, .null, .null, .null, .null, .null, .null, .null, .int (iI 0), .int (iI 0), .int (iI 0), .int (iI 0)]))] : va_W))) rfl ?_
  refine r_dup C dX3_init_19 rfl ?_
  refine r_callI C (k_G0 l (pre := pre ++ (([(h, .inr (3, [.ref (a2 1), .null, .null, .null, .null, .null, .int (iI 0), .null]))] : va_W) ++ seg w a2 1 10)) (h := q3) (show IsB 11 by unfold IsB; decide)) (List.append_assoc pre ((([(h, .inr (3, [.ref (a2 1), .null, .null, .null, .null, .null, .int (iI 0), .null]))] : va_W) ++ seg w a2 1 10)) [(q3, .inr (0, [.null, .null, .null, .null, .null, .null, .null, .null, .null, .int (iI 0), .int (iI 0), .int (iI 0), .int (iI 0)]))]).symm wd_35 wd_34 wd_14 wd_33 nd_X0_init rfl (by decide) (Nat.le_of_ble_eq_true rfl) dX3_init_20 ?_
  rintro ws9 ⟨a4, rfl, rfl⟩
  refine Wk.eq (ws' := pre ++ ((([(h, .inr (3, [.ref (a2 1), .null, .null, .null, .null, .null, .int (iI 0), .null]))] : va_W) ++ seg w a2 1 10) ++ seg w a4 11 10)) (List.append_assoc pre ((([(h, .inr (3, [.ref (a2 1), .null, .null, .null, .null, .null, .int (iI 0), .null]))] : va_W) ++ seg w a2 1 10)) (seg w a4 11 10)) ?_
  refine r_putF (L := ((([(h, .inr (3, [.ref (a2 1), .null, .null, .null, .null, .null, .int (iI 0), .null]))] : va_W) ++ seg w a2 1 10) ++ seg w a4 11 10)) (v := .ref (a4 11)) C hin 0 (ci := 3) (j := 1) tyX3 rfl rfl uws3 tyX3_ok nmX3 (by decide) wd_134 rfl rfl rfl rfl rfl (Nat.le_of_ble_eq_true rfl) dX3_init_23 ?_
  refine Wk.eq (ws' := pre ++ ((([(h, .inr (3, [.ref (a2 1), .ref (a4 11), .null, .null, .null, .null, .int (iI 0), .null]))] : va_W) ++ seg w a2 1 10) ++ seg w a4 11 10)) rfl ?_
  refine r_aload_n C 0 dX3_init_26 rfl ?_
  refine r_new (L := ((([(h, .inr (3, [.ref (a2 1), .ref (a4 11), .null, .null, .null, .null, .int (iI 0), .null]))] : va_W) ++ seg w a2 1 10) ++ seg w a4 11 10)) (ci := 1) C tyX1 [.null, .int (iI 0), .int (iI 0)] rfl uws1 tyX1_ok wd_88 wd_89 wd_15 dfl1 (by decide) dX3_init_27 (fun q5 => ?_)
  refine Wk.eq (ws' := pre ++ (((([(h, .inr (3, [.ref (a2 1), .ref (a4 11), .null, .null, .null, .null, .int (iI 0), .null]))] : va_W) ++ seg w a2 1 10) ++ seg w a4 11 10) ++ ([(q5, .inr (1, [.null, .int (iI 0), .int (iI 0)]))] : va_W))) rfl ?_
  refine r_dup C dX3_init_30 rfl ?_
  refine r_callI C (k_G1 l (pre := pre ++ ((([(h, .inr (3, [.ref (a2 1), .ref (a4 11), .null, .null, .null, .null, .int (iI 0), .null]))] : va_W) ++ seg w a2 1 10) ++ seg w a4 11 10)) (h := q5)) (List.append_assoc pre (((([(h, .inr (3, [.ref (a2 1), .ref (a4 11), .null, .null, .null, .null, .int (iI 0), .null]))] : va_W) ++ seg w a2 1 10) ++ seg w a4 11 10)) [(q5, .inr (1, [.null, .int (iI 0), .int (iI 0)]))]).symm wd_92 wd_91 wd_15 wd_90 nd_X1_init rfl (by decide) (Nat.le_of_ble_eq_true rfl) dX3_init_31 ?_
  rintro ws9 ⟨a6, rfl, rfl⟩
  refine Wk.eq (ws' := pre ++ (((([(h, .inr (3, [.ref (a2 1), .ref (a4 11), .null, .null, .null, .null, .int (iI 0), .null]))] : va_W) ++ seg w a2 1 10) ++ seg w a4 11 10) ++ seg w a6 21 62)) (List.append_assoc pre (((([(h, .inr (3, [.ref (a2 1), .ref (a4 11), .null, .null, .null, .null, .int (iI 0), .null]))] : va_W) ++ seg w a2 1 10) ++ seg w a4 11 10)) (seg w a6 21 62)) ?_
  refine r_putF (L := (((([(h, .inr (3, [.ref (a2 1), .ref (a4 11), .null, .null, .null, .null, .int (iI 0), .null]))] : va_W) ++ seg w a2 1 10) ++ seg w a4 11 10) ++ seg w a6 21 62)) (v := .ref (a6 21)) C hin 0 (ci := 3) (j := 2) tyX3 rfl rfl uws3 tyX3_ok nmX3 (by decide) wd_135 rfl rfl rfl rfl rfl (Nat.le_of_ble_eq_true rfl) dX3_init_34 ?_
  refine Wk.eq (ws' := pre ++ (((([(h, .inr (3, [.ref (a2 1), .ref (a4 11), .ref (a6 21), .null, .null, .null, .int (iI 0), .null]))] : va_W) ++ seg w a2 1 10) ++ seg w a4 11 10) ++ seg w a6 21 62)) rfl ?_
  refine r_aload_n C 0 dX3_init_37 rfl ?_
  refine r_iconst C 2 dX3_init_38 ?_
  refine r_newq (L := (((([(h, .inr (3, [.ref (a2 1), .ref (a4 11), .ref (a6 21), .null, .null, .null, .int (iI 0), .null]))] : va_W) ++ seg w a2 1 10) ++ seg w a4 11 10) ++ seg w a6 21 62)) C 2 wd_31 (by decide) dX3_init_39 (fun q7 => ?_)
  refine Wk.eq (ws' := pre ++ ((((([(h, .inr (3, [.ref (a2 1), .ref (a4 11), .ref (a6 21), .null, .null, .null, .int (iI 0), .null]))] : va_W) ++ seg w a2 1 10) ++ seg w a4 11 10) ++ seg w a6 21 62) ++ ([(q7, aQ w 2 (fun _ => none))] : va_W))) rfl ?_
  refine r_putF (L := ((((([(h, .inr (3, [.ref (a2 1), .ref (a4 11), .ref (a6 21), .null, .null, .null, .int (iI 0), .null]))] : va_W) ++ seg w a2 1 10) ++ seg w a4 11 10) ++ seg w a6 21 62) ++ ([(q7, aQ w 2 (fun _ => none))] : va_W))) (v := .ref q7) C hin 0 (ci := 3) (j := 3) tyX3 rfl rfl uws3 tyX3_ok nmX3 (by decide) wd_136 rfl rfl rfl rfl rfl (Nat.le_of_ble_eq_true rfl) dX3_init_42 ?_
  refine Wk.eq (ws' := pre ++ ((((([(h, .inr (3, [.ref (a2 1), .ref (a4 11), .ref (a6 21), .ref q7, .null, .null, .int (iI 0), .null]))] : va_W) ++ seg w a2 1 10) ++ seg w a4 11 10) ++ seg w a6 21 62) ++ ([(q7, aQ w 2 (fun _ => none))] : va_W))) rfl ?_
  refine r_aload_n C 0 dX3_init_45 rfl ?_
  refine r_iconst C 2 dX3_init_46 ?_
  refine r_newb (L := ((((([(h, .inr (3, [.ref (a2 1), .ref (a4 11), .ref (a6 21), .ref q7, .null, .null, .int (iI 0), .null]))] : va_W) ++ seg w a2 1 10) ++ seg w a4 11 10) ++ seg w a6 21 62) ++ ([(q7, aQ w 2 (fun _ => none))] : va_W))) C 2 (by decide) dX3_init_47 (fun q8 => ?_)
  refine Wk.eq (ws' := pre ++ ((((([(h, .inr (3, [.ref (a2 1), .ref (a4 11), .ref (a6 21), .ref q7, .null, .null, .int (iI 0), .null]))] : va_W) ++ seg w a2 1 10) ++ seg w a4 11 10) ++ seg w a6 21 62) ++ ([(q7, aQ w 2 (fun _ => none)), (q8, aB w 2 (f0 0 2))] : va_W))) rfl ?_
  refine r_putF (L := ((((([(h, .inr (3, [.ref (a2 1), .ref (a4 11), .ref (a6 21), .ref q7, .null, .null, .int (iI 0), .null]))] : va_W) ++ seg w a2 1 10) ++ seg w a4 11 10) ++ seg w a6 21 62) ++ ([(q7, aQ w 2 (fun _ => none)), (q8, aB w 2 (f0 0 2))] : va_W))) (v := .ref q8) C hin 0 (ci := 3) (j := 4) tyX3 rfl rfl uws3 tyX3_ok nmX3 (by decide) wd_137 rfl rfl rfl rfl rfl (Nat.le_of_ble_eq_true rfl) dX3_init_49 ?_
  refine Wk.eq (ws' := pre ++ ((((([(h, .inr (3, [.ref (a2 1), .ref (a4 11), .ref (a6 21), .ref q7, .ref q8, .null, .int (iI 0), .null]))] : va_W) ++ seg w a2 1 10) ++ seg w a4 11 10) ++ seg w a6 21 62) ++ ([(q7, aQ w 2 (fun _ => none)), (q8, aB w 2 (f0 0 2))] : va_W))) rfl ?_
  refine r_aload_n C 0 dX3_init_52 rfl ?_
  refine r_bipush C 60 dX3_init_53 (by decide) ?_
  refine r_newa (L := ((((([(h, .inr (3, [.ref (a2 1), .ref (a4 11), .ref (a6 21), .ref q7, .ref q8, .null, .int (iI 0), .null]))] : va_W) ++ seg w a2 1 10) ++ seg w a4 11 10) ++ seg w a6 21 62) ++ ([(q7, aQ w 2 (fun _ => none)), (q8, aB w 2 (f0 0 2))] : va_W))) C 60 (by decide) dX3_init_55 (fun q9 => ?_)
  refine Wk.eq (ws' := pre ++ ((((([(h, .inr (3, [.ref (a2 1), .ref (a4 11), .ref (a6 21), .ref q7, .ref q8, .null, .int (iI 0), .null]))] : va_W) ++ seg w a2 1 10) ++ seg w a4 11 10) ++ seg w a6 21 62) ++ ([(q7, aQ w 2 (fun _ => none)), (q8, aB w 2 (f0 0 2)), (q9, aI w 60 (f0 0 60))] : va_W))) rfl ?_
  refine r_putF (L := ((((([(h, .inr (3, [.ref (a2 1), .ref (a4 11), .ref (a6 21), .ref q7, .ref q8, .null, .int (iI 0), .null]))] : va_W) ++ seg w a2 1 10) ++ seg w a4 11 10) ++ seg w a6 21 62) ++ ([(q7, aQ w 2 (fun _ => none)), (q8, aB w 2 (f0 0 2)), (q9, aI w 60 (f0 0 60))] : va_W))) (v := .ref q9) C hin 0 (ci := 3) (j := 5) tyX3 rfl rfl uws3 tyX3_ok nmX3 (by decide) wd_138 rfl rfl rfl rfl rfl (Nat.le_of_ble_eq_true rfl) dX3_init_57 ?_
  refine Wk.eq (ws' := pre ++ ((((([(h, .inr (3, [.ref (a2 1), .ref (a4 11), .ref (a6 21), .ref q7, .ref q8, .ref q9, .int (iI 0), .null]))] : va_W) ++ seg w a2 1 10) ++ seg w a4 11 10) ++ seg w a6 21 62) ++ ([(q7, aQ w 2 (fun _ => none)), (q8, aB w 2 (f0 0 2)), (q9, aI w 60 (f0 0 60))] : va_W))) rfl ?_
  refine r_aload_n C 0 dX3_init_60 rfl ?_
  refine r_new (L := ((((([(h, .inr (3, [.ref (a2 1), .ref (a4 11), .ref (a6 21), .ref q7, .ref q8, .ref q9, .int (iI 0), .null]))] : va_W) ++ seg w a2 1 10) ++ seg w a4 11 10) ++ seg w a6 21 62) ++ ([(q7, aQ w 2 (fun _ => none)), (q8, aB w 2 (f0 0 2)), (q9, aI w 60 (f0 0 60))] : va_W))) (ci := 2) C tyX2 [.null, .null, .null, .int (iI 0), .int (iI 0), .int (iI 0), .int (iI 0)] rfl uws2 tyX2_ok wd_108 wd_109 wd_16 dfl2 (by decide) dX3_init_61 (fun q10 => ?_)
  refine Wk.eq (ws' := pre ++ ((((([(h, .inr (3, [.ref (a2 1), .ref (a4 11), .ref (a6 21), .ref q7, .ref q8, .ref q9, .int (iI 0), .null]))] : va_W) ++ seg w a2 1 10) ++ seg w a4 11 10) ++ seg w a6 21 62) ++ ([(q7, aQ w 2 (fun _ => none)), (q8, aB w 2 (f0 0 2)), (q9, aI w 60 (f0 0 60)), (q10, .inr (2, [.null, .null, .null, .int (iI 0), .int (iI 0), .int (iI 0), .int (iI 0)]))] : va_W))) rfl ?_
  refine r_dup C dX3_init_64 rfl ?_
  refine r_callIN C (k_G2 l (pre := pre ++ ((((([(h, .inr (3, [.ref (a2 1), .ref (a4 11), .ref (a6 21), .ref q7, .ref q8, .ref q9, .int (iI 0), .null]))] : va_W) ++ seg w a2 1 10) ++ seg w a4 11 10) ++ seg w a6 21 62) ++ ([(q7, aQ w 2 (fun _ => none)), (q8, aB w 2 (f0 0 2)), (q9, aI w 60 (f0 0 60))] : va_W))) (h := q10)) (List.append_assoc pre (((((([(h, .inr (3, [.ref (a2 1), .ref (a4 11), .ref (a6 21), .ref q7, .ref q8, .ref q9, .int (iI 0), .null]))] : va_W) ++ seg w a2 1 10) ++ seg w a4 11 10) ++ seg w a6 21 62) ++ ([(q7, aQ w 2 (fun _ => none)), (q8, aB w 2 (f0 0 2)), (q9, aI w 60 (f0 0 60))] : va_W))) [(q10, .inr (2, [.null, .null, .null, .int (iI 0), .int (iI 0), .int (iI 0), .int (iI 0)]))]).symm wd_112 wd_111 wd_16 nw_110 nd_X2_init rfl (by decide) (Nat.le_of_ble_eq_true rfl) dX3_init_65 ?_
  rintro ws9 ⟨a11, rfl, rfl⟩
  refine Wk.eq (ws' := pre ++ (((((([(h, .inr (3, [.ref (a2 1), .ref (a4 11), .ref (a6 21), .ref q7, .ref q8, .ref q9, .int (iI 0), .null]))] : va_W) ++ seg w a2 1 10) ++ seg w a4 11 10) ++ seg w a6 21 62) ++ ([(q7, aQ w 2 (fun _ => none)), (q8, aB w 2 (f0 0 2)), (q9, aI w 60 (f0 0 60))] : va_W)) ++ seg w a11 86 4)) (List.append_assoc pre (((((([(h, .inr (3, [.ref (a2 1), .ref (a4 11), .ref (a6 21), .ref q7, .ref q8, .ref q9, .int (iI 0), .null]))] : va_W) ++ seg w a2 1 10) ++ seg w a4 11 10) ++ seg w a6 21 62) ++ ([(q7, aQ w 2 (fun _ => none)), (q8, aB w 2 (f0 0 2)), (q9, aI w 60 (f0 0 60))] : va_W))) (seg w a11 86 4)) ?_
  refine r_putF (L := (((((([(h, .inr (3, [.ref (a2 1), .ref (a4 11), .ref (a6 21), .ref q7, .ref q8, .ref q9, .int (iI 0), .null]))] : va_W) ++ seg w a2 1 10) ++ seg w a4 11 10) ++ seg w a6 21 62) ++ ([(q7, aQ w 2 (fun _ => none)), (q8, aB w 2 (f0 0 2)), (q9, aI w 60 (f0 0 60))] : va_W)) ++ seg w a11 86 4)) (v := .ref (a11 86)) C hin 0 (ci := 3) (j := 7) tyX3 rfl rfl uws3 tyX3_ok nmX3 (by decide) wd_139 rfl rfl rfl rfl rfl (Nat.le_of_ble_eq_true rfl) dX3_init_68 ?_
  refine Wk.eq (ws' := pre ++ (((((([(h, .inr (3, [.ref (a2 1), .ref (a4 11), .ref (a6 21), .ref q7, .ref q8, .ref q9, .int (iI 0), .ref (a11 86)]))] : va_W) ++ seg w a2 1 10) ++ seg w a4 11 10) ++ seg w a6 21 62) ++ ([(q7, aQ w 2 (fun _ => none)), (q8, aB w 2 (f0 0 2)), (q9, aI w 60 (f0 0 60))] : va_W)) ++ seg w a11 86 4)) rfl ?_
  refine r_iconst C 0 dX3_init_71 ?_
  refine r_istore_n (lv' := [(1, .int (iI 0)), (0, .ref h)]) C dX3_init_72 (by decide) rfl ?_
  refine r_iload_n C 0 dX3_init_73 rfl ?_
  refine r_aload_n C 1 dX3_init_74 rfl ?_
  refine r_get (L := (((((([(h, .inr (3, [.ref (a2 1), .ref (a4 11), .ref (a6 21), .ref q7, .ref q8, .ref q9, .int (iI 0), .ref (a11 86)]))] : va_W) ++ seg w a2 1 10) ++ seg w a4 11 10) ++ seg w a6 21 62) ++ ([(q7, aQ w 2 (fun _ => none)), (q8, aB w 2 (f0 0 2)), (q9, aI w 60 (f0 0 60))] : va_W)) ++ seg w a11 86 4)) C 0 (ci := 3) (j := 3) rfl rfl uws3 (by decide) wd_136 rfl dX3_init_75 ?_
  refine r_alen (L := (((((([(h, .inr (3, [.ref (a2 1), .ref (a4 11), .ref (a6 21), .ref q7, .ref q8, .ref q9, .int (iI 0), .ref (a11 86)]))] : va_W) ++ seg w a2 1 10) ++ seg w a4 11 10) ++ seg w a6 21 62) ++ ([(q7, aQ w 2 (fun _ => none)), (q8, aB w 2 (f0 0 2)), (q9, aI w 60 (f0 0 60))] : va_W)) ++ seg w a11 86 4)) C 83 2 rfl rfl dX3_init_78 ?_
  refine r_icmp_ge C 101 dX3_init_79 ⟨by decide, by decide⟩ ⟨by decide, by decide⟩ (by decide) (fun h => absurd h (by decide)) (fun _ => ?_)
  refine r_aload_n C 1 dX3_init_82 rfl ?_
  refine r_get (L := (((((([(h, .inr (3, [.ref (a2 1), .ref (a4 11), .ref (a6 21), .ref q7, .ref q8, .ref q9, .int (iI 0), .ref (a11 86)]))] : va_W) ++ seg w a2 1 10) ++ seg w a4 11 10) ++ seg w a6 21 62) ++ ([(q7, aQ w 2 (fun _ => none)), (q8, aB w 2 (f0 0 2)), (q9, aI w 60 (f0 0 60))] : va_W)) ++ seg w a11 86 4)) C 0 (ci := 3) (j := 3) rfl rfl uws3 (by decide) wd_136 rfl dX3_init_83 ?_
  refine r_iload_n C 0 dX3_init_86 rfl ?_
  refine r_new (L := (((((([(h, .inr (3, [.ref (a2 1), .ref (a4 11), .ref (a6 21), .ref q7, .ref q8, .ref q9, .int (iI 0), .ref (a11 86)]))] : va_W) ++ seg w a2 1 10) ++ seg w a4 11 10) ++ seg w a6 21 62) ++ ([(q7, aQ w 2 (fun _ => none)), (q8, aB w 2 (f0 0 2)), (q9, aI w 60 (f0 0 60))] : va_W)) ++ seg w a11 86 4)) (ci := 0) C tyX0 [.null, .null, .null, .null, .null, .null, .null, .null, .null, .int (iI 0), .int (iI 0), .int (iI 0), .int (iI 0)] rfl uws0 tyX0_ok wd_31 wd_32 wd_14 dfl0 (by decide) dX3_init_87 (fun q12 => ?_)
  refine Wk.eq (ws' := pre ++ ((((((([(h, .inr (3, [.ref (a2 1), .ref (a4 11), .ref (a6 21), .ref q7, .ref q8, .ref q9, .int (iI 0), .ref (a11 86)]))] : va_W) ++ seg w a2 1 10) ++ seg w a4 11 10) ++ seg w a6 21 62) ++ ([(q7, aQ w 2 (fun _ => none)), (q8, aB w 2 (f0 0 2)), (q9, aI w 60 (f0 0 60))] : va_W)) ++ seg w a11 86 4) ++ ([(q12, .inr (0, [.null, .null, .null, .null, .null, .null, .null, .null, .null, .int (iI 0), .int (iI 0), .int (iI 0), .int (iI 0)]))] : va_W))) rfl ?_
  refine r_dup C dX3_init_90 rfl ?_
  refine r_callI C (k_G0 l (pre := pre ++ (((((([(h, .inr (3, [.ref (a2 1), .ref (a4 11), .ref (a6 21), .ref q7, .ref q8, .ref q9, .int (iI 0), .ref (a11 86)]))] : va_W) ++ seg w a2 1 10) ++ seg w a4 11 10) ++ seg w a6 21 62) ++ ([(q7, aQ w 2 (fun _ => none)), (q8, aB w 2 (f0 0 2)), (q9, aI w 60 (f0 0 60))] : va_W)) ++ seg w a11 86 4)) (h := q12) (show IsB 90 by unfold IsB; decide)) (List.append_assoc pre ((((((([(h, .inr (3, [.ref (a2 1), .ref (a4 11), .ref (a6 21), .ref q7, .ref q8, .ref q9, .int (iI 0), .ref (a11 86)]))] : va_W) ++ seg w a2 1 10) ++ seg w a4 11 10) ++ seg w a6 21 62) ++ ([(q7, aQ w 2 (fun _ => none)), (q8, aB w 2 (f0 0 2)), (q9, aI w 60 (f0 0 60))] : va_W)) ++ seg w a11 86 4)) [(q12, .inr (0, [.null, .null, .null, .null, .null, .null, .null, .null, .null, .int (iI 0), .int (iI 0), .int (iI 0), .int (iI 0)]))]).symm wd_35 wd_34 wd_14 wd_33 nd_X0_init rfl (by decide) (Nat.le_of_ble_eq_true rfl) dX3_init_91 ?_
  rintro ws9 ⟨a13, rfl, rfl⟩
  refine Wk.eq (ws' := pre ++ ((((((([(h, .inr (3, [.ref (a2 1), .ref (a4 11), .ref (a6 21), .ref q7, .ref q8, .ref q9, .int (iI 0), .ref (a11 86)]))] : va_W) ++ seg w a2 1 10) ++ seg w a4 11 10) ++ seg w a6 21 62) ++ ([(q7, aQ w 2 (fun _ => none)), (q8, aB w 2 (f0 0 2)), (q9, aI w 60 (f0 0 60))] : va_W)) ++ seg w a11 86 4) ++ seg w a13 90 10)) (List.append_assoc pre ((((((([(h, .inr (3, [.ref (a2 1), .ref (a4 11), .ref (a6 21), .ref q7, .ref q8, .ref q9, .int (iI 0), .ref (a11 86)]))] : va_W) ++ seg w a2 1 10) ++ seg w a4 11 10) ++ seg w a6 21 62) ++ ([(q7, aQ w 2 (fun _ => none)), (q8, aB w 2 (f0 0 2)), (q9, aI w 60 (f0 0 60))] : va_W)) ++ seg w a11 86 4)) (seg w a13 90 10)) ?_
  refine r_astq (L := ((((((([(h, .inr (3, [.ref (a2 1), .ref (a4 11), .ref (a6 21), .ref q7, .ref q8, .ref q9, .int (iI 0), .ref (a11 86)]))] : va_W) ++ seg w a2 1 10) ++ seg w a4 11 10) ++ seg w a6 21 62) ++ ([(q7, aQ w 2 (fun _ => none)), (q8, aB w 2 (f0 0 2)), (q9, aI w 60 (f0 0 60))] : va_W)) ++ seg w a11 86 4) ++ seg w a13 90 10)) C 83 90 rfl rfl (by decide) (by decide) dX3_init_94 ?_
  refine Wk.eq (ws' := pre ++ ((((((([(h, .inr (3, [.ref (a2 1), .ref (a4 11), .ref (a6 21), .ref q7, .ref q8, .ref q9, .int (iI 0), .ref (a11 86)]))] : va_W) ++ seg w a2 1 10) ++ seg w a4 11 10) ++ seg w a6 21 62) ++ ([(q7, aQ w 2 (va_up (fun _ => none) 0 (some (a13 90)))), (q8, aB w 2 (f0 0 2)), (q9, aI w 60 (f0 0 60))] : va_W)) ++ seg w a11 86 4) ++ seg w a13 90 10)) rfl ?_
  refine r_iinc (lv' := [(1, .int (iI 1)), (0, .ref h)]) C 0 dX3_init_95 rfl (by decide) rfl ?_
  refine r_goto C 73 dX3_init_98 (by decide) ?_
  refine r_iload_n C 0 dX3_init_73 rfl ?_
  refine r_aload_n C 1 dX3_init_74 rfl ?_
  refine r_get (L := ((((((([(h, .inr (3, [.ref (a2 1), .ref (a4 11), .ref (a6 21), .ref q7, .ref q8, .ref q9, .int (iI 0), .ref (a11 86)]))] : va_W) ++ seg w a2 1 10) ++ seg w a4 11 10) ++ seg w a6 21 62) ++ ([(q7, aQ w 2 (va_up (fun _ => none) 0 (some (a13 90)))), (q8, aB w 2 (f0 0 2)), (q9, aI w 60 (f0 0 60))] : va_W)) ++ seg w a11 86 4) ++ seg w a13 90 10)) C 0 (ci := 3) (j := 3) rfl rfl uws3 (by decide) wd_136 rfl dX3_init_75 ?_
  refine r_alen (L := ((((((([(h, .inr (3, [.ref (a2 1), .ref (a4 11), .ref (a6 21), .ref q7, .ref q8, .ref q9, .int (iI 0), .ref (a11 86)]))] : va_W) ++ seg w a2 1 10) ++ seg w a4 11 10) ++ seg w a6 21 62) ++ ([(q7, aQ w 2 (va_up (fun _ => none) 0 (some (a13 90)))), (q8, aB w 2 (f0 0 2)), (q9, aI w 60 (f0 0 60))] : va_W)) ++ seg w a11 86 4) ++ seg w a13 90 10)) C 83 2 rfl rfl dX3_init_78 ?_
  refine r_icmp_ge C 101 dX3_init_79 ⟨by decide, by decide⟩ ⟨by decide, by decide⟩ (by decide) (fun h => absurd h (by decide)) (fun _ => ?_)
  refine r_aload_n C 1 dX3_init_82 rfl ?_
  refine r_get (L := ((((((([(h, .inr (3, [.ref (a2 1), .ref (a4 11), .ref (a6 21), .ref q7, .ref q8, .ref q9, .int (iI 0), .ref (a11 86)]))] : va_W) ++ seg w a2 1 10) ++ seg w a4 11 10) ++ seg w a6 21 62) ++ ([(q7, aQ w 2 (va_up (fun _ => none) 0 (some (a13 90)))), (q8, aB w 2 (f0 0 2)), (q9, aI w 60 (f0 0 60))] : va_W)) ++ seg w a11 86 4) ++ seg w a13 90 10)) C 0 (ci := 3) (j := 3) rfl rfl uws3 (by decide) wd_136 rfl dX3_init_83 ?_
  refine r_iload_n C 0 dX3_init_86 rfl ?_
  refine r_new (L := ((((((([(h, .inr (3, [.ref (a2 1), .ref (a4 11), .ref (a6 21), .ref q7, .ref q8, .ref q9, .int (iI 0), .ref (a11 86)]))] : va_W) ++ seg w a2 1 10) ++ seg w a4 11 10) ++ seg w a6 21 62) ++ ([(q7, aQ w 2 (va_up (fun _ => none) 0 (some (a13 90)))), (q8, aB w 2 (f0 0 2)), (q9, aI w 60 (f0 0 60))] : va_W)) ++ seg w a11 86 4) ++ seg w a13 90 10)) (ci := 0) C tyX0 [.null, .null, .null, .null, .null, .null, .null, .null, .null, .int (iI 0), .int (iI 0), .int (iI 0), .int (iI 0)] rfl uws0 tyX0_ok wd_31 wd_32 wd_14 dfl0 (by decide) dX3_init_87 (fun q14 => ?_)
  refine Wk.eq (ws' := pre ++ (((((((([(h, .inr (3, [.ref (a2 1), .ref (a4 11), .ref (a6 21), .ref q7, .ref q8, .ref q9, .int (iI 0), .ref (a11 86)]))] : va_W) ++ seg w a2 1 10) ++ seg w a4 11 10) ++ seg w a6 21 62) ++ ([(q7, aQ w 2 (va_up (fun _ => none) 0 (some (a13 90)))), (q8, aB w 2 (f0 0 2)), (q9, aI w 60 (f0 0 60))] : va_W)) ++ seg w a11 86 4) ++ seg w a13 90 10) ++ ([(q14, .inr (0, [.null, .null, .null, .null, .null, .null, .null, .null, .null, .int (iI 0), .int (iI 0), .int (iI 0), .int (iI 0)]))] : va_W))) rfl ?_
  refine r_dup C dX3_init_90 rfl ?_
  refine r_callI C (k_G0 l (pre := pre ++ ((((((([(h, .inr (3, [.ref (a2 1), .ref (a4 11), .ref (a6 21), .ref q7, .ref q8, .ref q9, .int (iI 0), .ref (a11 86)]))] : va_W) ++ seg w a2 1 10) ++ seg w a4 11 10) ++ seg w a6 21 62) ++ ([(q7, aQ w 2 (va_up (fun _ => none) 0 (some (a13 90)))), (q8, aB w 2 (f0 0 2)), (q9, aI w 60 (f0 0 60))] : va_W)) ++ seg w a11 86 4) ++ seg w a13 90 10)) (h := q14) (show IsB 100 by unfold IsB; decide)) (List.append_assoc pre (((((((([(h, .inr (3, [.ref (a2 1), .ref (a4 11), .ref (a6 21), .ref q7, .ref q8, .ref q9, .int (iI 0), .ref (a11 86)]))] : va_W) ++ seg w a2 1 10) ++ seg w a4 11 10) ++ seg w a6 21 62) ++ ([(q7, aQ w 2 (va_up (fun _ => none) 0 (some (a13 90)))), (q8, aB w 2 (f0 0 2)), (q9, aI w 60 (f0 0 60))] : va_W)) ++ seg w a11 86 4) ++ seg w a13 90 10)) [(q14, .inr (0, [.null, .null, .null, .null, .null, .null, .null, .null, .null, .int (iI 0), .int (iI 0), .int (iI 0), .int (iI 0)]))]).symm wd_35 wd_34 wd_14 wd_33 nd_X0_init rfl (by decide) (Nat.le_of_ble_eq_true rfl) dX3_init_91 ?_
  rintro ws9 ⟨a15, rfl, rfl⟩
  refine Wk.eq (ws' := pre ++ (((((((([(h, .inr (3, [.ref (a2 1), .ref (a4 11), .ref (a6 21), .ref q7, .ref q8, .ref q9, .int (iI 0), .ref (a11 86)]))] : va_W) ++ seg w a2 1 10) ++ seg w a4 11 10) ++ seg w a6 21 62) ++ ([(q7, aQ w 2 (va_up (fun _ => none) 0 (some (a13 90)))), (q8, aB w 2 (f0 0 2)), (q9, aI w 60 (f0 0 60))] : va_W)) ++ seg w a11 86 4) ++ seg w a13 90 10) ++ seg w a15 100 10)) (List.append_assoc pre (((((((([(h, .inr (3, [.ref (a2 1), .ref (a4 11), .ref (a6 21), .ref q7, .ref q8, .ref q9, .int (iI 0), .ref (a11 86)]))] : va_W) ++ seg w a2 1 10) ++ seg w a4 11 10) ++ seg w a6 21 62) ++ ([(q7, aQ w 2 (va_up (fun _ => none) 0 (some (a13 90)))), (q8, aB w 2 (f0 0 2)), (q9, aI w 60 (f0 0 60))] : va_W)) ++ seg w a11 86 4) ++ seg w a13 90 10)) (seg w a15 100 10)) ?_
  refine r_astq (L := (((((((([(h, .inr (3, [.ref (a2 1), .ref (a4 11), .ref (a6 21), .ref q7, .ref q8, .ref q9, .int (iI 0), .ref (a11 86)]))] : va_W) ++ seg w a2 1 10) ++ seg w a4 11 10) ++ seg w a6 21 62) ++ ([(q7, aQ w 2 (va_up (fun _ => none) 0 (some (a13 90)))), (q8, aB w 2 (f0 0 2)), (q9, aI w 60 (f0 0 60))] : va_W)) ++ seg w a11 86 4) ++ seg w a13 90 10) ++ seg w a15 100 10)) C 83 100 rfl rfl (by decide) (by decide) dX3_init_94 ?_
  refine Wk.eq (ws' := pre ++ (((((((([(h, .inr (3, [.ref (a2 1), .ref (a4 11), .ref (a6 21), .ref q7, .ref q8, .ref q9, .int (iI 0), .ref (a11 86)]))] : va_W) ++ seg w a2 1 10) ++ seg w a4 11 10) ++ seg w a6 21 62) ++ ([(q7, aQ w 2 (va_up (va_up (fun _ => none) 0 (some (a13 90))) 1 (some (a15 100)))), (q8, aB w 2 (f0 0 2)), (q9, aI w 60 (f0 0 60))] : va_W)) ++ seg w a11 86 4) ++ seg w a13 90 10) ++ seg w a15 100 10)) rfl ?_
  refine r_iinc (lv' := [(1, .int (iI 2)), (0, .ref h)]) C 0 dX3_init_95 rfl (by decide) rfl ?_
  refine r_goto C 73 dX3_init_98 (by decide) ?_
  refine r_iload_n C 0 dX3_init_73 rfl ?_
  refine r_aload_n C 1 dX3_init_74 rfl ?_
  refine r_get (L := (((((((([(h, .inr (3, [.ref (a2 1), .ref (a4 11), .ref (a6 21), .ref q7, .ref q8, .ref q9, .int (iI 0), .ref (a11 86)]))] : va_W) ++ seg w a2 1 10) ++ seg w a4 11 10) ++ seg w a6 21 62) ++ ([(q7, aQ w 2 (va_up (va_up (fun _ => none) 0 (some (a13 90))) 1 (some (a15 100)))), (q8, aB w 2 (f0 0 2)), (q9, aI w 60 (f0 0 60))] : va_W)) ++ seg w a11 86 4) ++ seg w a13 90 10) ++ seg w a15 100 10)) C 0 (ci := 3) (j := 3) rfl rfl uws3 (by decide) wd_136 rfl dX3_init_75 ?_
  refine r_alen (L := (((((((([(h, .inr (3, [.ref (a2 1), .ref (a4 11), .ref (a6 21), .ref q7, .ref q8, .ref q9, .int (iI 0), .ref (a11 86)]))] : va_W) ++ seg w a2 1 10) ++ seg w a4 11 10) ++ seg w a6 21 62) ++ ([(q7, aQ w 2 (va_up (va_up (fun _ => none) 0 (some (a13 90))) 1 (some (a15 100)))), (q8, aB w 2 (f0 0 2)), (q9, aI w 60 (f0 0 60))] : va_W)) ++ seg w a11 86 4) ++ seg w a13 90 10) ++ seg w a15 100 10)) C 83 2 rfl rfl dX3_init_78 ?_
  refine r_icmp_ge C 101 dX3_init_79 ⟨by decide, by decide⟩ ⟨by decide, by decide⟩ (by decide) (fun _ => ?_) (fun h => absurd h (by decide))
  refine r_vret C (by decide) dX3_init_101 ?_
  have e21 : seg w (fun k => if k = 0 then h else if k < 11 then a2 k else if k < 21 then a4 k else if k < 83 then a6 k else if k = 83 then q7 else if k = 84 then q8 else if k = 85 then q9 else if k < 90 then a11 k else if k < 100 then a13 k else a15 k : Nat → Nat) 21 62 = seg w a6 21 62 := hi_congr (fun k h1 h2 => by show (if k = 0 then _ else _) = _; rw [if_neg (by omega), if_neg (by omega), if_neg (by omega), if_pos h2])
  refine ⟨(fun k => if k = 0 then h else if k < 11 then a2 k else if k < 21 then a4 k else if k < 83 then a6 k else if k = 83 then q7 else if k = 84 then q8 else if k = 85 then q9 else if k < 90 then a11 k else if k < 100 then a13 k else a15 k : Nat → Nat), rfl, ?_⟩
  rw [seg_mp, e21, seg83, seg_bd (show IsB 1 by unfold IsB; decide), seg_bd (show IsB 11 by unfold IsB; decide), seg_bd (show IsB 90 by unfold IsB; decide), seg_bd (show IsB 100 by unfold IsB; decide), seg_bd (show IsB 1 by unfold IsB; decide), seg_bd (show IsB 11 by unfold IsB; decide), seg_bd (show IsB 90 by unfold IsB; decide), seg_bd (show IsB 100 by unfold IsB; decide)]
  rfl
