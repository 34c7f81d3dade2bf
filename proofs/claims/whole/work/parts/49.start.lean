/-! the law's loop, and its start -/
set_option maxRecDepth 100000 in
theorem mp_norm {w : WP} {ad : Nat → Nat} : seg w ad 0 110 = seg w (fun k => if k < 110 then ad k else 0) 0 110 := by
  rw [seg_mp, seg_mp, hi_congr (ad := ad) (ad' := fun k => if k < 110 then ad k else 0) (fun k h1 h2 => (if_pos (by omega)).symm), seg83, seg83, seg_bd (show IsB 1 by unfold IsB; decide), seg_bd (show IsB 11 by unfold IsB; decide), seg_bd (show IsB 90 by unfold IsB; decide), seg_bd (show IsB 100 by unfold IsB; decide), seg_bd (show IsB 1 by unfold IsB; decide), seg_bd (show IsB 11 by unfold IsB; decide), seg_bd (show IsB 90 by unfold IsB; decide), seg_bd (show IsB 100 by unfold IsB; decide)]
  rfl
theorem mp_congr {w : WP} {ad ad' : Nat → Nat} (h : ∀ k, k < 110 → ad k = ad' k) : seg w ad 0 110 = seg w ad' 0 110 := by
  rw [mp_norm (ad := ad), mp_norm (ad := ad')]
  congr 1
  funext k
  by_cases g : k < 110
  · rw [if_pos g, if_pos g, h k g]
  · rw [if_neg g, if_neg g]
theorem seg_wsW {w : WP} {ad : Nat → Nat} : seg w ad 0 121 = wsW (wad w ad) FZ := by
  unfold seg wsW
  apply List.map_congr_left
  intro i _
  rw [Nat.zero_add]; rfl
set_option maxRecDepth 100000 in
theorem seg_all {w : WP} {am ao : Nat → Nat} {q : Nat} : (seg w am 0 110 ++ seg w ao 110 10) ++ [(q, aL w 1 (f0 0 1))] = seg w (fun k => if k < 110 then am k else if k < 120 then ao k else q) 0 121 := by
  rw [show (121 : Nat) = 110 + 10 + 1 from rfl, seg_add, seg_add, mp_congr (ad := am) (ad' := fun k => if k < 110 then am k else if k < 120 then ao k else q) (fun k h => (if_pos h).symm)]
  rfl
theorem NWL_tbl : ∀ x ∈ NWL, x ∈ lw_tbl := by decide +kernel
theorem NWL_ot : ∀ x ∈ NWL, x.onTables = true := by decide +kernel
theorem STL_tbl : ∀ x ∈ STL, x.1 = "MagnetPoems" ∧ Cond.stringRef x.1 x.2.1 x.2.2 ∈ lw_tbl := by decide +kernel
theorem AO_tbl : Cond.arrayOver (.object RX0) ∈ lw_tbl := by decide +kernel
theorem LS_tbl : Cond.laysStatic Bundle.tN "UNASSIGNED_STACK" Bundle.steD ∈ lw_tbl ∧ Cond.laysStatic Bundle.tN "SUPPRESSED_SENTINEL" Bundle.listD ∈ lw_tbl := by decide +kernel
section LOOP
variable {p : Program} {l : Launch} {e : Env} {s : State} {m : MethodId} {below : List Frame} {meth : Method} {c : Code} {w : WP} {b L : Nat} {xs : Nat → Int32}
theorem q_end (hC : LC p l s m meth c b L xs w) {k n : Nat} {lv : List (Nat × Value)} {F : FF} (hk : k ≤ 601024) (hn : n ≤ 7293034) : Wq p l e room_1 s m #[Value.ref b] below meth c (lw_Z below #[Value.ref b] s) w k n 9 1793 lv [.int (iI 1)] F := by
  obtain ⟨C, hl, hX, hbl, hbA, hL, hwb⟩ := hC
  intro H locs ls hH hS hlv
  refine va_forget (fun q hq => ?_) ?_
  · have h := hS.2.2 q hq
    have h2 : w.2.2.2 ≤ q.base := h
    omega
  · exact W.widen hk hn (W.base (lw_ret (Drawn.sameBut.refl s.drawn lw_cs) C.1 C.2.1 C.2.2.2.2.2.1 C.2.2.2.2.2.2.1 dL_law_1793))
set_option maxRecDepth 100000 in
set_option maxHeartbeats 4000000 in
theorem law_loop (hC : LC p l s m meth c b L xs w) : ∀ (k n : Nat) (i : Int) (A : AS) (F : FF), (CI F A ∧ MI F A ∧ (0 ≤ i ∧ i ≤ (L : Int)) ∧ 5 * (k : Int) ≤ 605 + i ∧ 5 * (n : Int) ≤ 23380 + 6 * i) → Wq p l e room_1 s m #[Value.ref b] below meth c (lw_Z below #[Value.ref b] s) w k n 9 23 [(4, .int (iI i)), (3, .ref (adr w 120)), (2, .ref (adr w 110)), (1, .ref (adr w 0)), (0, .ref b)] [] F := by
  obtain ⟨C, hl, hX, hbl, hbA, hL, hwb⟩ := id hC
  refine wf5 (P := fun k n i A F => Wq p l e room_1 s m #[Value.ref b] below meth c (lw_Z below #[Value.ref b] s) w k n 9 23 [(4, .int (iI i)), (3, .ref (adr w 120)), (2, .ref (adr w 110)), (1, .ref (adr w 0)), (0, .ref b)] [] F) (I := fun k n i A F => CI F A ∧ MI F A ∧ (0 ≤ i ∧ i ≤ (L : Int)) ∧ 5 * (k : Int) ≤ 605 + i ∧ 5 * (n : Int) ≤ 23380 + 6 * i) (μ := fun k n i A F => ((L : Int) - i).toNat) ?_
  intro k n i A F hI ih
  obtain ⟨hA, hM, ⟨hi0, hi1⟩, hk, hn⟩ := hI
  refine q_iload C 0 dL_law_23 rfl ?_
  refine q_aload_n C 4 dL_law_25 rfl ?_
  refine q_slen C hX hbl hbA dL_law_26 ?_
  refine q_iconst C 5 dL_law_27 ?_
  refine q_isub C dL_law_28 ?_
  refine q_icmp_gt C 1792 dL_law_29 ⟨by omega, by omega⟩ ⟨by omega, by omega⟩ (by decide) (fun _ => ?_) (fun h29 => ?_)
  · refine q_iconst C 1 dL_law_1792 ?_
    exact q_end hC (by omega) (by omega)
  refine q_aload_n C 4 dL_law_32 rfl ?_
  refine q_iload C 0 dL_law_33 rfl ?_
  refine q_sld C hX hbl hbA ⟨by omega, by omega⟩ dL_law_35 ?_
  refine q_bipush C 31 dL_law_36 (by decide) ?_
  refine q_iand31 C dL_law_38 ?_
  have har := a31_range (sc xs i)
  have hnext : ∀ (B : AS) (G : FF), CI G B → MI G B → Wq p l e room_1 s m #[Value.ref b] below meth c (lw_Z below #[Value.ref b] s) w (k + 1) (n + 6) 9 23 [(4, .int (iI (i + 5))), (3, .ref (adr w 120)), (2, .ref (adr w 110)), (1, .ref (adr w 0)), (0, .ref b)] [] G := fun B G hB hG => ih (k + 1) (n + 6) (i + 5) B G ⟨hB, hG, ⟨by omega, by omega⟩, by omega, by omega⟩ (by omega)
  rcases (show a31 (sc xs i) = 0 ∨ a31 (sc xs i) = 1 ∨ a31 (sc xs i) = 2 ∨ a31 (sc xs i) = 3 ∨ a31 (sc xs i) = 4 ∨ a31 (sc xs i) = 5 ∨ a31 (sc xs i) = 6 ∨ a31 (sc xs i) = 7 ∨ a31 (sc xs i) = 8 ∨ a31 (sc xs i) = 9 ∨ a31 (sc xs i) = 10 ∨ a31 (sc xs i) = 11 ∨ a31 (sc xs i) = 12 ∨ a31 (sc xs i) = 13 ∨ a31 (sc xs i) = 14 ∨ a31 (sc xs i) = 15 ∨ a31 (sc xs i) = 16 ∨ a31 (sc xs i) = 17 ∨ a31 (sc xs i) = 18 ∨ a31 (sc xs i) = 19 ∨ a31 (sc xs i) = 20 ∨ a31 (sc xs i) = 21 ∨ a31 (sc xs i) = 22 ∨ a31 (sc xs i) = 23 ∨ a31 (sc xs i) = 24 ∨ a31 (sc xs i) = 25 ∨ a31 (sc xs i) = 26 ∨ a31 (sc xs i) = 27 ∨ (a31 (sc xs i) < 0 ∨ 27 < a31 (sc xs i)) by omega) with hsw | hsw | hsw | hsw | hsw | hsw | hsw | hsw | hsw | hsw | hsw | hsw | hsw | hsw | hsw | hsw | hsw | hsw | hsw | hsw | hsw | hsw | hsw | hsw | hsw | hsw | hsw | hsw | hsw
  · exact q_tableIn C 164 dL_law_39 ⟨by omega, by omega⟩ (by omega) (by omega) (by rw [hsw]; rfl) (by decide) (law_0 hC ⟨hi0, by omega⟩ (by omega) (by omega) hA hM hnext)
  · exact q_tableIn C 256 dL_law_39 ⟨by omega, by omega⟩ (by omega) (by omega) (by rw [hsw]; rfl) (by decide) (law_1 hC ⟨hi0, by omega⟩ (by omega) (by omega) hA hM hnext)
  · exact q_tableIn C 312 dL_law_39 ⟨by omega, by omega⟩ (by omega) (by omega) (by rw [hsw]; rfl) (by decide) (law_2 hC ⟨hi0, by omega⟩ (by omega) (by omega) hA hM hnext)
  · exact q_tableIn C 392 dL_law_39 ⟨by omega, by omega⟩ (by omega) (by omega) (by rw [hsw]; rfl) (by decide) (law_3 hC ⟨hi0, by omega⟩ (by omega) (by omega) hA hM hnext)
  · exact q_tableIn C 448 dL_law_39 ⟨by omega, by omega⟩ (by omega) (by omega) (by rw [hsw]; rfl) (by decide) (law_4 hC ⟨hi0, by omega⟩ (by omega) (by omega) hA hM hnext)
  · exact q_tableIn C 540 dL_law_39 ⟨by omega, by omega⟩ (by omega) (by omega) (by rw [hsw]; rfl) (by decide) (law_5 hC ⟨hi0, by omega⟩ (by omega) (by omega) hA hM hnext)
  · exact q_tableIn C 608 dL_law_39 ⟨by omega, by omega⟩ (by omega) (by omega) (by rw [hsw]; rfl) (by decide) (law_6 hC ⟨hi0, by omega⟩ (by omega) (by omega) hA hM hnext)
  · exact q_tableIn C 664 dL_law_39 ⟨by omega, by omega⟩ (by omega) (by omega) (by rw [hsw]; rfl) (by decide) (law_7 hC ⟨hi0, by omega⟩ (by omega) (by omega) hA hM hnext)
  · exact q_tableIn C 732 dL_law_39 ⟨by omega, by omega⟩ (by omega) (by omega) (by rw [hsw]; rfl) (by decide) (law_8 hC ⟨hi0, by omega⟩ (by omega) (by omega) hA hM hnext)
  · exact q_tableIn C 788 dL_law_39 ⟨by omega, by omega⟩ (by omega) (by omega) (by rw [hsw]; rfl) (by decide) (law_9 hC ⟨hi0, by omega⟩ (by omega) (by omega) hA hM hnext)
  · exact q_tableIn C 801 dL_law_39 ⟨by omega, by omega⟩ (by omega) (by omega) (by rw [hsw]; rfl) (by decide) (law_10 hC ⟨hi0, by omega⟩ (by omega) (by omega) hA hM hnext)
  · exact q_tableIn C 814 dL_law_39 ⟨by omega, by omega⟩ (by omega) (by omega) (by rw [hsw]; rfl) (by decide) (law_11 hC ⟨hi0, by omega⟩ (by omega) (by omega) hA hM hnext)
  · exact q_tableIn C 870 dL_law_39 ⟨by omega, by omega⟩ (by omega) (by omega) (by rw [hsw]; rfl) (by decide) (law_12 hC ⟨hi0, by omega⟩ (by omega) (by omega) hA hM hnext)
  · exact q_tableIn C 926 dL_law_39 ⟨by omega, by omega⟩ (by omega) (by omega) (by rw [hsw]; rfl) (by decide) (law_13 hC ⟨hi0, by omega⟩ (by omega) (by omega) hA hM hnext)
  · exact q_tableIn C 982 dL_law_39 ⟨by omega, by omega⟩ (by omega) (by omega) (by rw [hsw]; rfl) (by decide) (law_14 hC ⟨hi0, by omega⟩ (by omega) (by omega) hA hM hnext)
  · exact q_tableIn C 1038 dL_law_39 ⟨by omega, by omega⟩ (by omega) (by omega) (by rw [hsw]; rfl) (by decide) (law_15 hC ⟨hi0, by omega⟩ (by omega) (by omega) hA hM hnext)
  · exact q_tableIn C 1082 dL_law_39 ⟨by omega, by omega⟩ (by omega) (by omega) (by rw [hsw]; rfl) (by decide) (law_16 hC ⟨hi0, by omega⟩ (by omega) (by omega) hA hM hnext)
  · exact q_tableIn C 1150 dL_law_39 ⟨by omega, by omega⟩ (by omega) (by omega) (by rw [hsw]; rfl) (by decide) (law_17 hC ⟨hi0, by omega⟩ (by omega) (by omega) hA hM hnext)
  · exact q_tableIn C 1230 dL_law_39 ⟨by omega, by omega⟩ (by omega) (by omega) (by rw [hsw]; rfl) (by decide) (law_18 hC ⟨hi0, by omega⟩ (by omega) (by omega) hA hM hnext)
  · exact q_tableIn C 1310 dL_law_39 ⟨by omega, by omega⟩ (by omega) (by omega) (by rw [hsw]; rfl) (by decide) (law_19 hC ⟨hi0, by omega⟩ (by omega) (by omega) hA hM hnext)
  · exact q_tableIn C 1378 dL_law_39 ⟨by omega, by omega⟩ (by omega) (by omega) (by rw [hsw]; rfl) (by decide) (law_20 hC ⟨hi0, by omega⟩ (by omega) (by omega) hA hM hnext)
  · exact q_tableIn C 1434 dL_law_39 ⟨by omega, by omega⟩ (by omega) (by omega) (by rw [hsw]; rfl) (by decide) (law_21 hC ⟨hi0, by omega⟩ (by omega) (by omega) hA hM hnext)
  · exact q_tableIn C 1490 dL_law_39 ⟨by omega, by omega⟩ (by omega) (by omega) (by rw [hsw]; rfl) (by decide) (law_22 hC ⟨hi0, by omega⟩ (by omega) (by omega) hA hM hnext)
  · exact q_tableIn C 1582 dL_law_39 ⟨by omega, by omega⟩ (by omega) (by omega) (by rw [hsw]; rfl) (by decide) (law_23 hC ⟨hi0, by omega⟩ (by omega) (by omega) hA hM hnext)
  · exact q_tableIn C 1650 dL_law_39 ⟨by omega, by omega⟩ (by omega) (by omega) (by rw [hsw]; rfl) (by decide) (law_24 hC ⟨hi0, by omega⟩ (by omega) (by omega) hA hM hnext)
  · exact q_tableIn C 1663 dL_law_39 ⟨by omega, by omega⟩ (by omega) (by omega) (by rw [hsw]; rfl) (by decide) (law_25 hC ⟨hi0, by omega⟩ (by omega) (by omega) hA hM hnext)
  · exact q_tableIn C 1731 dL_law_39 ⟨by omega, by omega⟩ (by omega) (by omega) (by rw [hsw]; rfl) (by decide) (law_26 hC ⟨hi0, by omega⟩ (by omega) (by omega) hA hM hnext)
  · exact q_tableIn C 1772 dL_law_39 ⟨by omega, by omega⟩ (by omega) (by omega) (by rw [hsw]; rfl) (by decide) (law_27 hC ⟨hi0, by omega⟩ (by omega) (by omega) hA hM hnext)
  · refine q_tableOut C 1786 dL_law_39 ⟨by omega, by omega⟩ hsw (by decide) ?_
    refine q_iinc (lv' := [(4, .int (iI (i + 5))), (3, .ref (adr w 120)), (2, .ref (adr w 110)), (1, .ref (adr w 0)), (0, .ref b)]) C 0 dL_law_1786 rfl (by decide) rfl ?_
    refine q_goto C 23 dL_law_1789 (by decide) ?_
    refine q_widen (k' := k + 1) (n' := n + 6) (by omega) (by omega) ?_
    exact hnext A F hA hM
end LOOP
theorem toQ {p : Program} {l : Launch} {e : Env} {R : Room} {s : State} {m : MethodId} {args : Array Value} {below : List Frame} {meth : Method} {c : Code} {Qf : State → Prop} {w : WP} {k n nL pc : Nat} {lv : List (Nat × Value)} {st : List Value} {ad : Nat → Nat}
    (hO : (∀ i j, i < 121 → j < 121 → ad i = ad j → i = j) → (∀ i, i < 121 → Aw w (ad i)) → OK (wad w ad) s) (kk : OK (wad w ad) s → Wq p l e R s m args below meth c Qf (wad w ad) k n nL pc lv st FZ) : Wk p l e R s m args below meth c Qf w k n nL pc lv st (seg w ad 0 121) := by
  intro H locs ls hH hS hl
  have hD := hH.2
  have hP := hH.1
  rw [seg_wsW] at hD hP
  have g : ∀ i, i < 121 → (wsW (wad w ad) FZ)[i]? = some (ad i, cellE (wad w ad) FZ i) := fun i hi => wsW_get hi
  have h1 : ∀ i j, i < 121 → j < 121 → ad i = ad j → i = j := fun i j hi hj h => hD.1 i j _ _ (g i hi) (g j hj) h
  have h2 : ∀ i, i < 121 → Aw w (ad i) := fun i hi => hD.2 i _ (g i hi)
  exact kk (hO h1 h2) H locs ls ⟨hP, FZ_out⟩ hS hl
set_option maxRecDepth 100000 in
set_option maxHeartbeats 4000000 in
/-- from the law's entry to its loop -/
theorem law_make {p : Program} {l : Launch} {e : Env} {s : State} {m : MethodId} {below : List Frame} {meth : Method} {c : Code} {w : WP} {b L : Nat} {xs : Nat → Int32} (C0 : Ck p s m #[Value.ref b] meth c code "MagnetPoemsLaw" ret 9 w) (hl : l.stackTraces = false) (hX : va_X b L xs s s.heap) (hbl : b < s.heap.size) (hwb : w.2.2.2 = s.heap.size) (hL : L ≤ 2560) (hO : ∀ ad : Nat → Nat, (∀ i j, i < 121 → j < 121 → ad i = ad j → i = j) → (∀ i, i < 121 → Aw w (ad i)) → OK (wad w ad) s) :
    Wk p l e room_1 s m #[Value.ref b] below meth c (lw_Z below #[Value.ref b] s) w 0 0 9 0 [(0, .ref b)] [] [] := by
  refine Wk.eq (ws' := [] ++ ([] : va_W)) rfl ?_
  refine r_new (pre := []) (L := ([] : va_W)) (ci := 3) C0 tyX3 [.null, .null, .null, .null, .null, .null, .int (iI 0), .null] rfl uws3 tyX3_ok wd_89 wd_90 wd_77 dfl3 (by decide) dL_law_0 (fun q1 => ?_)
  refine r_dup C0 dL_law_3 rfl ?_
  refine r_callI C0 (k_G3 l (pre := []) (h := q1)) rfl wd_93 wd_92 wd_77 wd_91 nd_X3_init rfl (by decide) (Nat.le_of_ble_eq_true rfl) dL_law_4 ?_
  rintro ws9 ⟨am, rfl, rfl⟩
  refine r_astore_n (lv' := [(1, .ref (am 0)), (0, .ref b)]) C0 dL_law_7 (by decide) rfl ?_
  refine Wk.eq (ws' := [] ++ seg w am 0 110) rfl ?_
  refine r_new (pre := []) (L := seg w am 0 110) (ci := 4) C0 tyX4 [.null, .null, .int (iI 0), .null, .null, .null, .null, .int (iI 0), .int (iI 0), .int (iI 0), .long (iL 0), .int (iI 0), .null, .null, .null, .int (iI 0), .long (iL 0)] rfl uws4 tyX4_ok wd_859 wd_860 wd_81 dfl4 (by decide) dL_law_8 (fun q2 => ?_)
  refine r_dup C0 dL_law_11 rfl ?_
  refine r_callI C0 (k_G4 l (pre := seg w am 0 110) (h := q2)) rfl wd_863 wd_862 wd_81 wd_861 nd_X4_init rfl (by decide) (Nat.le_of_ble_eq_true rfl) dL_law_12 ?_
  rintro ws9 ⟨ao, rfl, rfl⟩
  refine r_astore_n (lv' := [(2, .ref (ao 110)), (1, .ref (am 0)), (0, .ref b)]) C0 dL_law_15 (by decide) rfl ?_
  refine r_iconst C0 1 dL_law_16 ?_
  refine Wk.eq (ws' := [] ++ (seg w am 0 110 ++ seg w ao 110 10)) rfl ?_
  refine r_newl (pre := []) (L := seg w am 0 110 ++ seg w ao 110 10) C0 1 (by decide) dL_law_17 (fun q3 => ?_)
  refine r_astore_n (lv' := [(3, .ref q3), (2, .ref (ao 110)), (1, .ref (am 0)), (0, .ref b)]) C0 dL_law_19 (by decide) rfl ?_
  refine Wk.eq (ws' := seg w (fun k => if k < 110 then am k else if k < 120 then ao k else q3) 0 121) (seg_all (w := w) (am := am) (ao := ao) (q := q3)) ?_
  refine toQ (hO _) (fun hOK => ?_)
  have C : Cx p s m #[Value.ref b] meth c code "MagnetPoemsLaw" ret 9 (wad w (fun k => if k < 110 then am k else if k < 120 then ao k else q3)) := ⟨C0.1, C0.2.1, C0.2.2.1, C0.2.2.2.1, C0.2.2.2.2.1, C0.2.2.2.2.2.1, C0.2.2.2.2.2.2.1, hOK⟩
  have hC : LC p l s m meth c b L xs (wad w (fun k => if k < 110 then am k else if k < 120 then ao k else q3)) := ⟨C, hl, hX, hbl, fun h => by have h2 : w.2.2.2 ≤ b := h; omega, hL, hwb⟩
  refine q_iconst C 0 dL_law_20 ?_
  refine q_istore (lv' := [(4, .int (iI 0)), (3, .ref q3), (2, .ref (ao 110)), (1, .ref (am 0)), (0, .ref b)]) C dL_law_21 (by decide) rfl ?_
  exact law_loop hC _ _ 0 AZ FZ ⟨CI_Z, MI_Z, ⟨by decide, by omega⟩, by decide, by decide⟩
set_option maxRecDepth 100000 in
set_option maxHeartbeats 4000000 in
/-- the law, from its entry -/
theorem whole_start {p : Program} {e : Env} {s : State} {m : MethodId} {below : List Frame} {meth : Method} {c : Code} (l : Launch) (hflags : l.flags = flags0) {b L : Nat} {xs : Nat → Int32} (hL : L ≤ 2560) (C0 : lw_At p s m meth c b L xs) : W p l e room_1 s m #[Value.ref b] below meth c s.heap [] 0 0 (lw_Z below #[Value.ref b] s) (entryFrame m ([Value.ref b] : List Value).toArray 9) := by
  obtain ⟨hx, hb, hr, hml, hown, hts, hX, hbl, hlocks, hgv⟩ := id C0
  have hlt : l.stackTraces = false := by unfold Launch.stackTraces; rw [hflags]; decide
  have hG : ∀ x ∈ WG, x.before #[Value.ref b] s = true := fun x hx => hts x (List.mem_filter.mp hx).1
  have hnr := flat_of_before _ hgv
  obtain ⟨c0, i0, hK0⟩ := u_known (C := RX0) (T := TX0) (N := 13) (n := 13) hG uws0 (hG _ wd_98)
  obtain ⟨c1, i1, hK1⟩ := u_known (C := RX1) (T := TX1) (N := 3) (n := 3) hG uws1 (hG _ wd_155)
  obtain ⟨c2, i2, hK2⟩ := u_known (C := RX2) (T := TX2) (N := 7) (n := 7) hG uws2 (hG _ wd_175)
  obtain ⟨c3, i3, hK3⟩ := u_known (C := RX3) (T := TX3) (N := 8) (n := 8) hG uws3 (hG _ wd_90)
  obtain ⟨c4, i4, hK4⟩ := u_known (C := RX4) (T := TX4) (N := 17) (n := 17) hG uws4 (hG _ wd_860)
  obtain ⟨dC, dI, hKc⟩ : ∃ (dC : Nat → ClassId) (dI : Nat → Nat → Nat), ∀ (k : Nat) (q : vw_C), vwCl[k]? = some q → u_Kn s q.1 q.2.1 q.2.2 (dC k) (dI k) := by
    refine ⟨fun k => if k = 0 then c0 else if k = 1 then c1 else if k = 2 then c2 else if k = 3 then c3 else c4, fun k => if k = 0 then i0 else if k = 1 then i1 else if k = 2 then i2 else if k = 3 then i3 else i4, ?_⟩
    intro k q hq
    match k, hq with
    | 0, hq => cases hq; exact hK0
    | 1, hq => cases hq; exact hK1
    | 2, hq => cases hq; exact hK2
    | 3, hq => cases hq; exact hK3
    | 4, hq => cases hq; exact hK4
    | k + 5, hq => simp at hq
  have prim : ∀ ty : FieldType, (Cond.arrayClass ty).before #[Value.ref b] s = true → ∃ cA, s.vm.findClass ("[" ++ ty.toString) = some cA ∧ ArrOfT s cA ty := by
    intro ty h
    obtain ⟨cA, kA, comp, h1, h2, h3⟩ := Cond.arrayClass_spec h
    exact ⟨cA, h1, fun n z => ⟨(fun k h => by cases h), kA, h2, comp, h3⟩⟩
  obtain ⟨cI, nI1, aI1⟩ := prim .int (hG _ wd_153)
  obtain ⟨cB, nB1, aB1⟩ := prim .boolean (hG _ wd_203)
  obtain ⟨cL, nL1, aL1⟩ := prim .long (hG _ wd_1288)
  obtain ⟨comp, cQ, kQ, f1, f2, f3, f4, f5⟩ := Cond.arrayOver_spec (hts _ AO_tbl)
  have hAO : va_AO RX0 s := va_AO.of (hts _ AO_tbl)
  have hK : ∀ ad : Nat → Nat, va_K (dC, dI) vwCl (tysW ((dC, dI), (cI, cB, cQ, cL), ad, s.heap.size)) s := by
    intro ad
    refine ⟨hKc, fun k q hq => ?_⟩
    match k, hq with
    | 0, hq => cases hq; exact ⟨aI1, nI1⟩
    | 1, hq => cases hq; exact ⟨aB1, nB1⟩
    | 2, hq => cases hq; exact ⟨fun n z => ⟨(fun k h => by cases h), kQ, f3, comp, f4⟩, kQ, comp, f3, f4, f1, f5⟩
    | 3, hq => cases hq; exact ⟨aL1, nL1⟩
    | k + 4, hq => simp [tysW] at hq
  have hNW : ∀ x ∈ NWL, va_Nw x s := fun x hx => va_Nw.of (NWL_ot x hx) (hts x (NWL_tbl x hx))
  have hAs : ∀ a : Nat, a < s.heap.size → ¬ s.heap.size ≤ a := fun a h => Nat.not_le.mpr h
  have hO : ∀ ad : Nat → Nat, (∀ i j, i < 121 → j < 121 → ad i = ad j → i = j) → (∀ i, i < 121 → s.heap.size ≤ ad i) → OK ((dC, dI), (cI, cB, cQ, cL), ad, s.heap.size) s := by
    intro ad h1 h2
    refine ⟨hK ad, h1, h2, hNW, fun x hx => ?_, fun x hx y hy n => ?_, vx_Zqof (hts _ LS_tbl.1) (hG _ wd_82) (hnr _ (by decide +kernel)) hAs, vx_Zqof (hts _ LS_tbl.2) (hG _ wd_82) (hnr _ (by decide +kernel)) hAs⟩
    · obtain ⟨g1, g2⟩ := STL_tbl x hx
      have g3 := hts _ g2
      have hcur : s.vm.findClass x.1 = some (dC 3) := by rw [g1]; exact (hKc 3 _ rfl).2.1
      obtain ⟨_, _, _, a, _, _, _, _, _, hev⟩ := Cond.stringRef_spec hcur g3
      exact ⟨a, vk_R.of g3 hev⟩
    · unfold ECL at hx hy
      simp only [List.mem_cons, List.not_mem_nil, or_false] at hx hy
      rcases hx with rfl | rfl | rfl <;> rcases hy with rfl | rfl | rfl <;> first | exact absurd rfl n | exact va_Nc.of (hnr _ (by decide +kernel))
  have hl := lv_entry ([.ref b]) (n := 9) (Nat.le_of_ble_eq_true rfl)
  rw [lg_entry_eq]
  generalize (lg_sl ([.ref b]) ++ List.replicate (9 - (lg_sl ([.ref b])).length) Slot.unset).toArray = ls at hl ⊢
  have hl : lv_has ls 9 [(0, .ref b)] := hl
  have Ck0 : Ck p s m #[Value.ref b] meth c code "MagnetPoemsLaw" ret 9 ((dC, dI), (cI, cB, cQ, cL), (fun _ => 0), s.heap.size) := ⟨hx, hb, hml, hown, hG, hr, hlocks, hK _, hAO, hNW, Nat.le_refl _⟩
  exact law_make Ck0 hlt hX hbl rfl hL (fun ad h1 h2 => hO ad h1 h2) s.heap [] ls ⟨fun k q h => by simp at h, ⟨fun i j p q h => by simp at h, fun k q h => by simp at h⟩⟩ va_S.rf hl
