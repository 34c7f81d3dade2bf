/-! QL 3: the rules over the cells, and calls -/
theorem uws0 : ∀ x ∈ u_ws RX0 TX0 13, x ∈ WG := by decide +kernel
theorem uws1 : ∀ x ∈ u_ws RX1 TX1 3, x ∈ WG := by decide +kernel
theorem uws2 : ∀ x ∈ u_ws RX2 TX2 7, x ∈ WG := by decide +kernel
theorem uws3 : ∀ x ∈ u_ws RX3 TX3 8, x ∈ WG := by decide +kernel
theorem WG_good {x : Cond} (h : x ∈ WG) : GoodIn WG (x :: WG) := by
  intro y hy
  have h2 : y ∈ WG := by
    rcases List.mem_cons.mp hy with rfl | h3
    · exact h
    · exact h3
  exact ⟨h2, good_of_word (List.mem_filter.mp h2).2⟩
theorem kd_ln {k : Nat} : (kd k = 0 → ln k = 13) ∧ (kd k = 1 → ln k = 3) ∧ (kd k = 2 → ln k = 7) ∧ (kd k = 3 → ln k = 8) ∧ (kd k = 4 → ln k = 17) := by
  have h : ∀ k, k < 110 → (kd k = 0 → ln k = 13) ∧ (kd k = 1 → ln k = 3) ∧ (kd k = 2 → ln k = 7) ∧ (kd k = 3 → ln k = 8) ∧ (kd k = 4 → ln k = 17) := by decide +kernel
  refine ⟨fun e => (h k (kd_lt e (by omega))).1 e, fun e => (h k (kd_lt e (by omega))).2.1 e, fun e => (h k (kd_lt e (by omega))).2.2.1 e, fun e => (h k (kd_lt e (by omega))).2.2.2.1 e, fun e => (h k (kd_lt e (by omega))).2.2.2.2 e⟩
theorem HR.D {w : WP} {s : State} {F : FF} (h : OK w s) : va_D (Aw w) (wsW w F) := by
  have hg : ∀ (k : Nat) (q : Nat × va_E), (wsW w F)[k]? = some q → k < nP w ∧ q = (adr w k, cellE w F k) := by
    intro k q hk
    by_cases h2 : k < nP w
    · rw [wsW_get h2] at hk
      exact ⟨h2, (Option.some.inj hk).symm⟩
    · simp [wsW, h2] at hk
  constructor
  · intro i j p q hi hj e
    obtain ⟨h1, rfl⟩ := hg i p hi
    obtain ⟨h2, rfl⟩ := hg j q hj
    exact h.2.1 i j h1 h2 e
  · intro k q hk
    obtain ⟨h1, rfl⟩ := hg k q hk
    exact h.2.2.1 k h1
theorem zr_up {F : FF} {k : Nat} {i z : Int} (h : ∀ (k : Nat) (j : Int), ¬ (0 ≤ j ∧ j < ln k) → F k j = 0) (hi : 0 ≤ i ∧ i < ln k) : ∀ (k' : Nat) (j : Int), ¬ (0 ≤ j ∧ j < ln k') → up F k i z k' j = 0 := by
  intro k' j hj
  unfold up
  split
  · rename_i e
    obtain ⟨rfl, rfl⟩ := e
    exact absurd hi hj
  · exact h k' j hj
section QH
variable {p : Program} {l : Launch} {e : Env} {R : Room} {s : State} {m : MethodId} {args : Array Value} {below : List Frame} {meth : Method} {c : Code} {Qf : State → Prop} {w : WP} {k n nL pc : Nat} {lv lv' : List (Nat × Value)} {st : List Value} {F : FF} {cc : ByteArray} {own : String} {ret : Option FieldType}
theorem q_get (C : Cx p s m args meth c cc own ret nL w) {ci b i idx N : Nat} {T : u_T} {Cn : String} {v : Value} (hk : kd b = ci) (hci : ci < 5) (hc : vwCl[ci]? = some (Cn, T, N)) (hin : ∀ x ∈ u_ws Cn T N, x ∈ WG) (hi : i < N) (hw : Cond.fieldLink own idx (T i).1 (T i).2.1 (T i).2.2.1 ∈ WG) (hv : (fsO w ci b F)[i]? = some v) (d : decode cc pc = .ok (.getfield idx, 3))
    (kk : Wq p l e R s m args below meth c Qf w k n nL (pc + 3) lv (v :: st) F) : Wq p l e R s m args below meth c Qf w k n nL pc lv (.ref (adr w b) :: st) F :=
  fun H locs ls hH hS hl => va_get C.1 C.2.1 C.2.2.2.2.1 hin C.2.2.2.1 C.2.2.2.2.2.2.2.1 hH.1 b (by rw [wsW_get (nP_ge (kd_lt hk (by omega))), cellE_o hk hci]) hc i hi (C.2.2.2.2.1 _ hw) (fun _ h => h) hv d (kk H locs ls hH hS hl)
theorem q_getN (C : Cx p s m args meth c cc own ret nL w) {ci b i idx N : Nat} {T : u_T} {Cn host : String} {v : Value} (hk : kd b = ci) (hci : ci < 5) (hc : vwCl[ci]? = some (Cn, T, N)) (hin : ∀ x ∈ u_ws Cn T N, x ∈ WG) (hi : i < N) (hw : Cond.fieldLinkNest own idx (T i).1 (T i).2.1 (T i).2.2.1 host ∈ NWL) (hv : (fsO w ci b F)[i]? = some v) (d : decode cc pc = .ok (.getfield idx, 3))
    (kk : Wq p l e R s m args below meth c Qf w k n nL (pc + 3) lv (v :: st) F) : Wq p l e R s m args below meth c Qf w k n nL pc lv (.ref (adr w b) :: st) F :=
  fun H locs ls hH hS hl => va_getN C.1 C.2.1 C.2.2.2.2.1 hin C.2.2.2.1 C.2.2.2.2.2.2.2.1 hH.1 b (by rw [wsW_get (nP_ge (kd_lt hk (by omega))), cellE_o hk hci]) hc i hi (va_Nw.use rfl (C.2.2.2.2.2.2.2.2.2.2.1 _ hw)) (fun _ h => h) hv d (kk H locs ls hH hS hl)
theorem q_put (C : Cx p s m args meth c cc own ret nL w) {ci b i idx N : Nat} {T : u_T} {Cn : String} {j z : Int} (hj : j = (i : Int)) {ty : FieldType} {v : Value} {tyX : Nat → FieldType} (hk : kd b = ci) (hci : ci < 5) (hc : vwCl[ci]? = some (Cn, T, N)) (hin : ∀ x ∈ u_ws Cn T N, x ∈ WG) (hty : ∀ k, k < N → parseFieldDescriptor (T k).2.2.1 = some (tyX k)) (hnm : ∀ a, a < N → ∀ b, b < N → a ≠ b → (T a).2.1 ≠ (T b).2.1) (hi : i < N) (hN : ln b = N) (hw : Cond.fieldLink own idx (T i).1 (T i).2.1 (T i).2.2.1 ∈ WG)
    (hfin : (T i).2.2.2 = false) (hd : tyX i = ty) (hn : narrow ty v = v) (hf : fits ty v = true) (hs : (fsO w ci b F).set i v = fsO w ci b (up F b j z)) (hlen : i < (fsO w ci b F).length) (d : decode cc pc = .ok (.putfield idx, 3))
    (kk : Wq p l e R s m args below meth c Qf w k n nL (pc + 3) lv st (up F b j z)) : Wq p l e R s m args below meth c Qf w k n nL pc lv (v :: .ref (adr w b) :: st) F := by
  intro H locs ls hH hS hl
  have h121 := nP_ge (w := w) (kd_lt hk (by omega : ci < 9))
  refine va_put C.1 C.2.1 C.2.2.2.2.1 hin tyX hty hnm C.2.2.2.1 C.2.2.2.2.2.2.2.1 hH.1 (HR.D C.2.2.2.2.2.2.2) hS b (by rw [wsW_get h121, cellE_o hk hci]) hc i hi (C.2.2.2.2.1 _ hw) (fun _ h => h) hfin (by rw [hty i hi, hd]) hn hf hlen d (fun H1 locs1 hP hD hS1 => ?_)
  refine kk H1 locs1 ls ⟨?_, zr_up hH.2 (by rw [hN]; omega)⟩ hS1 hl
  rw [hs, wsW_set h121 (fun j hj => cellE_ne hj) (cellE_o hk hci)] at hP
  exact hP
theorem q_putN (C : Cx p s m args meth c cc own ret nL w) {ci b i idx N : Nat} {T : u_T} {Cn host : String} {j z : Int} (hj : j = (i : Int)) {ty : FieldType} {v : Value} {tyX : Nat → FieldType} (hk : kd b = ci) (hci : ci < 5) (hc : vwCl[ci]? = some (Cn, T, N)) (hin : ∀ x ∈ u_ws Cn T N, x ∈ WG) (hty : ∀ k, k < N → parseFieldDescriptor (T k).2.2.1 = some (tyX k)) (hnm : ∀ a, a < N → ∀ b, b < N → a ≠ b → (T a).2.1 ≠ (T b).2.1) (hi : i < N) (hN : ln b = N) (hw : Cond.fieldLinkNest own idx (T i).1 (T i).2.1 (T i).2.2.1 host ∈ NWL)
    (hfin : (T i).2.2.2 = false) (hd : tyX i = ty) (hn : narrow ty v = v) (hf : fits ty v = true) (hs : (fsO w ci b F).set i v = fsO w ci b (up F b j z)) (hlen : i < (fsO w ci b F).length) (d : decode cc pc = .ok (.putfield idx, 3))
    (kk : Wq p l e R s m args below meth c Qf w k n nL (pc + 3) lv st (up F b j z)) : Wq p l e R s m args below meth c Qf w k n nL pc lv (v :: .ref (adr w b) :: st) F := by
  intro H locs ls hH hS hl
  have h121 := nP_ge (w := w) (kd_lt hk (by omega : ci < 9))
  refine va_putN C.1 C.2.1 C.2.2.2.2.1 hin tyX hty hnm C.2.2.2.1 C.2.2.2.2.2.2.2.1 hH.1 (HR.D C.2.2.2.2.2.2.2) hS b (by rw [wsW_get h121, cellE_o hk hci]) hc i hi (va_Nw.use rfl (C.2.2.2.2.2.2.2.2.2.2.1 _ hw)) (fun _ h => h) hfin (by rw [hty i hi, hd]) hn hf hlen d (fun H1 locs1 hP hD hS1 => ?_)
  refine kk H1 locs1 ls ⟨?_, zr_up hH.2 (by rw [hN]; omega)⟩ hS1 hl
  rw [hs, wsW_set h121 (fun j hj => cellE_ne hj) (cellE_o hk hci)] at hP
  exact hP
theorem q_ix {i : Int} {N : Nat} (h : 0 ≤ i ∧ i < N) : ((iI i).toNatClampNeg : Int) = i ∨ 2147483648 ≤ N := by
  by_cases hN : N < 2147483648
  · left
    rw [iI_clamp ⟨by omega, by omega⟩]
    omega
  · right; omega
theorem q_iald (C : Cx p s m args meth c cc own ret nL w) {b : Nat} {i : Int} (hk : kd b = 5) (hi : 0 ≤ i ∧ i < ln b) (d : decode cc pc = .ok (.iaload, 1)) (kk : Wq p l e R s m args below meth c Qf w k n nL (pc + 1) lv (.int (iI (F b i)) :: st) F) : Wq p l e R s m args below meth c Qf w k n nL pc lv (.int (iI i) :: .ref (adr w b) :: st) F := by
  intro H locs ls hH hS hl
  refine va_iald C.1 C.2.1 C.2.2.2.2.2.2.2.1 hH.1 b 0 (by rw [wsW_get (nP_ge (kd_lt hk (by omega))), cellE_5 hk]) rfl (iI_in hi (ln_lt b)) d ?_
  have h := kk H locs ls hH hS hl
  rw [iI_clamp ⟨by omega, by have := ln_lt b; omega⟩, Int.toNat_of_nonneg hi.1]
  exact h
theorem q_zald (C : Cx p s m args meth c cc own ret nL w) {b : Nat} {i : Int} (hk : kd b = 6) (hi : 0 ≤ i ∧ i < ln b) (d : decode cc pc = .ok (.baload, 1)) (kk : Wq p l e R s m args below meth c Qf w k n nL (pc + 1) lv (.int (iI (F b i)) :: st) F) : Wq p l e R s m args below meth c Qf w k n nL pc lv (.int (iI i) :: .ref (adr w b) :: st) F := by
  intro H locs ls hH hS hl
  refine va_zald C.1 C.2.1 C.2.2.2.2.2.2.2.1 hH.1 b 1 (by rw [wsW_get (nP_ge (kd_lt hk (by omega))), cellE_6 hk]) rfl (iI_in hi (ln_lt b)) d ?_
  have h := kk H locs ls hH hS hl
  rw [iI_clamp ⟨by omega, by have := ln_lt b; omega⟩, Int.toNat_of_nonneg hi.1]
  exact h
theorem q_aldq (C : Cx p s m args meth c cc own ret nL w) {b t : Nat} {i : Int} (hk : kd b = 7) (hi : 0 ≤ i ∧ i < ln b) (ht : gA b i.toNat = some t) (d : decode cc pc = .ok (.aaload, 1)) (kk : Wq p l e R s m args below meth c Qf w k n nL (pc + 1) lv (.ref (adr w t) :: st) F) : Wq p l e R s m args below meth c Qf w k n nL pc lv (.int (iI i) :: .ref (adr w b) :: st) F := by
  intro H locs ls hH hS hl
  refine va_aldq C.1 C.2.1 C.2.2.2.2.2.2.2.1 hH.1 b 2 (by rw [wsW_get (nP_ge (kd_lt hk (by omega))), cellE_7 hk]) rfl (iI_in hi (ln_lt b)) d ?_
  have h := kk H locs ls hH hS hl
  rw [iI_clamp ⟨by omega, by have := ln_lt b; omega⟩, ht]
  exact h
theorem q_alen (C : Cx p s m args meth c cc own ret nL w) {b N : Nat} (hk : 5 ≤ kd b ∧ kd b < 8) (hN : ln b = N) (d : decode cc pc = .ok (.arraylength, 1)) (kk : Wq p l e R s m args below meth c Qf w k n nL (pc + 1) lv (.int (iI (N : Int)) :: st) F) : Wq p l e R s m args below meth c Qf w k n nL pc lv (.ref (adr w b) :: st) F := by
  intro H locs ls hH hS hl
  have h := kk H locs ls hH hS hl
  have h1 : b < nP w := nP_ge (kd_lt rfl (by omega))
  rcases (show kd b = 5 ∨ kd b = 6 ∨ kd b = 7 by omega) with e | e | e
  · exact va_alen C.1 C.2.1 C.2.2.2.2.2.2.2.1 hH.1 b 0 (by rw [wsW_get h1, cellE_5 e]) rfl (by rw [← iI_nat]; show Int32.ofNat (ln b) = _; rw [hN]; rfl) d h
  · exact va_alen C.1 C.2.1 C.2.2.2.2.2.2.2.1 hH.1 b 1 (by rw [wsW_get h1, cellE_6 e]) rfl (by rw [← iI_nat]; show Int32.ofNat (ln b) = _; rw [hN]; rfl) d h
  · exact va_alen C.1 C.2.1 C.2.2.2.2.2.2.2.1 hH.1 b 2 (by rw [wsW_get h1, cellE_7 e]) rfl (by rw [← iI_nat]; show Int32.ofNat (ln b) = _; rw [hN]; rfl) d h
theorem upd_iI {F : FF} {b : Nat} {i z : Int} (h0 : 0 ≤ i) : upd (fun j : Nat => iI (F b (j : Int))) i.toNat (iI z) = fun j : Nat => iI (up F b i z b (j : Int)) := by
  funext j
  unfold upd up
  by_cases hj : j = i.toNat
  · rw [if_pos hj, if_pos ⟨rfl, by omega⟩]
  · rw [if_neg hj, if_neg (by omega)]
theorem q_iast (C : Cx p s m args meth c cc own ret nL w) {b : Nat} {i z : Int} (hk : kd b = 5) (hi : 0 ≤ i ∧ i < ln b) (d : decode cc pc = .ok (.iastore, 1)) (kk : Wq p l e R s m args below meth c Qf w k n nL (pc + 1) lv st (up F b i z)) : Wq p l e R s m args below meth c Qf w k n nL pc lv (.int (iI z) :: .int (iI i) :: .ref (adr w b) :: st) F := by
  intro H locs ls hH hS hl
  have h121 := nP_ge (w := w) (kd_lt hk (by omega : 5 < 9))
  refine va_iast C.1 C.2.1 C.2.2.2.2.2.2.2.1 hH.1 (HR.D C.2.2.2.2.2.2.2) hS b 0 (by rw [wsW_get h121, cellE_5 hk]) rfl (iI_in hi (ln_lt b)) d (fun H1 locs1 hP hD hS1 => ?_)
  refine kk H1 locs1 ls ⟨?_, zr_up hH.2 hi⟩ hS1 hl
  rw [iI_clamp ⟨by omega, by have := ln_lt b; omega⟩, upd_iI hi.1, wsW_set h121 (fun j hj => cellE_ne hj) (cellE_5 hk)] at hP
  exact hP
theorem vp_narz {z : Int} (h : z = 0 ∨ z = 1) : vp_nar .boolean (iI z) = iI z := by rcases h with rfl | rfl <;> decide
theorem q_zast (C : Cx p s m args meth c cc own ret nL w) {b : Nat} {i z : Int} (hk : kd b = 6) (hi : 0 ≤ i ∧ i < ln b) (hz : z = 0 ∨ z = 1) (d : decode cc pc = .ok (.bastore, 1)) (kk : Wq p l e R s m args below meth c Qf w k n nL (pc + 1) lv st (up F b i z)) : Wq p l e R s m args below meth c Qf w k n nL pc lv (.int (iI z) :: .int (iI i) :: .ref (adr w b) :: st) F := by
  intro H locs ls hH hS hl
  have h121 := nP_ge (w := w) (kd_lt hk (by omega : 6 < 9))
  refine va_zast C.1 C.2.1 C.2.2.2.2.2.2.2.1 hH.1 (HR.D C.2.2.2.2.2.2.2) hS b 1 (by rw [wsW_get h121, cellE_6 hk]) rfl (iI_in hi (ln_lt b)) d (fun H1 locs1 hP hD hS1 => ?_)
  refine kk H1 locs1 ls ⟨?_, zr_up hH.2 hi⟩ hS1 hl
  rw [vp_narz hz, iI_clamp ⟨by omega, by have := ln_lt b; omega⟩, upd_iI hi.1, wsW_set h121 (fun j hj => cellE_ne hj) (cellE_6 hk)] at hP
  exact hP
/-! calls -/
def RunQ (p : Program) (l : Launch) (e : Env) (R : Room) (s : State) (m : MethodId) (args : Array Value) (below : List Frame) (meth : Method) (c : Code) (w : WP) (k n nL pc : Nat) (lv : List (Nat × Value)) (st0 rest : List Value) (F : FF) (Qa : State → Outcome → State → Prop) : Prop :=
  ∀ (H : Heap) (locs : List Loc) (ls : Array Slot), HR w F H → va_S (Aw w) s.heap H locs → lv_has ls nL lv → va_Run p l e R s m args below meth c H locs k n 0 0 (F0 m pc ls st0) rest Qa (Aw w)
theorem okU (h : OK w s) {H : Heap} {locs : List Loc} (hS : va_S (Aw w) s.heap H locs) {U : State} (hU : U.heap = H) (hW : s.WarmedH U.vm) : OK w U := OK.warm hW (by rw [hU]; exact hS.1) h
theorem q_runV (C : Cx p s m args meth c cc own ret nL w) {y : MethodName} {cc' : ByteArray} {nA maxL' h idx b ci N : Nat} {ret' : Option FieldType} {As rest st0 : List Value} {T : u_T} {Cn : String} {Qc : Array Value → State → Outcome → State → Prop} (hc : Con l y cc' maxL' ret' h w (.ref (adr w b) :: As) F Qc) (hb : kd b = ci) (hci : ci < 5) (hcl : vwCl[ci]? = some (Cn, T, N))
    (hwc : Cond.code y cc' maxL' ret' ∈ WG) (hwi : Cond.instanceMethod y ∈ WG) (hws : Cond.selects Cn y y ∈ WG) (hw0 : Cond.initialized y.cls ∈ WG) (hlink : Cond.methodLink own idx y ∈ WG) (hd : y.cls ≠ "java/lang/invoke/MethodHandle" ∧ y.cls ≠ "java/lang/invoke/VarHandle" ∧ (parseMethodDescriptor y.desc).map (fun d => d.parameters.length) = some nA) (hlen : As.length = nA) (hr : (decide (h + 1 ≤ R.frames) && decide (8 + (maxL' + 11) + 32 * h ≤ R.locals)) = true)
    (hk : k ≤ R.cells ∧ n ≤ R.slots) (hst : st0 = As.reverse ++ .ref (adr w b) :: rest) (hcat : (rest.map fun v => v.category).sum ≤ 8) (d : decode cc pc = .ok (.invokevirtual idx, 3)) : RunQ p l e R s m args below meth c w k n nL pc lv st0 rest F (Qc (Value.ref (adr w b) :: As).toArray) := by
  intro H locs ls hH hS hl
  have W := C.2.2.2.2.1
  simp only [Bool.and_eq_true, decide_eq_true_eq] at hr
  refine va_runV (Ts := WG) ⟨C.1, C.2.1, C.2.2.1, C.2.2.2.1, W⟩ hc ⟨⟨rfl, rfl, hr.1, hr.2, pay_in W (WG_good hwc), List.mem_cons_self, W _ hwc, W _ hw0, ⟨hd.1, hd.2.1⟩, fun sig h => ?_, W _ hlink⟩, W _ hwi, W _ hws⟩
    ⟨pre_blind, va_recv C.2.2.2.2.2.2.2.1 hH.1 hcl (by rw [wsW_get (nP_ge (kd_lt hb (by omega))), cellE_o hb hci]), fun U hU hW => ⟨rfl, by rw [hU]; exact hH, okU C.2.2.2.2.2.2.2 hS hU hW⟩⟩ rfl hlen hl.1 hst (lv_room hcat) d ⟨hk.1, hk.2⟩
  have h2 := hd.2.2
  rw [h] at h2
  exact (Option.some.inj h2).symm
theorem q_runS (C : Cx p s m args meth c cc own ret nL w) {y : MethodName} {cc' : ByteArray} {nA maxL' h idx : Nat} {ret' : Option FieldType} {As rest st0 : List Value} {Qc : Array Value → State → Outcome → State → Prop} (hc : Con l y cc' maxL' ret' h w As F Qc)
    (hwc : Cond.code y cc' maxL' ret' ∈ WG) (hws : Cond.static y ∈ WG) (hw0 : Cond.initialized y.cls ∈ WG) (hlink : Cond.methodLink own idx y ∈ WG) (hd : y.cls ≠ "java/lang/invoke/MethodHandle" ∧ y.cls ≠ "java/lang/invoke/VarHandle" ∧ (parseMethodDescriptor y.desc).map (fun d => d.parameters.length) = some nA) (hlen : As.length = nA) (hr : (decide (h + 1 ≤ R.frames) && decide (8 + (maxL' + 11) + 32 * h ≤ R.locals)) = true)
    (hk : k ≤ R.cells ∧ n ≤ R.slots) (hst : st0 = As.reverse ++ rest) (hcat : (rest.map fun v => v.category).sum ≤ 8) (d : decode cc pc = .ok (.invokestatic idx, 3)) : RunQ p l e R s m args below meth c w k n nL pc lv st0 rest F (Qc As.toArray) := by
  intro H locs ls hH hS hl
  have W := C.2.2.2.2.1
  simp only [Bool.and_eq_true, decide_eq_true_eq] at hr
  refine va_runS (Ts := WG) ⟨C.1, C.2.1, C.2.2.1, C.2.2.2.1, W⟩ hc ⟨⟨rfl, rfl, hr.1, hr.2, pay_in W (WG_good hwc), List.mem_cons_self, W _ hwc, W _ hw0, ⟨hd.1, hd.2.1⟩, fun sig h => ?_, W _ hlink⟩, W _ hws⟩
    ⟨pre_blind, fun U hU hW => ⟨rfl, by rw [hU]; exact hH, okU C.2.2.2.2.2.2.2 hS hU hW⟩⟩ rfl hlen hl.1 hst (lv_room hcat) d ⟨hk.1, hk.2⟩
  have h2 := hd.2.2
  rw [h] at h2
  exact (Option.some.inj h2).symm
theorem q_runSN (C : Cx p s m args meth c cc own ret nL w) {y : MethodName} {cc' : ByteArray} {nA maxL' h idx : Nat} {host : String} {ret' : Option FieldType} {As rest st0 : List Value} {Qc : Array Value → State → Outcome → State → Prop} (hc : Con l y cc' maxL' ret' h w As F Qc)
    (hwc : Cond.code y cc' maxL' ret' ∈ WG) (hws : Cond.static y ∈ WG) (hw0 : Cond.initialized y.cls ∈ WG) (hlink : Cond.methodLinkNest own idx y host ∈ NWL) (hd : y.cls ≠ "java/lang/invoke/MethodHandle" ∧ y.cls ≠ "java/lang/invoke/VarHandle" ∧ (parseMethodDescriptor y.desc).map (fun d => d.parameters.length) = some nA) (hlen : As.length = nA) (hr : (decide (h + 1 ≤ R.frames) && decide (8 + (maxL' + 11) + 32 * h ≤ R.locals)) = true)
    (hk : k ≤ R.cells ∧ n ≤ R.slots) (hst : st0 = As.reverse ++ rest) (hcat : (rest.map fun v => v.category).sum ≤ 8) (d : decode cc pc = .ok (.invokestatic idx, 3)) : RunQ p l e R s m args below meth c w k n nL pc lv st0 rest F (Qc As.toArray) := by
  intro H locs ls hH hS hl
  have W := C.2.2.2.2.1
  simp only [Bool.and_eq_true, decide_eq_true_eq] at hr
  refine va_runSN (Ts := WG) ⟨C.1, C.2.1, C.2.2.1, C.2.2.2.1, W⟩ hc ⟨⟨⟨rfl, rfl, hr.1, hr.2, pay_in W (WG_good hwc), List.mem_cons_self⟩, W _ hwc, W _ hw0, ⟨hd.1, hd.2.1⟩, fun sig h => ?_, va_Nw.use rfl (C.2.2.2.2.2.2.2.2.2.2.1 _ hlink)⟩, W _ hws, trivial⟩
    ⟨pre_blind, fun U hU hW => ⟨rfl, by rw [hU]; exact hH, okU C.2.2.2.2.2.2.2 hS hU hW⟩⟩ rfl hlen hl.1 hst (lv_room hcat) d ⟨hk.1, hk.2⟩
  have h2 := hd.2.2
  rw [h] at h2
  exact (Option.some.inj h2).symm
theorem q_cI {st0 rest : List Value} {post : Int → FF → Prop} {a : Array Value} (hr : RunQ p l e R s m args below meth c w k n nL pc lv st0 rest F (QI w post a)) (kk : ∀ (z : Int) (F' : FF), post z F' → Wq p l e R s m args below meth c Qf w k n nL (pc + 3) lv (.int (iI z) :: rest) F') : Wq p l e R s m args below meth c Qf w k n nL pc lv st0 F := by
  intro H locs ls hH hS hl
  refine va_calli (hr H locs ls hH hS hl) hS (fun _ _ h => h) (fun _ h => h) (fun r u t H1 locs1 ht hvm hp hB hz1 hk1 hS1 => ?_)
  obtain ⟨z, rfl, hz⟩ := hp
  exact kk z u hz H1 locs1 ls (by rw [← ht]; exact hB) hS1 hl
theorem q_cV {st0 rest : List Value} {post : FF → Prop} {a : Array Value} (hr : RunQ p l e R s m args below meth c w k n nL pc lv st0 rest F (QV w post a)) (kk : ∀ (F' : FF), post F' → Wq p l e R s m args below meth c Qf w k n nL (pc + 3) lv rest F') : Wq p l e R s m args below meth c Qf w k n nL pc lv st0 F := by
  intro H locs ls hH hS hl
  refine va_callv (hr H locs ls hH hS hl) hS (fun _ _ h => h) (fun _ h => h) (fun u t H1 locs1 ht hvm hp hB hz1 hk1 hS1 => ?_)
  exact kk u hp H1 locs1 ls (by rw [← ht]; exact hB) hS1 hl
theorem q_cL {st0 rest : List Value} {post : Int → FF → Prop} {a : Array Value} (hr : RunQ p l e R s m args below meth c w k n nL pc lv st0 rest F (QL w post a)) (kk : ∀ (z : Int) (F' : FF), post z F' → Wq p l e R s m args below meth c Qf w k n nL (pc + 3) lv (.long (iL z) :: rest) F') : Wq p l e R s m args below meth c Qf w k n nL pc lv st0 F := by
  intro H locs ls hH hS hl
  refine va_calll (hr H locs ls hH hS hl) hS (fun _ _ h => h) (fun _ h => h) (fun r u t H1 locs1 ht hvm hp hB hz1 hk1 hS1 => ?_)
  obtain ⟨z, rfl, hz⟩ := hp
  exact kk z u hz H1 locs1 ls (by rw [← ht]; exact hB) hS1 hl
theorem q_cD {st0 rest : List Value} {post : UInt64 → FF → Prop} {a : Array Value} (hr : RunQ p l e R s m args below meth c w k n nL pc lv st0 rest F (QD w post a)) (kk : ∀ (z : UInt64) (F' : FF), post z F' → Wq p l e R s m args below meth c Qf w k n nL (pc + 3) lv (.double z :: rest) F') : Wq p l e R s m args below meth c Qf w k n nL pc lv st0 F := by
  intro H locs ls hH hS hl
  refine va_calld (hr H locs ls hH hS hl) hS (fun _ _ h => h) (fun _ h => h) (fun r u t H1 locs1 ht hvm hp hB hz1 hk1 hS1 => ?_)
  exact kk r u hp H1 locs1 ls (by rw [← ht]; exact hB) hS1 hl
theorem q_cQ {st0 rest : List Value} {post : Option Nat → FF → Prop} {a : Array Value} (hr : RunQ p l e R s m args below meth c w k n nL pc lv st0 rest F (QQ w post a)) (kk : ∀ (z : Option Nat) (F' : FF), post z F' → Wq p l e R s m args below meth c Qf w k n nL (pc + 3) lv (va_rf (z.map (adr w)) :: rest) F') : Wq p l e R s m args below meth c Qf w k n nL pc lv st0 F := by
  intro H locs ls hH hS hl
  refine va_callq (hr H locs ls hH hS hl) hS (fun _ _ h => h) (fun _ h => h) (fun r u t H1 locs1 ht hvm hp hB hz1 hk1 hS1 => ?_)
  obtain ⟨z, rfl, hz⟩ := hp
  exact kk z u hz H1 locs1 ls (by rw [← ht]; exact hB) hS1 hl
end QH
