/-! the script's ints, the law's loop, and its start -/
def sc (xs : Nat → Int32) (x : Int) : Int := (xs x.toNat).toInt
theorem ssc_eq (xs : Nat → Int32) (x : Int) : xs x.toNat = iI (sc xs x) := (Int32.ofInt_toInt _).symm
def xrI (x y : Int) : Int := (iI x ^^^ iI y).toInt
theorem xrI_e (x y : Int) : iI x ^^^ iI y = iI (xrI x y) := (Int32.ofInt_toInt _).symm
/-- the contract of a method that reads the script, too -/
def ConS (l : Launch) (y : MethodName) (cc : ByteArray) (maxL : Nat) (ret : Option FieldType) (h : Nat) (w : WP) (b L : Nat) (xs : Nat → Int32) (av : List Value) (F : FF) (Qc : Array Value → State → Outcome → State → Prop) : Prop :=
  Met l y (.code y cc maxL ret :: WG) (rmh h) (va_Pc av (fun U => (HR w F U.heap ∧ OK w U) ∧ va_X b L xs U U.heap ∧ b < U.heap.size)) Qc 0 0 (Aw w)
theorem preS_blind {w : WP} {b L : Nat} {xs : Nat → Int32} {av : List Value} {F : FF} : FrameBlind (va_Pc av (fun U => (HR w F U.heap ∧ OK w U) ∧ va_X b L xs U U.heap ∧ b < U.heap.size)) := by
  intro a U g mk q
  obtain ⟨h1, ⟨h2, h3⟩, h4, h5⟩ := q
  exact ⟨h1, ⟨h2, OK.warm (s := U) (U := U.calling g mk a) (State.WarmedH.refl U) (Nat.le_refl _) h3⟩, va_X.moved (u := U) (U := U.calling g mk a) (Vm.Alike.refl U.vm) h4, h5⟩
section QS
variable {p : Program} {l : Launch} {e : Env} {R : Room} {s : State} {m : MethodId} {args : Array Value} {below : List Frame} {meth : Method} {c : Code} {Qf : State → Prop} {w : WP} {k n nL pc : Nat} {lv : List (Nat × Value)} {st : List Value} {F : FF} {cc : ByteArray} {own : String} {ret : Option FieldType} {b L : Nat} {xs : Nat → Int32}
theorem q_sld (C : Cx p s m args meth c cc own ret nL w) (hX : va_X b L xs s s.heap) (hbl : b < s.heap.size) (hbA : ¬ Aw w b) {x : Int} (hx : 0 ≤ x ∧ x < (L : Int)) (d : decode cc pc = .ok (.iaload, 1)) (kk : Wq p l e R s m args below meth c Qf w k n nL (pc + 1) lv (.int (iI (sc xs x)) :: st) F) (hL : L ≤ 260 := by assumption) : Wq p l e R s m args below meth c Qf w k n nL pc lv (.int (iI x) :: .ref b :: st) F := by
  intro H locs ls hH hS hl
  refine va_sld C.1 C.2.1 hX hbl hbA hS (iI_in hx (by omega)) d ?_
  rw [iI_clamp ⟨by omega, by omega⟩, ssc_eq xs x]
  exact kk H locs ls hH hS hl
theorem q_slen (C : Cx p s m args meth c cc own ret nL w) (hX : va_X b L xs s s.heap) (hbl : b < s.heap.size) (hbA : ¬ Aw w b) (d : decode cc pc = .ok (.arraylength, 1)) (kk : Wq p l e R s m args below meth c Qf w k n nL (pc + 1) lv (.int (iI (L : Int)) :: st) F) : Wq p l e R s m args below meth c Qf w k n nL pc lv (.ref b :: st) F := by
  intro H locs ls hH hS hl
  refine va_slen C.1 C.2.1 hX hbl hbA hS d ?_
  rw [show Int32.ofNat L = iI (L : Int) from iI_nat L]
  exact kk H locs ls hH hS hl
theorem q_cC (C : Cx p s m args meth c cc own ret nL w) (hX : va_X b L xs s s.heap) (hbl : b < s.heap.size) (hbA : ¬ Aw w b) {y : MethodName} {cc' : ByteArray} {nA maxL' h idx : Nat} {ret' : Option FieldType} {As rest st0 : List Value} (hc : ConS l y cc' maxL' ret' h w b L xs As F (QI w (fun z F' => F = F')))
    (hwc : Cond.code y cc' maxL' ret' ∈ WG) (hws : Cond.static y ∈ WG) (hw0 : Cond.initialized y.cls ∈ WG) (hlink : Cond.methodLink own idx y ∈ WG) (hd : y.cls ≠ "java/lang/invoke/MethodHandle" ∧ y.cls ≠ "java/lang/invoke/VarHandle" ∧ (parseMethodDescriptor y.desc).map (fun d => d.parameters.length) = some nA) (hlen : As.length = nA) (hr : (decide (h + 1 ≤ R.frames) && decide (8 + (maxL' + 11) + 32 * h ≤ R.locals)) = true)
    (hk : k ≤ R.cells ∧ n ≤ R.slots) (hst : st0 = As.reverse ++ rest) (hcat : (rest.map fun v => v.category).sum ≤ 8) (d : decode cc pc = .ok (.invokestatic idx, 3)) (kk : ∀ z : Int, Wq p l e R s m args below meth c Qf w k n nL (pc + 3) lv (.int (iI z) :: rest) F) : Wq p l e R s m args below meth c Qf w k n nL pc lv st0 F := by
  intro H locs ls hH hS hl
  have W := C.2.2.2.2.1
  simp only [Bool.and_eq_true, decide_eq_true_eq] at hr
  refine va_calli (va_runS (Ts := WG) ⟨C.1, C.2.1, C.2.2.1, C.2.2.2.1, W⟩ hc ⟨⟨rfl, rfl, hr.1, hr.2, pay_in W (WG_good hwc), List.mem_cons_self, W _ hwc, W _ hw0, ⟨hd.1, hd.2.1⟩, fun sig h => ?_, W _ hlink⟩, W _ hws⟩
    ⟨preS_blind, fun U hU hW => ⟨rfl, ⟨by rw [hU]; exact hH, okU C.2.2.2.2.2.2.2 hS hU hW⟩, by rw [hU]; exact (hX.kept (hS.2.1 b hbl hbA)).moved hW.alike, by rw [hU]; exact Nat.lt_of_lt_of_le hbl hS.1⟩⟩ rfl hlen hl.1 hst (lv_room hcat) d ⟨hk.1, hk.2⟩) hS (fun _ _ h => h) (fun _ h => h) (fun r u t H1 locs1 ht hvm hp hB hz1 hk1 hS1 => ?_)
  · have h2 := hd.2.2
    rw [h] at h2
    exact (Option.some.inj h2).symm
  · obtain ⟨z, rfl, hz⟩ := hp
    subst hz
    exact kk z H1 locs1 ls (by rw [← ht]; exact hB) hS1 hl
end QS
set_option maxRecDepth 100000 in
set_option maxHeartbeats 4000000 in
theorem k_L_cell (l : Launch) {w : WP} {F : FF} {b L : Nat} {xs : Nat → Int32} {x : Int} (hL : L ≤ 260) (hbA : ¬ Aw w b) (hx : 0 ≤ x ∧ x < 1000) : ConS l yL_cell cL_cell 2 (some .int) 0 w b L xs [.ref b, .int (iI x)] F (QI w (fun z F' => F = F')) := by
  refine Met.ofW (cc := cL_cell) (maxL := 2) (ret := some .int) (by decide) rfl ?_
  intro p e s m args below meth c s₁ B hml hv
  obtain ⟨rfl, ⟨hH, hOK⟩, hX, hbl⟩ := hv
  have hts := atoms_spec (ws := Cond.code yL_cell cL_cell 2 (some .int) :: WG) B.pre
  have C : Cx p s m ([.ref b, .int (iI x)] : List Value).toArray meth c cL_cell yL_cell.cls (some .int) 2 w := ⟨B.exec, B.bytes, hml, findClass_of_methodNamed B.named, fun x hx => hts x (List.mem_cons_of_mem _ hx), B.returns, B.notSynchronized, hOK⟩
  have hl := lv_entry ([.ref b, .int (iI x)]) (n := 2) (Nat.le_of_ble_eq_true rfl)
  rw [lg_entry_eq]
  have K : Wq p l e (rmh 0) s m ([.ref b, .int (iI x)] : List Value).toArray below meth c (MQ below (QI w (fun z F' => F = F')) ([.ref b, .int (iI x)] : List Value).toArray s 0 0 (Aw w)) w 0 0 2 0 [(0, .ref b), (1, .int (iI x))] [] F := by
    refine q_iload_n C 1 dL_cell_0 rfl ?_
    refine q_aload_n C 0 dL_cell_1 rfl ?_
    refine q_slen C hX hbl hbA dL_cell_2 ?_
    refine q_icmp_ge C 12 dL_cell_3 ⟨by omega, by omega⟩ ⟨by omega, by omega⟩ (by decide) (fun h3 => ?_) (fun h3 => ?_)
    · refine q_ldc C 1028614811 rfl wd_160 dL_cell_12 ?_
      refine q_iload_n C 1 dL_cell_14 rfl ?_
      refine q_iconst C 1 dL_cell_15 ?_
      refine q_iadd C dL_cell_16 ?_
      refine q_imul C dL_cell_17 ?_
      refine q_iret C dL_cell_18 ?_
      exact rfl
    · refine q_aload_n C 0 dL_cell_6 rfl ?_
      refine q_iload_n C 1 dL_cell_7 rfl ?_
      refine q_sld C hX hbl hbA ⟨by omega, by omega⟩ dL_cell_8 ?_
      refine q_goto C 18 dL_cell_9 (by decide) ?_
      refine q_iret C dL_cell_18 ?_
      exact rfl
  exact K s.heap [] _ hH va_S.rf hl
theorem NWL_tbl : ∀ x ∈ NWL, x ∈ lw_tbl := by decide +kernel
theorem NWL_ot : ∀ x ∈ NWL, x.onTables = true := by decide +kernel
theorem AO_tbl : Cond.arrayOver (.object RX0) ∈ lw_tbl := by decide +kernel
section LOOP
variable {pg : Program} {l : Launch} {ev : Env} {s0 : State} {mi : MethodId} {be : List Frame} {me : Method} {co : Code} {w : WP} {b L : Nat} {xs : Nat → Int32}
theorem q_end (C : Cx pg s0 mi #[Value.ref b] me co code "MagnetPoemsLaw" ret 11 w) (hwb : w.2.2.2.1 = s0.heap.size) {k n : Nat} {lv : List (Nat × Value)} {F : FF} (hk : k ≤ 600104) (hn : n ≤ 7301314) : Wq pg l ev room_1 s0 mi #[Value.ref b] be me co (lw_Z be #[Value.ref b] s0) w k n 11 245 lv [.int (iI 1)] F := by
  intro H locs ls hH hS hlv
  refine va_forget (fun q hq => ?_) ?_
  · have h := hS.2.2 q hq
    have h2 : w.2.2.2.1 ≤ q.base := h
    omega
  · exact W.widen hk hn (W.base (lw_ret (Drawn.sameBut.refl s0.drawn lw_cs) C.1 C.2.1 C.2.2.2.2.2.1 C.2.2.2.2.2.2.1 dL_law_245))
set_option maxRecDepth 100000 in
set_option maxHeartbeats 4000000 in
theorem law_loop (C : Cx pg s0 mi #[Value.ref b] me co code "MagnetPoemsLaw" ret 11 w) (hX : va_X b L xs s0 s0.heap) (hbl : b < s0.heap.size) (hbA : ¬ Aw w b) (hL : L ≤ 260) (hwb : w.2.2.2.1 = s0.heap.size) (hP : nP w = 114) (hL0 : LwP w 110 40) (hL1 : LwP w 111 16) (hL3 : LwP w 113 14) (hL2 : LwP w 112 40) : ∀ (k n : Nat) (t : Int) (A : AS) (F : FF), (CI F A ∧ TA F 110 111 113 112 A.r ∧ (0 ≤ t ∧ t ≤ 40) ∧ A.r 179 ≤ 20 * t ∧ (k : Int) ≤ 200 + 6 * t ∧ (n : Int) ≤ 4000 + 166 * t) → Wq pg l ev room_1 s0 mi #[Value.ref b] be me co (lw_Z be #[Value.ref b] s0) w k n 11 101 [(1, .ref (adr w 0)), (2, .ref (adr w 110)), (3, .ref (adr w 111)), (5, .ref (adr w 113)), (4, .ref (adr w 112)), (7, .int (iI t)), (6, .int (iI 1)), (0, .ref b)] [] F := by
  refine wf5 (P := fun k n t A F => Wq pg l ev room_1 s0 mi #[Value.ref b] be me co (lw_Z be #[Value.ref b] s0) w k n 11 101 [(1, .ref (adr w 0)), (2, .ref (adr w 110)), (3, .ref (adr w 111)), (5, .ref (adr w 113)), (4, .ref (adr w 112)), (7, .int (iI t)), (6, .int (iI 1)), (0, .ref b)] [] F) (I := fun k n t A F => CI F A ∧ TA F 110 111 113 112 A.r ∧ (0 ≤ t ∧ t ≤ 40) ∧ A.r 179 ≤ 20 * t ∧ (k : Int) ≤ 200 + 6 * t ∧ (n : Int) ≤ 4000 + 166 * t) (μ := fun k n t A F => (40 - t).toNat) ?_
  intro k n t A F hI ih
  obtain ⟨hA, hTA, ⟨ht0, ht1⟩, hb9, hk9, hn9⟩ := hI
  have hkn : k ≤ room_1.cells ∧ n ≤ room_1.slots := ⟨by show k ≤ 600104; omega, by show n ≤ 7301314; omega⟩
  have hkn6 : k + 6 ≤ room_1.cells ∧ n + 166 ≤ room_1.slots := ⟨by show k + 6 ≤ 600104; omega, by show n + 166 ≤ 7301314; omega⟩
  refine q_iload C 5 dL_law_101 rfl ?_
  refine q_bipush C 40 dL_law_103 (by decide) ?_
  refine q_icmp_ge C 243 dL_law_105 ⟨by omega, by omega⟩ ⟨by decide, by decide⟩ (by decide) (fun h105 => ?_) (fun h105 => ?_)
  · refine q_iload C 6 dL_law_243 rfl ?_
    exact q_end C hwb (by omega) (by omega)
  · refine q_iload C 6 dL_law_108 rfl ?_
    refine q_if_eq C 243 dL_law_110 ⟨by decide, by decide⟩  (by decide) (fun h => absurd h (by decide)) (fun _ => ?_)
    refine q_aload_n C 7 dL_law_113 rfl ?_
    refine q_iconst C 2 dL_law_114 ?_
    refine q_iload C 5 dL_law_115 rfl ?_
    refine q_imul C dL_law_117 ?_
    refine q_cC (As := [.ref b, .int (iI (2 * t))]) (rest := []) C hX hbl hbA (k_L_cell (F := F) (x := 2 * t) l hL hbA ⟨by omega, by omega⟩) wd_159 wd_158 wd_12 wd_157 nd_L_cell rfl (by decide) hkn rfl (Nat.le_of_ble_eq_true rfl) dL_law_118 (fun xv => ?_)
    refine q_istore (lv' := [(8, .int (iI xv)), (1, .ref (adr w 0)), (2, .ref (adr w 110)), (3, .ref (adr w 111)), (5, .ref (adr w 113)), (4, .ref (adr w 112)), (7, .int (iI t)), (6, .int (iI 1)), (0, .ref b)]) C dL_law_121 (by decide) rfl ?_
    refine q_aload_n C 8 dL_law_123 rfl ?_
    refine q_iconst C 2 dL_law_124 ?_
    refine q_iload C 6 dL_law_125 rfl ?_
    refine q_imul C dL_law_127 ?_
    refine q_iconst C 1 dL_law_128 ?_
    refine q_iadd C dL_law_129 ?_
    refine q_cC (As := [.ref b, .int (iI ((2 * t) + 1))]) (rest := []) C hX hbl hbA (k_L_cell (F := F) (x := (2 * t) + 1) l hL hbA ⟨by omega, by omega⟩) wd_159 wd_158 wd_12 wd_157 nd_L_cell rfl (by decide) hkn rfl (Nat.le_of_ble_eq_true rfl) dL_law_130 (fun yv => ?_)
    refine q_istore (lv' := [(9, .int (iI yv)), (8, .int (iI xv)), (1, .ref (adr w 0)), (2, .ref (adr w 110)), (3, .ref (adr w 111)), (5, .ref (adr w 113)), (4, .ref (adr w 112)), (7, .int (iI t)), (6, .int (iI 1)), (0, .ref b)]) C dL_law_133 (by decide) rfl ?_
    refine q_iload C 7 dL_law_135 rfl ?_
    refine q_bipush C 14 dL_law_137 (by decide) ?_
    refine q_icmp_ge C 146 dL_law_139 ⟨by omega, by omega⟩ ⟨by decide, by decide⟩ (by decide) (fun h139 => ?_) (fun h139 => ?_)
    · refine q_iload C 7 dL_law_146 rfl ?_
      refine q_bipush C 17 dL_law_148 (by decide) ?_
      refine q_icmp_ge C 158 dL_law_150 ⟨by omega, by omega⟩ ⟨by decide, by decide⟩ (by decide) (fun h150 => ?_) (fun h150 => ?_)
      · refine q_iload C 1 dL_law_158 rfl ?_
        refine q_bipush C 18 dL_law_160 (by decide) ?_
        refine q_ishr C (srI xv 18) (srI_e _ _) dL_law_162 ?_
        refine q_bipush C 16 dL_law_163 (by decide) ?_
        refine q_cI (q_runS (As := [.int (iI (srI xv 18)), .int (iI 16)]) (rest := []) C (k_L_low (F := F) l (x := srI xv 18) (n := 16) ⟨by decide, by decide⟩) wd_163 wd_162 wd_12 wd_161 nd_L_low rfl (by decide) hkn rfl (Nat.le_of_ble_eq_true rfl) dL_law_165) ?_
        rintro z F' ⟨rfl, rfl⟩
        have qlo165 := lo_range (srI xv 18) 16 (by omega)
        refine q_istore (lv' := [(10, .int (iI (lo (srI xv 18) 16))), (9, .int (iI yv)), (8, .int (iI xv)), (1, .ref (adr w 0)), (2, .ref (adr w 110)), (3, .ref (adr w 111)), (5, .ref (adr w 113)), (4, .ref (adr w 112)), (7, .int (iI t)), (6, .int (iI 1)), (0, .ref b)]) C dL_law_168 (by decide) rfl ?_
        refine q_aload_n C 3 dL_law_170 rfl ?_
        refine q_aload_n C 4 dL_law_171 rfl ?_
        refine q_aload_n C 5 dL_law_172 rfl ?_
        refine q_aload C 6 dL_law_173 rfl ?_
        refine q_aload C 7 dL_law_175 rfl ?_
        refine q_iload C 0 dL_law_177 rfl ?_
        refine q_iload C 2 dL_law_179 rfl ?_
        refine q_iload C 1 dL_law_181 rfl ?_
        refine q_cI (q_runS (As := [.ref (adr w 0), .ref (adr w 110), .ref (adr w 111), .ref (adr w 113), .ref (adr w 112), .int (iI (lo (srI xv 18) 16)), .int (iI xv), .int (iI yv)]) (rest := []) C (k_L_acts (F := F) (k := lo (srI xv 18) 16) (x := xv) (y := yv) l hL0 hL1 hL3 hL2 hTA hA ⟨by omega, by omega⟩ (by omega) (by decide)) wd_567 wd_566 wd_12 wd_565 nd_L_acts rfl (by decide) hkn rfl (Nat.le_of_ble_eq_true rfl) dL_law_183) ?_
        rintro z G1 ⟨rfl, N, hTA1, hA1, hb1⟩
        refine q_if_eq C 234 dL_law_186 ⟨by decide, by decide⟩  (by decide) (fun h => absurd h (by decide)) (fun _ => ?_)
        refine q_aload_n C 3 dL_law_189 rfl ?_
        refine q_aload_n C 4 dL_law_190 rfl ?_
        refine q_aload C 7 dL_law_191 rfl ?_
        refine q_cI (q_runS (As := [.ref (adr w 0), .ref (adr w 110), .ref (adr w 112)]) (rest := []) C (k_L_areWords (F := G1) (a := 110) (b := 111) (nn := 113) (t := 112) l hL0 hL1 hL3 hL2 hTA1 hA1) wd_167 wd_166 wd_12 wd_165 nd_L_areWords rfl (by decide) hkn rfl (Nat.le_of_ble_eq_true rfl) dL_law_193) ?_
        rintro z F' ⟨rfl, rfl⟩
        refine q_if_eq C 234 dL_law_196 ⟨by decide, by decide⟩  (by decide) (fun h => absurd h (by decide)) (fun _ => ?_)
        refine q_aload_n C 3 dL_law_199 rfl ?_
        refine q_aload_n C 4 dL_law_200 rfl ?_
        refine q_aload_n C 5 dL_law_201 rfl ?_
        refine q_aload C 6 dL_law_202 rfl ?_
        refine q_cI (q_runS (As := [.ref (adr w 0), .ref (adr w 110), .ref (adr w 111), .ref (adr w 113)]) (rest := []) C (k_L_areDoors (F := G1) (a := 110) (b := 111) (nn := 113) (t := 112) l hL0 hL1 hL3 hL2 hTA1 hA1) wd_285 wd_284 wd_12 wd_283 nd_L_areDoors rfl (by decide) hkn rfl (Nat.le_of_ble_eq_true rfl) dL_law_204) ?_
        rintro z F' ⟨rfl, rfl⟩
        refine q_if_eq C 234 dL_law_207 ⟨by decide, by decide⟩  (by decide) (fun h => absurd h (by decide)) (fun _ => ?_)
        refine q_aload_n C 3 dL_law_210 rfl ?_
        refine q_aload_n C 4 dL_law_211 rfl ?_
        refine q_aload_n C 5 dL_law_212 rfl ?_
        refine q_aload C 6 dL_law_213 rfl ?_
        refine q_aload C 7 dL_law_215 rfl ?_
        refine q_iload C 1 dL_law_217 rfl ?_
        refine q_iconst C 3 dL_law_219 ?_
        refine q_ishr C (srI yv 3) (srI_e _ _) dL_law_220 ?_
        refine q_iload C 2 dL_law_221 rfl ?_
        refine q_ixor C (xrI (srI yv 3) xv) (xrI_e _ _) dL_law_223 ?_
        refine q_cIM (As := [.ref (adr w 0), .ref (adr w 110), .ref (adr w 111), .ref (adr w 113), .ref (adr w 112), .int (iI (xrI (srI yv 3) xv))]) (rest := []) C (k_L_would (F := G1) (x := xrI (srI yv 3) xv) l hP hL0 hL1 hL3 hL2 hTA1 hA1) wd_446 wd_445 wd_12 wd_444 nd_L_would rfl (by decide) hkn6 rfl (Nat.le_of_ble_eq_true rfl) dL_law_224 ?_
        rintro z G2 ⟨rfl, hA2, hTA2⟩
        refine q_if_eq C 234 dL_law_227 ⟨by decide, by decide⟩  (by decide) (fun h => absurd h (by decide)) (fun _ => ?_)
        refine q_iconst C 1 dL_law_230 ?_
        refine q_goto C 235 dL_law_231 (by decide) ?_
        refine q_istore (lv' := [(6, .int (iI 1)), (10, .int (iI (lo (srI xv 18) 16))), (9, .int (iI yv)), (8, .int (iI xv)), (1, .ref (adr w 0)), (2, .ref (adr w 110)), (3, .ref (adr w 111)), (5, .ref (adr w 113)), (4, .ref (adr w 112)), (7, .int (iI t)), (0, .ref b)]) C dL_law_235 (by decide) rfl ?_
        refine q_iinc (lv' := [(7, .int (iI (t + 1))), (6, .int (iI 1)), (10, .int (iI (lo (srI xv 18) 16))), (9, .int (iI yv)), (8, .int (iI xv)), (1, .ref (adr w 0)), (2, .ref (adr w 110)), (3, .ref (adr w 111)), (5, .ref (adr w 113)), (4, .ref (adr w 112)), (0, .ref b)]) C 9 dL_law_237 rfl (by decide) rfl ?_
        refine q_goto C 101 dL_law_240 (by decide) ?_
        refine q_lv (lv' := [(1, .ref (adr w 0)), (2, .ref (adr w 110)), (3, .ref (adr w 111)), (5, .ref (adr w 113)), (4, .ref (adr w 112)), (7, .int (iI (t + 1))), (6, .int (iI 1)), (0, .ref b)]) [5, 6, 7, 8, 9, 0, 1, 10] rfl ?_
        exact ih (k + 6) (n + 166) (t + 1) N G2 ⟨hA2, hTA2, ⟨by omega, by omega⟩, by omega, by omega, by omega⟩ (by omega)
      · refine q_bipush C 9 dL_law_153 (by decide) ?_
        refine q_goto C 168 dL_law_155 (by decide) ?_
        refine q_istore (lv' := [(10, .int (iI 9)), (9, .int (iI yv)), (8, .int (iI xv)), (1, .ref (adr w 0)), (2, .ref (adr w 110)), (3, .ref (adr w 111)), (5, .ref (adr w 113)), (4, .ref (adr w 112)), (7, .int (iI t)), (6, .int (iI 1)), (0, .ref b)]) C dL_law_168 (by decide) rfl ?_
        refine q_aload_n C 3 dL_law_170 rfl ?_
        refine q_aload_n C 4 dL_law_171 rfl ?_
        refine q_aload_n C 5 dL_law_172 rfl ?_
        refine q_aload C 6 dL_law_173 rfl ?_
        refine q_aload C 7 dL_law_175 rfl ?_
        refine q_iload C 0 dL_law_177 rfl ?_
        refine q_iload C 2 dL_law_179 rfl ?_
        refine q_iload C 1 dL_law_181 rfl ?_
        refine q_cI (q_runS (As := [.ref (adr w 0), .ref (adr w 110), .ref (adr w 111), .ref (adr w 113), .ref (adr w 112), .int (iI 9), .int (iI xv), .int (iI yv)]) (rest := []) C (k_L_acts (F := F) (k := 9) (x := xv) (y := yv) l hL0 hL1 hL3 hL2 hTA hA ⟨by omega, by omega⟩ (by omega) (by decide)) wd_567 wd_566 wd_12 wd_565 nd_L_acts rfl (by decide) hkn rfl (Nat.le_of_ble_eq_true rfl) dL_law_183) ?_
        rintro z G1 ⟨rfl, N, hTA1, hA1, hb1⟩
        refine q_if_eq C 234 dL_law_186 ⟨by decide, by decide⟩  (by decide) (fun h => absurd h (by decide)) (fun _ => ?_)
        refine q_aload_n C 3 dL_law_189 rfl ?_
        refine q_aload_n C 4 dL_law_190 rfl ?_
        refine q_aload C 7 dL_law_191 rfl ?_
        refine q_cI (q_runS (As := [.ref (adr w 0), .ref (adr w 110), .ref (adr w 112)]) (rest := []) C (k_L_areWords (F := G1) (a := 110) (b := 111) (nn := 113) (t := 112) l hL0 hL1 hL3 hL2 hTA1 hA1) wd_167 wd_166 wd_12 wd_165 nd_L_areWords rfl (by decide) hkn rfl (Nat.le_of_ble_eq_true rfl) dL_law_193) ?_
        rintro z F' ⟨rfl, rfl⟩
        refine q_if_eq C 234 dL_law_196 ⟨by decide, by decide⟩  (by decide) (fun h => absurd h (by decide)) (fun _ => ?_)
        refine q_aload_n C 3 dL_law_199 rfl ?_
        refine q_aload_n C 4 dL_law_200 rfl ?_
        refine q_aload_n C 5 dL_law_201 rfl ?_
        refine q_aload C 6 dL_law_202 rfl ?_
        refine q_cI (q_runS (As := [.ref (adr w 0), .ref (adr w 110), .ref (adr w 111), .ref (adr w 113)]) (rest := []) C (k_L_areDoors (F := G1) (a := 110) (b := 111) (nn := 113) (t := 112) l hL0 hL1 hL3 hL2 hTA1 hA1) wd_285 wd_284 wd_12 wd_283 nd_L_areDoors rfl (by decide) hkn rfl (Nat.le_of_ble_eq_true rfl) dL_law_204) ?_
        rintro z F' ⟨rfl, rfl⟩
        refine q_if_eq C 234 dL_law_207 ⟨by decide, by decide⟩  (by decide) (fun h => absurd h (by decide)) (fun _ => ?_)
        refine q_aload_n C 3 dL_law_210 rfl ?_
        refine q_aload_n C 4 dL_law_211 rfl ?_
        refine q_aload_n C 5 dL_law_212 rfl ?_
        refine q_aload C 6 dL_law_213 rfl ?_
        refine q_aload C 7 dL_law_215 rfl ?_
        refine q_iload C 1 dL_law_217 rfl ?_
        refine q_iconst C 3 dL_law_219 ?_
        refine q_ishr C (srI yv 3) (srI_e _ _) dL_law_220 ?_
        refine q_iload C 2 dL_law_221 rfl ?_
        refine q_ixor C (xrI (srI yv 3) xv) (xrI_e _ _) dL_law_223 ?_
        refine q_cIM (As := [.ref (adr w 0), .ref (adr w 110), .ref (adr w 111), .ref (adr w 113), .ref (adr w 112), .int (iI (xrI (srI yv 3) xv))]) (rest := []) C (k_L_would (F := G1) (x := xrI (srI yv 3) xv) l hP hL0 hL1 hL3 hL2 hTA1 hA1) wd_446 wd_445 wd_12 wd_444 nd_L_would rfl (by decide) hkn6 rfl (Nat.le_of_ble_eq_true rfl) dL_law_224 ?_
        rintro z G2 ⟨rfl, hA2, hTA2⟩
        refine q_if_eq C 234 dL_law_227 ⟨by decide, by decide⟩  (by decide) (fun h => absurd h (by decide)) (fun _ => ?_)
        refine q_iconst C 1 dL_law_230 ?_
        refine q_goto C 235 dL_law_231 (by decide) ?_
        refine q_istore (lv' := [(6, .int (iI 1)), (10, .int (iI 9)), (9, .int (iI yv)), (8, .int (iI xv)), (1, .ref (adr w 0)), (2, .ref (adr w 110)), (3, .ref (adr w 111)), (5, .ref (adr w 113)), (4, .ref (adr w 112)), (7, .int (iI t)), (0, .ref b)]) C dL_law_235 (by decide) rfl ?_
        refine q_iinc (lv' := [(7, .int (iI (t + 1))), (6, .int (iI 1)), (10, .int (iI 9)), (9, .int (iI yv)), (8, .int (iI xv)), (1, .ref (adr w 0)), (2, .ref (adr w 110)), (3, .ref (adr w 111)), (5, .ref (adr w 113)), (4, .ref (adr w 112)), (0, .ref b)]) C 9 dL_law_237 rfl (by decide) rfl ?_
        refine q_goto C 101 dL_law_240 (by decide) ?_
        refine q_lv (lv' := [(1, .ref (adr w 0)), (2, .ref (adr w 110)), (3, .ref (adr w 111)), (5, .ref (adr w 113)), (4, .ref (adr w 112)), (7, .int (iI (t + 1))), (6, .int (iI 1)), (0, .ref b)]) [5, 6, 7, 8, 9, 0, 1, 10] rfl ?_
        exact ih (k + 6) (n + 166) (t + 1) N G2 ⟨hA2, hTA2, ⟨by omega, by omega⟩, by omega, by omega, by omega⟩ (by omega)
    · refine q_iconst C 0 dL_law_142 ?_
      refine q_goto C 168 dL_law_143 (by decide) ?_
      refine q_istore (lv' := [(10, .int (iI 0)), (9, .int (iI yv)), (8, .int (iI xv)), (1, .ref (adr w 0)), (2, .ref (adr w 110)), (3, .ref (adr w 111)), (5, .ref (adr w 113)), (4, .ref (adr w 112)), (7, .int (iI t)), (6, .int (iI 1)), (0, .ref b)]) C dL_law_168 (by decide) rfl ?_
      refine q_aload_n C 3 dL_law_170 rfl ?_
      refine q_aload_n C 4 dL_law_171 rfl ?_
      refine q_aload_n C 5 dL_law_172 rfl ?_
      refine q_aload C 6 dL_law_173 rfl ?_
      refine q_aload C 7 dL_law_175 rfl ?_
      refine q_iload C 0 dL_law_177 rfl ?_
      refine q_iload C 2 dL_law_179 rfl ?_
      refine q_iload C 1 dL_law_181 rfl ?_
      refine q_cI (q_runS (As := [.ref (adr w 0), .ref (adr w 110), .ref (adr w 111), .ref (adr w 113), .ref (adr w 112), .int (iI 0), .int (iI xv), .int (iI yv)]) (rest := []) C (k_L_acts (F := F) (k := 0) (x := xv) (y := yv) l hL0 hL1 hL3 hL2 hTA hA ⟨by omega, by omega⟩ (by omega) (by decide)) wd_567 wd_566 wd_12 wd_565 nd_L_acts rfl (by decide) hkn rfl (Nat.le_of_ble_eq_true rfl) dL_law_183) ?_
      rintro z G1 ⟨rfl, N, hTA1, hA1, hb1⟩
      refine q_if_eq C 234 dL_law_186 ⟨by decide, by decide⟩  (by decide) (fun h => absurd h (by decide)) (fun _ => ?_)
      refine q_aload_n C 3 dL_law_189 rfl ?_
      refine q_aload_n C 4 dL_law_190 rfl ?_
      refine q_aload C 7 dL_law_191 rfl ?_
      refine q_cI (q_runS (As := [.ref (adr w 0), .ref (adr w 110), .ref (adr w 112)]) (rest := []) C (k_L_areWords (F := G1) (a := 110) (b := 111) (nn := 113) (t := 112) l hL0 hL1 hL3 hL2 hTA1 hA1) wd_167 wd_166 wd_12 wd_165 nd_L_areWords rfl (by decide) hkn rfl (Nat.le_of_ble_eq_true rfl) dL_law_193) ?_
      rintro z F' ⟨rfl, rfl⟩
      refine q_if_eq C 234 dL_law_196 ⟨by decide, by decide⟩  (by decide) (fun h => absurd h (by decide)) (fun _ => ?_)
      refine q_aload_n C 3 dL_law_199 rfl ?_
      refine q_aload_n C 4 dL_law_200 rfl ?_
      refine q_aload_n C 5 dL_law_201 rfl ?_
      refine q_aload C 6 dL_law_202 rfl ?_
      refine q_cI (q_runS (As := [.ref (adr w 0), .ref (adr w 110), .ref (adr w 111), .ref (adr w 113)]) (rest := []) C (k_L_areDoors (F := G1) (a := 110) (b := 111) (nn := 113) (t := 112) l hL0 hL1 hL3 hL2 hTA1 hA1) wd_285 wd_284 wd_12 wd_283 nd_L_areDoors rfl (by decide) hkn rfl (Nat.le_of_ble_eq_true rfl) dL_law_204) ?_
      rintro z F' ⟨rfl, rfl⟩
      refine q_if_eq C 234 dL_law_207 ⟨by decide, by decide⟩  (by decide) (fun h => absurd h (by decide)) (fun _ => ?_)
      refine q_aload_n C 3 dL_law_210 rfl ?_
      refine q_aload_n C 4 dL_law_211 rfl ?_
      refine q_aload_n C 5 dL_law_212 rfl ?_
      refine q_aload C 6 dL_law_213 rfl ?_
      refine q_aload C 7 dL_law_215 rfl ?_
      refine q_iload C 1 dL_law_217 rfl ?_
      refine q_iconst C 3 dL_law_219 ?_
      refine q_ishr C (srI yv 3) (srI_e _ _) dL_law_220 ?_
      refine q_iload C 2 dL_law_221 rfl ?_
      refine q_ixor C (xrI (srI yv 3) xv) (xrI_e _ _) dL_law_223 ?_
      refine q_cIM (As := [.ref (adr w 0), .ref (adr w 110), .ref (adr w 111), .ref (adr w 113), .ref (adr w 112), .int (iI (xrI (srI yv 3) xv))]) (rest := []) C (k_L_would (F := G1) (x := xrI (srI yv 3) xv) l hP hL0 hL1 hL3 hL2 hTA1 hA1) wd_446 wd_445 wd_12 wd_444 nd_L_would rfl (by decide) hkn6 rfl (Nat.le_of_ble_eq_true rfl) dL_law_224 ?_
      rintro z G2 ⟨rfl, hA2, hTA2⟩
      refine q_if_eq C 234 dL_law_227 ⟨by decide, by decide⟩  (by decide) (fun h => absurd h (by decide)) (fun _ => ?_)
      refine q_iconst C 1 dL_law_230 ?_
      refine q_goto C 235 dL_law_231 (by decide) ?_
      refine q_istore (lv' := [(6, .int (iI 1)), (10, .int (iI 0)), (9, .int (iI yv)), (8, .int (iI xv)), (1, .ref (adr w 0)), (2, .ref (adr w 110)), (3, .ref (adr w 111)), (5, .ref (adr w 113)), (4, .ref (adr w 112)), (7, .int (iI t)), (0, .ref b)]) C dL_law_235 (by decide) rfl ?_
      refine q_iinc (lv' := [(7, .int (iI (t + 1))), (6, .int (iI 1)), (10, .int (iI 0)), (9, .int (iI yv)), (8, .int (iI xv)), (1, .ref (adr w 0)), (2, .ref (adr w 110)), (3, .ref (adr w 111)), (5, .ref (adr w 113)), (4, .ref (adr w 112)), (0, .ref b)]) C 9 dL_law_237 rfl (by decide) rfl ?_
      refine q_goto C 101 dL_law_240 (by decide) ?_
      refine q_lv (lv' := [(1, .ref (adr w 0)), (2, .ref (adr w 110)), (3, .ref (adr w 111)), (5, .ref (adr w 113)), (4, .ref (adr w 112)), (7, .int (iI (t + 1))), (6, .int (iI 1)), (0, .ref b)]) [5, 6, 7, 8, 9, 0, 1, 10] rfl ?_
      exact ih (k + 6) (n + 166) (t + 1) N G2 ⟨hA2, hTA2, ⟨by omega, by omega⟩, by omega, by omega, by omega⟩ (by omega)
end LOOP
set_option maxRecDepth 100000 in
theorem toQ {p : Program} {l : Launch} {e : Env} {R : Room} {s : State} {m : MethodId} {args : Array Value} {below : List Frame} {meth : Method} {c : Code} {Qf : State → Prop} {w : WP} {k n nL pc : Nat} {lv : List (Nat × Value)} {st : List Value} {ad : Nat → Nat} (h0 : w.2.2.2.2 = 0)
    (hO : (∀ i j, i < 110 → j < 110 → ad i = ad j → i = j) → (∀ i, i < 110 → Aw w (ad i)) → OK (wad w ad) s) (kk : OK (wad w ad) s → Wq p l e R s m args below meth c Qf (wad w ad) k n nL pc lv st FZ) : Wk p l e R s m args below meth c Qf w k n nL pc lv st (seg w ad 0 110) := by
  intro H locs ls hH hS hl
  have hn : nP (wad w ad) = 110 := by
    show 110 + w.2.2.2.2 = 110
    rw [h0]
  have hw : seg w ad 0 110 = wsW (wad w ad) FZ := by
    unfold seg wsW
    rw [hn]
    apply List.map_congr_left
    intro i _
    rw [Nat.zero_add]; rfl
  have hD := hH.2
  have hP := hH.1
  rw [hw] at hD hP
  have g : ∀ i, i < 110 → (wsW (wad w ad) FZ)[i]? = some (ad i, cellE (wad w ad) FZ i) := fun i hi => wsW_get (by rw [hn]; exact hi)
  have h1 : ∀ i j, i < 110 → j < 110 → ad i = ad j → i = j := fun i j hi hj h => hD.1 i j _ _ (g i hi) (g j hj) h
  have h2 : ∀ i, i < 110 → Aw w (ad i) := fun i hi => hD.2 i _ (g i hi)
  exact kk (hO h1 h2) H locs ls ⟨hP, FZ_out⟩ hS hl
set_option maxRecDepth 100000 in
set_option maxHeartbeats 4000000 in
/-- from the law's entry to its loop -/
theorem law_make {pg : Program} {l : Launch} {ev : Env} {s0 : State} {mi : MethodId} {be : List Frame} {me : Method} {co : Code} {w9 : WP} {b L : Nat} {xs : Nat → Int32} (C0 : Ck pg s0 mi #[Value.ref b] me co code "MagnetPoemsLaw" ret 11 w9) (hX : va_X b L xs s0 s0.heap) (hbl : b < s0.heap.size) (hwb9 : w9.2.2.2.1 = s0.heap.size) (he9 : w9.2.2.2.2 = 0) (hL : L ≤ 260) (hO : ∀ ad : Nat → Nat, (∀ i j, i < 110 → j < 110 → ad i = ad j → i = j) → (∀ i, i < 110 → Aw w9 (ad i)) → OK (wad w9 ad) s0) :
    Wk pg l ev room_1 s0 mi #[Value.ref b] be me co (lw_Z be #[Value.ref b] s0) w9 0 0 11 0 [(0, .ref b)] [] [] := by
  refine Wk.eq (ws' := [] ++ ([] : va_W)) rfl ?_
  refine r_new (pre := []) (L := ([] : va_W)) (ci := 3) C0 tyX3 [.null, .null, .null, .null, .null, .null, .int (iI 0), .null] rfl uws3 tyX3_ok wd_23 wd_24 wd_13 dfl3 (by decide) dL_law_0 (fun q1 => ?_)
  refine r_dup C0 dL_law_3 rfl ?_
  refine r_callI C0 (k_G3 l (pre := []) (h := q1)) rfl wd_27 wd_26 wd_13 wd_25 nd_X3_init rfl (by decide) (Nat.le_of_ble_eq_true rfl) dL_law_4 ?_
  rintro ws9 ⟨am, rfl, rfl⟩
  refine r_astore_n (lv' := [(1, .ref (am 0)), (0, .ref b)]) C0 dL_law_7 (by decide) rfl ?_
  refine Wk.eq (ws' := seg w9 am 0 110) rfl ?_
  refine toQ he9 (hO _) (fun hOK => ?_)
  have hbA9 : ¬ Aw w9 b := fun h => by have h2 : w9.2.2.2.1 ≤ b := h; omega
  have hA9 : Aw (wad w9 am) = Aw w9 := rfl
  have hP9 : nP (wad w9 am) = 110 := by
    show 110 + w9.2.2.2.2 = 110
    rw [he9]
  have hb9 : (wad w9 am).2.2.2.1 = s0.heap.size := hwb9
  have h09 : am 0 = adr (wad w9 am) 0 := rfl
  rw [h09]
  revert hOK hb9 hP9 hA9
  generalize wad w9 am = w
  intro hOK hA9 hP0 hwb
  have C : Cx pg s0 mi #[Value.ref b] me co code "MagnetPoemsLaw" ret 11 w := ⟨C0.1, C0.2.1, C0.2.2.1, C0.2.2.2.1, C0.2.2.2.2.1, C0.2.2.2.2.2.1, C0.2.2.2.2.2.2.1, hOK⟩
  have hbA : ¬ Aw w b := by rw [hA9]; exact hbA9
  refine q_bipush C 40 dL_law_8 (by decide) ?_
  refine q_newaP 110 C 40 hP0 (by decide) (by decide) (by decide) dL_law_10 (fun w1 hE1 hL110 hP1 C1 => ?_)
  refine q_lvE (lv' := [(1, .ref (adr w1 0)), (0, .ref b)]) (by rw [hE1.2.2.1 0 (nP_ge (by decide))]) ?_
  refine q_astore_n (lv' := [(2, .ref (adr w1 110)), (1, .ref (adr w1 0)), (0, .ref b)]) C1 dL_law_12 (by decide) rfl ?_
  refine q_bipush C1 16 dL_law_13 (by decide) ?_
  refine q_newaP 111 C1 16 hP1 (by decide) (by decide) (by decide) dL_law_15 (fun w2 hE2 hL111 hP2 C2 => ?_)
  refine q_lvE (lv' := [(2, .ref (adr w2 110)), (1, .ref (adr w2 0)), (0, .ref b)]) (by rw [hE2.2.2.1 110 (hL110.2.1), hE2.2.2.1 0 (nP_ge (by decide))]) ?_
  replace hL110 := hL110.ex hE2
  refine q_astore_n (lv' := [(3, .ref (adr w2 111)), (2, .ref (adr w2 110)), (1, .ref (adr w2 0)), (0, .ref b)]) C2 dL_law_17 (by decide) rfl ?_
  refine q_bipush C2 40 dL_law_18 (by decide) ?_
  refine q_newaP 112 C2 40 hP2 (by decide) (by decide) (by decide) dL_law_20 (fun w3 hE3 hL112 hP3 C3 => ?_)
  refine q_lvE (lv' := [(3, .ref (adr w3 111)), (2, .ref (adr w3 110)), (1, .ref (adr w3 0)), (0, .ref b)]) (by rw [hE3.2.2.1 111 (hL111.2.1), hE3.2.2.1 110 (hL110.2.1), hE3.2.2.1 0 (nP_ge (by decide))]) ?_
  replace hL110 := hL110.ex hE3
  replace hL111 := hL111.ex hE3
  refine q_astore (lv' := [(4, .ref (adr w3 112)), (3, .ref (adr w3 111)), (2, .ref (adr w3 110)), (1, .ref (adr w3 0)), (0, .ref b)]) C3 dL_law_22 (by decide) rfl ?_
  refine q_bipush C3 14 dL_law_24 (by decide) ?_
  refine q_newaP 113 C3 14 hP3 (by decide) (by decide) (by decide) dL_law_26 (fun w4 hE4 hL113 hP4 C4 => ?_)
  refine q_lvE (lv' := [(4, .ref (adr w4 112)), (3, .ref (adr w4 111)), (2, .ref (adr w4 110)), (1, .ref (adr w4 0)), (0, .ref b)]) (by rw [hE4.2.2.1 112 (hL112.2.1), hE4.2.2.1 111 (hL111.2.1), hE4.2.2.1 110 (hL110.2.1), hE4.2.2.1 0 (nP_ge (by decide))]) ?_
  replace hL110 := hL110.ex hE4
  replace hL111 := hL111.ex hE4
  replace hL112 := hL112.ex hE4
  refine q_astore (lv' := [(5, .ref (adr w4 113)), (4, .ref (adr w4 112)), (3, .ref (adr w4 111)), (2, .ref (adr w4 110)), (1, .ref (adr w4 0)), (0, .ref b)]) C4 dL_law_28 (by decide) rfl ?_
  refine q_aload C4 0 dL_law_30 rfl ?_
  refine q_iconst C4 1 dL_law_32 ?_
  refine q_bipush C4 20 dL_law_33 (by decide) ?_
  refine q_iast9 C4 hL113 ⟨by omega, by omega⟩ dL_law_35 ?_
  refine q_aload C4 0 dL_law_36 rfl ?_
  refine q_iconst C4 2 dL_law_38 ?_
  refine q_iconst C4 1 dL_law_39 ?_
  refine q_iast9 C4 hL113 ⟨by omega, by omega⟩ dL_law_40 ?_
  refine q_iconst C4 0 dL_law_41 ?_
  refine q_istore (lv' := [(6, .int (iI 0)), (5, .ref (adr w4 113)), (4, .ref (adr w4 112)), (3, .ref (adr w4 111)), (2, .ref (adr w4 110)), (1, .ref (adr w4 0)), (0, .ref b)]) C4 dL_law_42 (by decide) rfl ?_
  refine q_lv (lv' := [(0, .ref b), (1, .ref (adr w4 0)), (2, .ref (adr w4 110)), (3, .ref (adr w4 111)), (4, .ref (adr w4 112)), (5, .ref (adr w4 113)), (6, .int (iI 0))]) [6, 5, 4, 3, 2, 1, 0] rfl ?_
  refine q_F (F' := F1Z) rfl ?_
  refine wf2 (P := fun (i : Int) (G : FF) => Wq pg l ev _ s0 mi _ be me co _ w4 _ _ _ 44 [(0, .ref b), (1, .ref (adr w4 0)), (2, .ref (adr w4 110)), (3, .ref (adr w4 111)), (4, .ref (adr w4 112)), (5, .ref (adr w4 113)), (6, .int (iI i))] [] G) (I := fun (i : Int) (G : FF) => (0 ≤ i ∧ i ≤ 40) ∧ IT G i) (μ := fun (i : Int) (G : FF) => (40 - i).toNat) ?_ 0 F1Z (⟨⟨by omega, by omega⟩, IT_0⟩)
  intro i G hI' ih44
  (try dsimp only at hI'); (try dsimp only at ih44); (try dsimp only)
  obtain ⟨⟨hi0, hi1⟩, hIT⟩ := hI'
  refine q_iload C4 6 dL_law_44 rfl ?_
  refine q_bipush C4 40 dL_law_46 (by decide) ?_
  refine q_icmp_ge C4 70 dL_law_48 ⟨by omega, by omega⟩ ⟨by decide, by decide⟩ (by decide) (fun h48 => ?_) (fun h48 => ?_)
  · have hTAG : TA G 110 111 113 112 AZ.r := IT_TA hIT (by omega)
    have hAG : CI G AZ := CI_Z.law (IT_lo hIT)
    have hkn : 0 + 1 + 109 + 1 + 1 + 1 + 1 ≤ room_1.cells ∧ 0 + 8 + 2648 + 40 + 16 + 40 + 14 ≤ room_1.slots := ⟨by decide, by decide⟩
    refine q_aload_n C4 1 dL_law_70 rfl ?_
    refine q_aload_n C4 2 dL_law_71 rfl ?_
    refine q_aload C4 4 dL_law_72 rfl ?_
    refine q_cI (q_runS (As := [.ref (adr w4 0), .ref (adr w4 110), .ref (adr w4 112)]) (rest := []) C4 (k_L_areWords (F := G) (a := 110) (b := 111) (nn := 113) (t := 112) l hL110 hL111 hL113 hL112 hTAG hAG) wd_167 wd_166 wd_12 wd_165 nd_L_areWords rfl (by decide) hkn rfl (Nat.le_of_ble_eq_true rfl) dL_law_74) ?_
    rintro z F' ⟨rfl, rfl⟩
    refine q_if_eq C4 95 dL_law_77 ⟨by decide, by decide⟩  (by decide) (fun h => absurd h (by decide)) (fun _ => ?_)
    refine q_aload_n C4 1 dL_law_80 rfl ?_
    refine q_aload_n C4 2 dL_law_81 rfl ?_
    refine q_aload_n C4 3 dL_law_82 rfl ?_
    refine q_aload C4 5 dL_law_83 rfl ?_
    refine q_cI (q_runS (As := [.ref (adr w4 0), .ref (adr w4 110), .ref (adr w4 111), .ref (adr w4 113)]) (rest := []) C4 (k_L_areDoors (F := G) (a := 110) (b := 111) (nn := 113) (t := 112) l hL110 hL111 hL113 hL112 hTAG hAG) wd_285 wd_284 wd_12 wd_283 nd_L_areDoors rfl (by decide) hkn rfl (Nat.le_of_ble_eq_true rfl) dL_law_85) ?_
    rintro z F' ⟨rfl, rfl⟩
    refine q_if_eq C4 95 dL_law_88 ⟨by decide, by decide⟩  (by decide) (fun h => absurd h (by decide)) (fun _ => ?_)
    refine q_iconst C4 1 dL_law_91 ?_
    refine q_goto C4 96 dL_law_92 (by decide) ?_
    refine q_istore (lv' := [(6, .int (iI 1)), (0, .ref b), (1, .ref (adr w4 0)), (2, .ref (adr w4 110)), (3, .ref (adr w4 111)), (4, .ref (adr w4 112)), (5, .ref (adr w4 113))]) C4 dL_law_96 (by decide) rfl ?_
    refine q_iconst C4 0 dL_law_98 ?_
    refine q_istore (lv' := [(7, .int (iI 0)), (6, .int (iI 1)), (0, .ref b), (1, .ref (adr w4 0)), (2, .ref (adr w4 110)), (3, .ref (adr w4 111)), (4, .ref (adr w4 112)), (5, .ref (adr w4 113))]) C4 dL_law_99 (by decide) rfl ?_
    refine q_lv (lv' := [(1, .ref (adr w4 0)), (2, .ref (adr w4 110)), (3, .ref (adr w4 111)), (5, .ref (adr w4 113)), (4, .ref (adr w4 112)), (7, .int (iI 0)), (6, .int (iI 1)), (0, .ref b)]) [3, 4, 5, 7, 6, 0, 1, 2] rfl ?_
    exact law_loop C4 hX hbl (fun h => hbA (by rw [hE4.Aw, hE3.Aw, hE2.Aw, hE1.Aw] at h; exact h)) hL (by rw [hE4.2.2.2.2, hE3.2.2.2.2, hE2.2.2.2.2, hE1.2.2.2.2]; exact hwb) hP4 hL110 hL111 hL113 hL112 _ _ 0 AZ G ⟨hAG, hTAG, ⟨by decide, by decide⟩, by decide, by decide, by decide⟩
  · refine q_aload_n C4 2 dL_law_51 rfl ?_
    refine q_iload C4 6 dL_law_52 rfl ?_
    refine q_iconst C4 (-1) dL_law_54 ?_
    refine q_iast9 C4 hL110 ⟨by omega, by omega⟩ dL_law_55 ?_
    refine q_aload_n C4 3 dL_law_56 rfl ?_
    refine q_iload C4 6 dL_law_57 rfl ?_
    refine q_bipush C4 16 dL_law_59 (by decide) ?_
    refine q_irem C4 dL_law_61 ⟨by omega, by omega⟩ ⟨by decide, by decide⟩ ?_
    refine q_iconst C4 (-1) dL_law_62 ?_
    refine q_iast9 C4 hL111 ⟨by omega, by omega⟩ dL_law_63 ?_
    refine q_iinc (lv' := [(6, .int (iI (i + 1))), (0, .ref b), (1, .ref (adr w4 0)), (2, .ref (adr w4 110)), (3, .ref (adr w4 111)), (4, .ref (adr w4 112)), (5, .ref (adr w4 113))]) C4 6 dL_law_64 rfl (by decide) rfl ?_
    refine q_goto C4 44 dL_law_67 (by decide) ?_
    refine q_lv (lv' := [(0, .ref b), (1, .ref (adr w4 0)), (2, .ref (adr w4 110)), (3, .ref (adr w4 111)), (4, .ref (adr w4 112)), (5, .ref (adr w4 113)), (6, .int (iI (i + 1)))]) [1, 2, 3, 4, 5, 6, 0] rfl ?_
    exact ih44 (i + 1) (up (up G 110 i (-1)) 111 (i % 16) (-1)) (⟨⟨by omega, by omega⟩, IT_s hIT hi0⟩) (by omega)
set_option maxRecDepth 100000 in
set_option maxHeartbeats 4000000 in
/-- the law, from its entry -/
theorem whole_start {p : Program} {e : Env} {s : State} {m : MethodId} {below : List Frame} {meth : Method} {c : Code} (l : Launch) (hflags : l.flags = flags0) {b L : Nat} {xs : Nat → Int32} (hL : L ≤ 260) (C0 : lw_At p s m meth c b L xs) : W p l e room_1 s m #[Value.ref b] below meth c s.heap [] 0 0 (lw_Z below #[Value.ref b] s) (entryFrame m ([Value.ref b] : List Value).toArray 11) := by
  obtain ⟨hx, hb, hr, hml, hown, hts, hX, hbl, hlocks, hgv⟩ := id C0
  have hG : ∀ x ∈ WG, x.before #[Value.ref b] s = true := fun x hx => hts x (List.mem_filter.mp hx).1
  obtain ⟨c0, i0, hK0⟩ := u_known (C := RX0) (T := TX0) (N := 13) (n := 13) hG uws0 (hG _ wd_32)
  obtain ⟨c1, i1, hK1⟩ := u_known (C := RX1) (T := TX1) (N := 3) (n := 3) hG uws1 (hG _ wd_89)
  obtain ⟨c2, i2, hK2⟩ := u_known (C := RX2) (T := TX2) (N := 7) (n := 7) hG uws2 (hG _ wd_109)
  obtain ⟨c3, i3, hK3⟩ := u_known (C := RX3) (T := TX3) (N := 8) (n := 8) hG uws3 (hG _ wd_24)
  obtain ⟨dC, dI, hKc⟩ : ∃ (dC : Nat → ClassId) (dI : Nat → Nat → Nat), ∀ (k : Nat) (q : vw_C), vwCl[k]? = some q → u_Kn s q.1 q.2.1 q.2.2 (dC k) (dI k) := by
    refine ⟨fun k => if k = 0 then c0 else if k = 1 then c1 else if k = 2 then c2 else c3, fun k => if k = 0 then i0 else if k = 1 then i1 else if k = 2 then i2 else i3, ?_⟩
    intro k q hq
    match k, hq with
    | 0, hq => cases hq; exact hK0
    | 1, hq => cases hq; exact hK1
    | 2, hq => cases hq; exact hK2
    | 3, hq => cases hq; exact hK3
    | k + 4, hq => simp at hq
  have prim : ∀ ty : FieldType, (Cond.arrayClass ty).before #[Value.ref b] s = true → ∃ cA, s.vm.findClass ("[" ++ ty.toString) = some cA ∧ ArrOfT s cA ty := by
    intro ty h
    obtain ⟨cA, kA, comp, h1, h2, h3⟩ := Cond.arrayClass_spec h
    exact ⟨cA, h1, fun n z => ⟨(fun k h => by cases h), kA, h2, comp, h3⟩⟩
  obtain ⟨cI, nI1, aI1⟩ := prim .int (hG _ wd_87)
  obtain ⟨cB, nB1, aB1⟩ := prim .boolean (hG _ wd_132)
  obtain ⟨comp, cQ, kQ, f1, f2, f3, f4, f5⟩ := Cond.arrayOver_spec (hts _ AO_tbl)
  have hAO : va_AO RX0 s := va_AO.of (hts _ AO_tbl)
  have hK : ∀ ad : Nat → Nat, va_K (dC, dI) vwCl (tysW ((dC, dI), (cI, cB, cQ), ad, s.heap.size, 0)) s := by
    intro ad
    refine ⟨hKc, fun k q hq => ?_⟩
    match k, hq with
    | 0, hq => cases hq; exact ⟨aI1, nI1⟩
    | 1, hq => cases hq; exact ⟨aB1, nB1⟩
    | 2, hq => cases hq; exact ⟨fun n z => ⟨(fun k h => by cases h), kQ, f3, comp, f4⟩, kQ, comp, f3, f4, f1, f5⟩
    | k + 3, hq => simp [tysW] at hq
  have hNW : ∀ x ∈ NWL, va_Nw x s := fun x hx => va_Nw.of (NWL_ot x hx) (hts x (NWL_tbl x hx))
  have hO : ∀ ad : Nat → Nat, (∀ i j, i < 110 → j < 110 → ad i = ad j → i = j) → (∀ i, i < 110 → s.heap.size ≤ ad i) → OK ((dC, dI), (cI, cB, cQ), ad, s.heap.size, 0) s := by
    intro ad h1 h2
    exact ⟨hK ad, h1, h2, hNW, fun q hq => hq⟩
  have hl := lv_entry ([.ref b]) (n := 11) (Nat.le_of_ble_eq_true rfl)
  rw [lg_entry_eq]
  generalize (lg_sl ([.ref b]) ++ List.replicate (11 - (lg_sl ([.ref b])).length) Slot.unset).toArray = ls at hl ⊢
  have hl : lv_has ls 11 [(0, .ref b)] := hl
  have Ck0 : Ck p s m #[Value.ref b] meth c code "MagnetPoemsLaw" ret 11 ((dC, dI), (cI, cB, cQ), (fun _ => 0), s.heap.size, 0) := ⟨hx, hb, hml, hown, hG, hr, hlocks, hK _, hAO, hNW, Nat.le_refl _⟩
  exact law_make Ck0 hX hbl rfl rfl hL (fun ad h1 h2 => hO ad h1 h2) s.heap [] ls ⟨fun k q h => by simp at h, ⟨fun i j p q h => by simp at h, fun k q h => by simp at h⟩⟩ va_S.rf hl
