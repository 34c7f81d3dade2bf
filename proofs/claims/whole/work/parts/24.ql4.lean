/-! QL 4: references answered; exceptions thrown and caught -/
def nms : List String := ["java/lang/RuntimeException", "java/lang/Exception"]
def EXok (cls : String) (ik ic : Nat) : Prop :=
  Bundle.fit cls = true ∧ (∀ n ∈ nms, Bundle.fit n = true) ∧ Cond.classLink "MagnetPoems" ik cls ∈ WG ∧ Cond.initialized cls ∈ WG ∧ (∀ w ∈ (vx_atS "MagnetPoems" ic cls nms).filter goodWord, w ∈ WG) ∧ (∀ w ∈ (vx_atS "MagnetPoems" ic cls nms).filter (fun w => !goodWord w), w ∈ NWL) ∧
  (∀ w ∈ Cond.classLink "MagnetPoems" ik cls :: Cond.initialized cls :: vx_atS "MagnetPoems" ic cls nms, vx_ot w = true)
theorem ex_ioobe : EXok "java/lang/IndexOutOfBoundsException" 53 57 := ⟨by decide +kernel, by decide +kernel, by decide +kernel, by decide +kernel, by decide +kernel, by decide +kernel, by decide +kernel⟩
theorem ex_ise : EXok "java/lang/IllegalStateException" 63 67 := ⟨by decide +kernel, by decide +kernel, by decide +kernel, by decide +kernel, by decide +kernel, by decide +kernel, by decide +kernel⟩
theorem ex_iae : EXok "java/lang/IllegalArgumentException" 127 131 := ⟨by decide +kernel, by decide +kernel, by decide +kernel, by decide +kernel, by decide +kernel, by decide +kernel, by decide +kernel⟩
abbrev XW (w : WP) (X : String → FF → Prop) : String → State → State → Prop := vx_X (S := FF) (fun _ => True) (fun E F' t => X E F' ∧ HR w F' t.heap) (Aw w)
/-- the contract of a method that returns or throws -/
def ConX (l : Launch) (y : MethodName) (cc : ByteArray) (maxL : Nat) (ret : Option FieldType) (h : Nat) (w : WP) (av : List Value) (F : FF) (Qc : Array Value → State → Outcome → State → Prop) (X : String → FF → Prop) : Prop :=
  vx_Met l y (.code y cc maxL ret :: WG) (rmx h) (PcW w av F) Qc (XW w X) 1 6 (Aw w)
theorem ConX.mk {l : Launch} {y : MethodName} {cc : ByteArray} {maxL : Nat} {ret : Option FieldType} {h : Nat} {w : WP} {av : List Value} {F : FF} {Qc : Array Value → State → Outcome → State → Prop} {X : String → FF → Prop} {lv : List (Nat × Value)} (hy : plainName y.cls = true) (hn : (lg_sl av).length ≤ maxL) (hlv : lv_args 0 av = lv)
    (body : ∀ p e s m below meth c, Cx p s m av.toArray meth c cc y.cls ret maxL w → (∀ x ∈ c.exceptionTable.toList, False) → (∀ (k : Nat) (j : Int), ¬ (0 ≤ j ∧ j < ln k) → F k j = 0) → Wq p l e (rmx h) s m av.toArray below meth c (vx_MQ below Qc (XW w X) av.toArray s 1 6 (Aw w)) w 0 0 maxL 0 lv [] F) : ConX l y cc maxL ret h w av F Qc X := by
  refine vx_ofW (cc := cc) (maxL := maxL) (ret := ret) hy rfl ?_
  intro p e s m args below meth c s₁ B hml htab hv
  obtain ⟨rfl, hH, hOK⟩ := hv
  have hts := atoms_spec (ws := Cond.code y cc maxL ret :: WG) B.pre
  have C : Cx p s m av.toArray meth c cc y.cls ret maxL w := ⟨B.exec, B.bytes, hml, findClass_of_methodNamed B.named, fun x hx => hts x (List.mem_cons_of_mem _ hx), B.returns, B.notSynchronized, hOK⟩
  have hl := lv_entry av (n := maxL) hn
  rw [lg_entry_eq]
  rw [hlv] at hl
  exact body p e s m below meth c C htab hH.2 s.heap [] _ hH va_S.rf hl
section QX
variable {p : Program} {l : Launch} {e : Env} {R : Room} {s : State} {m : MethodId} {args : Array Value} {below : List Frame} {meth : Method} {c : Code} {Qf : State → Prop} {w : WP} {k n nL pc : Nat} {lv lv' : List (Nat × Value)} {st : List Value} {F : FF} {cc : ByteArray} {own : String} {ret : Option FieldType}
theorem q_null (C : Cx p s m args meth c cc own ret nL w) (d : decode cc pc = .ok (.aconst_null, 1)) (kk : Wq p l e R s m args below meth c Qf w k n nL (pc + 1) lv (.null :: st) F) : Wq p l e R s m args below meth c Qf w k n nL pc lv st F :=
  fun H locs ls hH hS hl => lv_null C.1 C.2.1 d (kk H locs ls hH hS hl)
theorem q_aloadN_n (C : Cx p s m args meth c cc own ret nL w) (j : Nat) {i : Fin 4} (d : decode cc pc = .ok (.aload_n i, 1)) (hv : lv[j]? = some ((i : Nat), .null)) (kk : Wq p l e R s m args below meth c Qf w k n nL (pc + 1) lv (.null :: st) F) : Wq p l e R s m args below meth c Qf w k n nL pc lv st F :=
  fun H locs ls hH hS hl => lv_aload_nN C.1 C.2.1 d rfl (lv_at hl j hv) (kk H locs ls hH hS hl)
theorem q_astoreN_n (C : Cx p s m args meth c cc own ret nL w) {i : Fin 4} (d : decode cc pc = .ok (.astore_n i, 1)) (hn : (i : Nat) < nL) (hl' : ((i : Nat), Value.null) :: lv.filter (fun q => !(q.1 == (i : Nat)) && !(q.1 + 1 == (i : Nat) && q.2.category == 2)) = lv') (kk : Wq p l e R s m args below meth c Qf w k n nL (pc + 1) lv' st F) : Wq p l e R s m args below meth c Qf w k n nL pc lv (.null :: st) F :=
  fun H locs ls hH hS hl => lv_astore_nN C.1 C.2.1 d rfl hl hn hl' (fun ls' hl2 => kk H locs ls' hH hS hl2)
theorem q_aret {rt : FieldType} (C : Cx p s m args meth c cc own (some rt) nL w) (hrt : (∃ n, rt = .object n) ∨ ∃ t, rt = .array t) {post : Option Nat → FF → Prop} {z : Option Nat} (d : decode cc pc = .ok (.areturn, 1)) (hq : post z F) : Wq p l e R s m args below meth c (MQ below (QQ w post) args s k n (Aw w)) w k n nL pc lv [va_rf (z.map (adr w))] F :=
  fun H locs ls hH hS hl => W.aret C.1 C.2.1 C.2.2.2.2.2.1 hrt (by cases z with
    | none => exact Or.inl rfl
    | some a => exact Or.inr ⟨_, rfl⟩) (fun t ht hW => ⟨⟨z.map (adr w), F, rfl, ⟨z, rfl, hq⟩, by show HR w F t.heap; rw [ht]; exact hH⟩, hS.F ht⟩) hS.2.2 d C.2.2.2.2.2.2.1
/-- 'throw new E("text")' in a method that may throw -/
theorem q_throw {h : Nat} {Qc : Array Value → State → Outcome → State → Prop} {X : String → FF → Prop} (C : Cx p s m args meth c cc "MagnetPoems" ret nL w) (hl : l.stackTraces = false) (hex : ∀ x ∈ c.exceptionTable.toList, False) {cls text : String} {ik ic is : Nat} (hE : EXok cls ik ic) (hstr : ("MagnetPoems", is, text) ∈ STL)
    (d0 : decode cc pc = .ok (.new ik, 3)) (d3 : decode cc (pc + 3) = .ok (.dup, 1)) (d4 : decode cc (pc + 4) = .ok (.ldc is, 2)) (d6 : decode cc (pc + 6) = .ok (.invokespecial ic, 3)) (d9 : decode cc (pc + 9) = .ok (.athrow, 1)) (hR : (decide (5 < h)) = true) (hx : X cls F) :
    Wq p l e (rmx h) s m args below meth c (vx_MQ below Qc (XW w X) args s 1 6 (Aw w)) w 0 0 nL pc lv [] F := by
  intro H locs ls hH hS hl2
  obtain ⟨e1, e2, e3, e4, e5, e6, e7⟩ := hE
  obtain ⟨sa, hsa⟩ := C.2.2.2.2.2.2.2.2.2.2.2.1 _ hstr
  have hW := C.2.2.2.2.1
  have hO := C.2.2.2.2.2.2.2
  have h5 : 5 < h := of_decide_eq_true hR
  refine vx_throwS (names := nms) (A := Aw w) C.1 C.2.1 hl C.2.2.2.1 e1 e2 (hW _ e3) (hW _ e4) hsa (vx_hat (fun x hx => hW x (e5 x hx)) e6 (fun x hx => va_Nw.use ?_ (hO.2.2.2.1 x hx))) e7 hO.2.2.2.2.2.2.1 hO.2.2.2.2.2.2.2 hS (hl2.1.trans C.2.2.1.symm) d0 d3 d4 d6 d9 (fun x hx => (hex x hx).elim) ?_ ?_ (Nat.le_refl _) (Nat.le_refl _) C.2.2.2.2.2.2.1 ?_ hS.2.2 (Nat.le_refl _) (Nat.le_refl _)
  · have hn := NWL_nest x hx
    cases x <;> first | (simp [isNest] at hn; done) | rfl
  · show 2 + 3 < h
    omega
  · show (([] : List Value).map fun v => v.category).sum + (13 * (2 + 1) + 43) ≤ 32 * h
    simp
    omega
  · intro t hal hsz hk
    have hP : va_P w.1 vwCl (wsW w F) t.heap := hH.1.kept (fun i q hq => hk q.1 (hH.1 i q hq).lt)
    exact ⟨F, trivial, ⟨hx, hP, hH.2⟩, Nat.le_trans hS.1 hsz, fun q h1 h2 => by rw [hk q (Nat.lt_of_lt_of_le h1 hS.1)]; exact hS.2.1 q h1 h2⟩
theorem q_xiret {X : String → FF → Prop} (C : Cx p s m args meth c cc own (some .int) nL w) {post : Int → FF → Prop} {z : Int} (hk : k ≤ 1 ∧ n ≤ 6) (d : decode cc pc = .ok (.ireturn, 1)) (hq : post z F) : Wq p l e R s m args below meth c (vx_MQ below (QI w post) (XW w X) args s 1 6 (Aw w)) w k n nL pc lv [.int (iI z)] F :=
  fun H locs ls hH hS hl => W.widen (k := 1) (n := 6) hk.1 hk.2 (vx_ret (q_iret C d hq H locs ls hH hS hl))
/-- a method with a table that catches all: it returns -/
def ConW (l : Launch) (y : MethodName) (cc : ByteArray) (maxL : Nat) (ret : Option FieldType) (hh : List (Nat × Nat × Nat × Nat)) (h : Nat) (w : WP) (av : List Value) (F : FF) (Qc : Array Value → State → Outcome → State → Prop) : Prop :=
  Met l y (.codeWith y cc maxL ret hh :: WG) (rmx h) (PcW w av F) Qc 1 6 (Aw w)
theorem ConW.mk {l : Launch} {y : MethodName} {cc : ByteArray} {maxL : Nat} {ret : Option FieldType} {hh : List (Nat × Nat × Nat × Nat)} {h : Nat} {w : WP} {av : List Value} {F : FF} {Qc : Array Value → State → Outcome → State → Prop} {lv : List (Nat × Value)} (hy : plainName y.cls = true) (hn : (lg_sl av).length ≤ maxL) (hlv : lv_args 0 av = lv)
    (body : ∀ p e s m below meth c, Cx p s m av.toArray meth c cc y.cls ret maxL w → c.exceptionTable.toList = tableOf hh → (∀ (k : Nat) (j : Int), ¬ (0 ≤ j ∧ j < ln k) → F k j = 0) → Wq p l e (rmx h) s m av.toArray below meth c (MQ below Qc av.toArray s 1 6 (Aw w)) w 0 0 maxL 0 lv [] F) : ConW l y cc maxL ret hh h w av F Qc := by
  refine va_MetW (cc := cc) (maxL := maxL) (ret := ret) (hh := hh) hy rfl ?_
  intro p e s m args below meth c s₁ B hml hv
  obtain ⟨rfl, hH, hOK⟩ := hv
  have hts := atoms_spec (ws := Cond.codeWith y cc maxL ret hh :: WG) B.pre
  have C : Cx p s m av.toArray meth c cc y.cls ret maxL w := ⟨B.exec, B.bytes, hml, findClass_of_methodNamed B.named, fun x hx => hts x (List.mem_cons_of_mem _ hx), B.returns, B.notSynchronized, hOK⟩
  have ht : c.exceptionTable.toList = tableOf hh := vx_table (x := y) B (hts _ List.mem_cons_self)
  have hl := lv_entry av (n := maxL) hn
  rw [lg_entry_eq]
  rw [hlv] at hl
  exact body p e s m below meth c C ht hH.2 s.heap [] _ hH va_S.rf hl
def RunX (p : Program) (l : Launch) (e : Env) (R : Room) (s : State) (m : MethodId) (args : Array Value) (below : List Frame) (meth : Method) (c : Code) (w : WP) (k n nL pc : Nat) (lv : List (Nat × Value)) (st0 rest : List Value) (F : FF) (Qa : State → Outcome → State → Prop) (X : String → FF → Prop) : Prop :=
  ∀ (H : Heap) (locs : List Loc) (ls : Array Slot), HR w F H → va_S (Aw w) s.heap H locs → lv_has ls nL lv → vx_Run p l e R s m args below meth c H locs k n 1 6 (F0 m pc ls st0) rest Qa (XW w X) (Aw w)
theorem q_runX (C : Cx p s m args meth c cc own ret nL w) {y : MethodName} {cc' : ByteArray} {nA maxL' h idx b ci N : Nat} {ret' : Option FieldType} {As rest st0 : List Value} {T : u_T} {Cn : String} {Qc : Array Value → State → Outcome → State → Prop} {X : String → FF → Prop} (hc : ConX l y cc' maxL' ret' h w (.ref (adr w b) :: As) F Qc X) (hb : kd b = ci) (hci : ci < 5) (hcl : vwCl[ci]? = some (Cn, T, N))
    (hwc : Cond.code y cc' maxL' ret' ∈ WG) (hwi : Cond.instanceMethod y ∈ WG) (hws : Cond.selects Cn y y ∈ WG) (hw0 : Cond.initialized y.cls ∈ WG) (hlink : Cond.methodLink own idx y ∈ WG) (hd : y.cls ≠ "java/lang/invoke/MethodHandle" ∧ y.cls ≠ "java/lang/invoke/VarHandle" ∧ (parseMethodDescriptor y.desc).map (fun d => d.parameters.length) = some nA) (hlen : As.length = nA) (hr : (decide (h + 1 ≤ R.frames) && decide (8 + (maxL' + 11) + 32 * h ≤ R.locals)) = true)
    (hk : k + 1 ≤ R.cells ∧ n + 6 ≤ R.slots) (hst : st0 = As.reverse ++ .ref (adr w b) :: rest) (hcat : (rest.map fun v => v.category).sum ≤ 8) (d : decode cc pc = .ok (.invokevirtual idx, 3)) : RunX p l e R s m args below meth c w k n nL pc lv st0 rest F (Qc (Value.ref (adr w b) :: As).toArray) X := by
  intro H locs ls hH hS hl
  have W := C.2.2.2.2.1
  simp only [Bool.and_eq_true, decide_eq_true_eq] at hr
  refine vx_runV (Ts := WG) ⟨C.1, C.2.1, C.2.2.1, C.2.2.2.1, W⟩ hc ⟨⟨rfl, rfl, hr.1, hr.2, pay_in W (WG_good hwc), List.mem_cons_self, W _ hwc, W _ hw0, ⟨hd.1, hd.2.1⟩, fun sig h => ?_, W _ hlink⟩, W _ hwi, W _ hws⟩
    ⟨pre_blind, va_recv C.2.2.2.2.2.2.2.1 hH.1 hcl (by rw [wsW_get (kd_lt hb (by omega)), cellE_o hb hci]), fun U hU hW => ⟨rfl, by rw [hU]; exact hH, okU C.2.2.2.2.2.2.2 hS hU hW⟩⟩ rfl hlen hl.1 hst (lv_room hcat) d ⟨hk.1, hk.2⟩
  have h2 := hd.2.2
  rw [h] at h2
  exact (Option.some.inj h2).symm
/-- a row of the table takes E: the rows ahead of it name other classes -/
def Caught (hh : List (Nat × Nat × Nat × Nat)) (pc : Nat) (E : String) (hpc : Nat) : Prop :=
  ∃ (pre suf : List (Nat × Nat × Nat × Nat)) (x : Nat × Nat × Nat × Nat), hh = pre ++ x :: suf ∧ x.2.2.1 = hpc ∧ (x.1 ≤ pc ∧ pc < x.2.1) ∧ x.2.2.2 ≠ 0 ∧ Cond.classLink "MagnetPoemsLaw" x.2.2.2 E ∈ WG ∧ Cond.castable E E ∈ NWL ∧ E ∈ ECL ∧ ∀ z ∈ pre, z.2.2.2 ≠ 0 ∧ ∃ nm, Cond.classLink "MagnetPoemsLaw" z.2.2.2 nm ∈ WG ∧ nm ∈ ECL ∧ E ≠ nm
theorem q_cIX (C : Cx p s m args meth c cc "MagnetPoemsLaw" ret nL w) {hh : List (Nat × Nat × Nat × Nat)} (htab : c.exceptionTable.toList = tableOf hh) {st0 rest : List Value} {post : Int → FF → Prop} {X : String → FF → Prop} {a : Array Value} (hr : RunX p l e R s m args below meth c w k n nL pc lv st0 rest F (QI w post a) X)
    (kk : ∀ (z : Int) (F' : FF), post z F' → Wq p l e R s m args below meth c Qf w (k + 1) (n + 6) nL (pc + 3) lv (.int (iI z) :: rest) F')
    (kx : ∀ (E : String) (F' : FF) (q9 : Nat), X E F' → ∃ hpc, Caught hh pc E hpc ∧ Wq p l e R s m args below meth c Qf w (k + 1) (n + 6) nL hpc lv [.ref q9] F') : Wq p l e R s m args below meth c Qf w k n nL pc lv st0 F := by
  intro H locs ls hH hS hl
  refine vx_calli (hr H locs ls hH hS hl) hS (fun _ _ h => h) (fun _ h => h) (fun _ _ h => h) (fun E ce q9 u t H1 locs1 ht hvm hp hB hz1 hk1 hS1 hce hcv hcl => ?_) (fun r u t H1 locs1 ht hvm hp hB hz1 hk1 hS1 => ?_)
  · obtain ⟨hX, hH1⟩ := hB
    obtain ⟨hpc, ⟨pre, suf, x, e1, e2, e3, e4, e5, e6, e7, e8⟩, K⟩ := kx E u q9 hX
    have W := C.2.2.2.2.1
    have hO := C.2.2.2.2.2.2.2
    have hsp : c.exceptionTable.toList = tableOf pre ++ (⟨x.1, x.2.1, x.2.2.1, x.2.2.2⟩ : ExceptionTableEntry) :: tableOf suf := by
      rw [htab, e1]
      show (pre ++ x :: suf).map _ = _
      rw [List.map_append, List.map_cons]; rfl
    refine vx_catch (own := "MagnetPoemsLaw") (name := E) C.2.2.2.1 (tableOf pre) ⟨x.1, x.2.1, x.2.2.1, x.2.2.2⟩ (tableOf suf) hsp (fun z hz => ?_) ?_ e4 (W _ e5) (va_Nw.use rfl (hO.2.2.2.1 _ e6)) hce hcv hcl ?_
    · obtain ⟨z0, hz0, rfl⟩ := List.mem_map.mp hz
      obtain ⟨g1, nm, g2, g3, g4⟩ := e8 z0 hz0
      exact Or.inr ⟨g1, nm, W _ g2, hO.2.2.2.2.2.1 E e7 nm g3 g4⟩
    · simp [covers, e3.1, e3.2]
    · have := K H1 locs1 ls (by rw [← ht]; exact hH1) hS1 hl
      rw [← e2] at this
      exact this
  · obtain ⟨z, rfl, hz⟩ := hp
    exact kk z u hz H1 locs1 ls (by rw [← ht]; exact hB) hS1 hl
/-- the ends of a method with a table -/
theorem q_wiret (C : Cx p s m args meth c cc own (some .int) nL w) {post : Int → FF → Prop} {z : Int} (hk : k ≤ 1 ∧ n ≤ 6) (d : decode cc pc = .ok (.ireturn, 1)) (hq : post z F) : Wq p l e R s m args below meth c (MQ below (QI w post) args s 1 6 (Aw w)) w k n nL pc lv [.int (iI z)] F :=
  fun H locs ls hH hS hl => W.widen (k := 1) (n := 6) hk.1 hk.2 (q_iret C d hq H locs ls hH hS hl)
/-- a static call of a method with a table -/
theorem q_runW (C : Cx p s m args meth c cc own ret nL w) {y : MethodName} {cc' : ByteArray} {nA maxL' h idx : Nat} {ret' : Option FieldType} {hh : List (Nat × Nat × Nat × Nat)} {As rest st0 : List Value} {Qc : Array Value → State → Outcome → State → Prop} (hc : ConW l y cc' maxL' ret' hh h w As F Qc)
    (hwc : Cond.codeWith y cc' maxL' ret' hh ∈ WG) (hws : Cond.static y ∈ WG) (hw0 : Cond.initialized y.cls ∈ WG) (hlink : Cond.methodLink own idx y ∈ WG) (hd : y.cls ≠ "java/lang/invoke/MethodHandle" ∧ y.cls ≠ "java/lang/invoke/VarHandle" ∧ (parseMethodDescriptor y.desc).map (fun d => d.parameters.length) = some nA) (hlen : As.length = nA) (hr : (decide (h + 1 ≤ R.frames) && decide (8 + (maxL' + 11) + 32 * h ≤ R.locals)) = true)
    (hk : k + 1 ≤ R.cells ∧ n + 6 ≤ R.slots) (hst : st0 = As.reverse ++ rest) (hcat : (rest.map fun v => v.category).sum ≤ 8) (d : decode cc pc = .ok (.invokestatic idx, 3)) :
    ∀ (H : Heap) (locs : List Loc) (ls : Array Slot), HR w F H → va_S (Aw w) s.heap H locs → lv_has ls nL lv → va_Run p l e R s m args below meth c H locs k n 1 6 (F0 m pc ls st0) rest (Qc As.toArray) (Aw w) := by
  intro H locs ls hH hS hl
  have W := C.2.2.2.2.1
  simp only [Bool.and_eq_true, decide_eq_true_eq] at hr
  refine vx_runSW (Ts := WG) ⟨C.1, C.2.1, C.2.2.1, C.2.2.2.1, W⟩ hc ⟨⟨rfl, rfl, hr.1, hr.2, pay_in W (WG_good hwc), List.mem_cons_self⟩, W _ hwc, W _ hw0, ⟨hd.1, hd.2.1⟩, fun sig h => ?_, W _ hlink, W _ hws⟩
    ⟨pre_blind, fun U hU hW => ⟨rfl, by rw [hU]; exact hH, okU C.2.2.2.2.2.2.2 hS hU hW⟩⟩ rfl hlen hl.1 hst (lv_room hcat) d ⟨hk.1, hk.2⟩
  have h2 := hd.2.2
  rw [h] at h2
  exact (Option.some.inj h2).symm
theorem q_cW {st0 rest : List Value} {post : Int → FF → Prop} {a : Array Value} (hr : ∀ (H : Heap) (locs : List Loc) (ls : Array Slot), HR w F H → va_S (Aw w) s.heap H locs → lv_has ls nL lv → va_Run p l e R s m args below meth c H locs k n 1 6 (F0 m pc ls st0) rest (QI w post a) (Aw w)) (kk : ∀ (z : Int) (F' : FF), post z F' → Wq p l e R s m args below meth c Qf w (k + 1) (n + 6) nL (pc + 3) lv (.int (iI z) :: rest) F') : Wq p l e R s m args below meth c Qf w k n nL pc lv st0 F := by
  intro H locs ls hH hS hl
  refine va_calli (hr H locs ls hH hS hl) hS (fun _ _ h => h) (fun _ h => h) (fun r u t H1 locs1 ht hvm hp hB hz1 hk1 hS1 => ?_)
  obtain ⟨z, rfl, hz⟩ := hp
  exact kk z u hz H1 locs1 ls (by rw [← ht]; exact hB) hS1 hl
end QX
