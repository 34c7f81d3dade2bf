/-! QL 2: the method's facts, the step predicate, rules without the heap -/
def tysW (w : WP) : List (ClassId × FieldType) := [(w.2.1.1, .int), (w.2.1.2.1, .boolean), (w.2.1.2.2, .object RX0)]
def NWL : List Cond := [
  (Cond.methodLinkNest "MagnetPoems$Board" 39 yX3_fillRow "MagnetPoems"),
  (Cond.methodLinkNest "MagnetPoems$Board" 43 yX3_setCell "MagnetPoems"),
  (Cond.fieldLinkNest "MagnetPoems" 157 "MagnetPoems$Board" "nights" "I" "MagnetPoems"),
  (Cond.fieldLinkNest "MagnetPoems" 298 "MagnetPoems$Board" "stolen" "I" "MagnetPoems"),
  (Cond.fieldLinkNest "MagnetPoems" 88 "MagnetPoems$Board" "shown" "I" "MagnetPoems"),
  (Cond.fieldLinkNest "MagnetPoems" 80 "MagnetPoems$Board" "refused" "I" "MagnetPoems"),
  (Cond.fieldLinkNest "MagnetPoems" 223 "MagnetPoems$History" "size" "I" "MagnetPoems"),
  (Cond.methodLinkNest "MagnetPoems" 40 yX2_init "MagnetPoems"),
  (Cond.castable "java/lang/IndexOutOfBoundsException" "java/lang/IndexOutOfBoundsException"),
  (Cond.declares ⟨"java/lang/RuntimeException", "<init>", "()V"⟩),
  (Cond.declares ⟨"java/lang/RuntimeException", "<init>", "(Ljava/lang/String;)V"⟩),
  (Cond.declares ⟨"java/lang/Exception", "<init>", "()V"⟩),
  (Cond.declares ⟨"java/lang/Exception", "<init>", "(Ljava/lang/String;)V"⟩),
  (Cond.declares ⟨"java/lang/Throwable", "<init>", "()V"⟩),
  (Cond.declares ⟨"java/lang/Throwable", "<init>", "(Ljava/lang/String;)V"⟩),
  (Cond.castable "java/lang/IllegalArgumentException" "java/lang/IllegalArgumentException"),
  (Cond.methodLinkNest "MagnetPoems$Board" 64 yX3_cell "MagnetPoems"),
  (Cond.methodLinkNest "MagnetPoems$Board" 101 yX3_kindOf "MagnetPoems"),
  (Cond.methodLinkNest "MagnetPoems$Board" 108 yX3_endingOf "MagnetPoems"),
  (Cond.methodLinkNest "MagnetPoems$Board" 94 yX3_beatsOf "MagnetPoems"),
  (Cond.methodLinkNest "MagnetPoems$Board" 150 yX3_lineCode "MagnetPoems"),
  (Cond.methodLinkNest "MagnetPoems$Board" 72 yX3_lineNumber "MagnetPoems"),
  (Cond.methodLinkNest "MagnetPoems$Board" 104 yX3_clash "MagnetPoems"),
  (Cond.methodLinkNest "MagnetPoems$Board" 47 yX3_copyRow "MagnetPoems"),
  (Cond.castable "java/lang/IllegalStateException" "java/lang/IllegalStateException")]
def HR (w : WP) (F : FF) (H : Heap) : Prop := va_P w.1 vwCl (wsW w F) H ∧ ∀ (k : Nat) (j : Int), ¬ (0 ≤ j ∧ j < ln k) → F k j = 0
def OK (w : WP) (U : State) : Prop :=
  va_K w.1 vwCl (tysW w) U ∧ (∀ i j, i < nP w → j < nP w → adr w i = adr w j → i = j) ∧ (∀ i, i < nP w → Aw w (adr w i)) ∧ (∀ x ∈ NWL, va_Nw x U) ∧ (∀ q, U.heap.size ≤ q → Aw w q)
def isNest : Cond → Bool
  | .methodLinkNest .. => true
  | .fieldLinkNest .. => true
  | .declares _ => true
  | .castable .. => true
  | _ => false
theorem nest_warm {s U : State} (hW : s.WarmedH U.vm) {x : Cond} (hx : isNest x = true) (h : va_Nw x s) : va_Nw x U := by
  cases x <;> first | (simp [isNest] at hx; done) | exact va_Nw.warmM hW h | exact va_Nw.warmF hW h | exact va_Nw.warmD hW h | exact va_Nw.warmC hW h
theorem NWL_nest : ∀ x ∈ NWL, isNest x = true := by
  have h : NWL.all isNest = true := rfl
  exact fun x hx => List.all_eq_true.mp h x hx
theorem OK.warm {w : WP} {s U : State} (hW : s.WarmedH U.vm) (hz : s.heap.size ≤ U.heap.size) (h : OK w s) : OK w U := by
  obtain ⟨h1, h2, h3, h4, h5⟩ := h
  exact ⟨va_K.moved hW.alike h1, h2, h3, fun x hx => nest_warm hW (NWL_nest x hx) (h4 x hx), fun q hq => h5 q (Nat.le_trans hz hq)⟩
/-- the room of a method of height h -/
def rmh (h : Nat) : Room := { frames := h, cells := 0, slots := 0, locals := 32 * h }
def rmG (h kc ns : Nat) : Room := { frames := h, cells := kc, slots := ns, locals := 32 * h }
abbrev PcW (w : WP) (av : List Value) (F : FF) : Array Value → State → Prop := va_Pc av (fun U => HR w F U.heap ∧ OK w U)
abbrev BW (w : WP) : FF → State → Prop := fun F' t => HR w F' t.heap
abbrev QI (w : WP) (post : Int → FF → Prop) : Array Value → State → Outcome → State → Prop := va_Qi (S := FF) (fun r F' => ∃ z : Int, r = iI z ∧ post z F') (BW w) (Aw w)
abbrev QV (w : WP) (post : FF → Prop) : Array Value → State → Outcome → State → Prop := va_Qv (S := FF) post (BW w) (Aw w)
abbrev QL (w : WP) (post : Int → FF → Prop) : Array Value → State → Outcome → State → Prop := va_Ql (S := FF) (fun r F' => ∃ z : Int, r = iL z ∧ post z F') (BW w) (Aw w)
abbrev QD (w : WP) (post : UInt64 → FF → Prop) : Array Value → State → Outcome → State → Prop := va_Qd (S := FF) post (BW w) (Aw w)
abbrev QQ (w : WP) (post : Option Nat → FF → Prop) : Array Value → State → Outcome → State → Prop := va_Qq (S := FF) (fun r F' => ∃ z : Option Nat, r = z.map (adr w) ∧ post z F') (BW w) (Aw w)
/-- the contract of a method that returns -/
def Con (l : Launch) (y : MethodName) (cc : ByteArray) (maxL : Nat) (ret : Option FieldType) (h : Nat) (w : WP) (av : List Value) (F : FF) (Qc : Array Value → State → Outcome → State → Prop) : Prop :=
  Met l y (.code y cc maxL ret :: WG) (rmh h) (PcW w av F) Qc 0 0 (Aw w)
/-- what a method's body stands on -/
def Cx (p : Program) (s : State) (m : MethodId) (args : Array Value) (meth : Method) (c : Code) (cc : ByteArray) (own : String) (ret : Option FieldType) (nL : Nat) (w : WP) : Prop :=
  p.tables.exec = Jvm.exec ∧ c.code = cc ∧ c.maxLocals = nL ∧ s.vm.findClass own = some m.cls ∧ (∀ x ∈ WG, x.before args s = true) ∧ meth.sig.returnType = ret ∧ meth.locks = false ∧ OK w s
/-- the machine, at pc with these locals, this stack and these cells, comes to Qf -/
def Wq (p : Program) (l : Launch) (e : Env) (R : Room) (s : State) (m : MethodId) (args : Array Value) (below : List Frame) (meth : Method) (c : Code) (Qf : State → Prop) (w : WP) (k n nL : Nat) (pc : Nat) (lv : List (Nat × Value)) (st : List Value) (F : FF) : Prop :=
  ∀ (H : Heap) (locs : List Loc) (ls : Array Slot), HR w F H → va_S (Aw w) s.heap H locs → lv_has ls nL lv → W p l e R s m args below meth c H locs k n Qf (F0 m pc ls st)
theorem pre_blind {w : WP} {av : List Value} {F : FF} : FrameBlind (PcW w av F) := by
  intro a U g mk q
  obtain ⟨h1, h2, h3⟩ := q
  exact ⟨h1, h2, OK.warm (s := U) (U := U.calling g mk a) (State.WarmedH.refl U) (Nat.le_refl _) h3⟩
theorem Con.mk {l : Launch} {y : MethodName} {cc : ByteArray} {maxL : Nat} {ret : Option FieldType} {h : Nat} {w : WP} {av : List Value} {F : FF} {Qc : Array Value → State → Outcome → State → Prop} {lv : List (Nat × Value)} (hy : plainName y.cls = true) (hn : (lg_sl av).length ≤ maxL) (hlv : lv_args 0 av = lv)
    (body : ∀ p e s m below meth c, Cx p s m av.toArray meth c cc y.cls ret maxL w → (∀ (k : Nat) (j : Int), ¬ (0 ≤ j ∧ j < ln k) → F k j = 0) → Wq p l e (rmh h) s m av.toArray below meth c (MQ below Qc av.toArray s 0 0 (Aw w)) w 0 0 maxL 0 lv [] F) : Con l y cc maxL ret h w av F Qc := by
  refine Met.ofW (cc := cc) (maxL := maxL) (ret := ret) hy rfl ?_
  intro p e s m args below meth c s₁ B hml hv
  obtain ⟨rfl, hH, hOK⟩ := hv
  have hts := atoms_spec (ws := Cond.code y cc maxL ret :: WG) B.pre
  have C : Cx p s m av.toArray meth c cc y.cls ret maxL w := ⟨B.exec, B.bytes, hml, findClass_of_methodNamed B.named, fun x hx => hts x (List.mem_cons_of_mem _ hx), B.returns, B.notSynchronized, hOK⟩
  have hl := lv_entry av (n := maxL) hn
  rw [lg_entry_eq]
  rw [hlv] at hl
  exact body p e s m below meth c C hH.2 s.heap [] _ hH va_S.rf hl
section QR
variable {p : Program} {l : Launch} {e : Env} {R : Room} {s : State} {m : MethodId} {args : Array Value} {below : List Frame} {meth : Method} {c : Code} {Qf : State → Prop} {w : WP} {k n nL pc : Nat} {lv lv' : List (Nat × Value)} {st : List Value} {F : FF} {cc : ByteArray} {own : String} {ret : Option FieldType}
theorem q_zr (kk : (∀ (k : Nat) (j : Int), ¬ (0 ≤ j ∧ j < ln k) → F k j = 0) → Wq p l e R s m args below meth c Qf w k n nL pc lv st F) : Wq p l e R s m args below meth c Qf w k n nL pc lv st F :=
  fun H locs ls hH hS hl => kk hH.2 H locs ls hH hS hl
theorem q_lv (ks : List Nat) (h : lv_pick lv ks = lv') (kk : Wq p l e R s m args below meth c Qf w k n nL pc lv' st F) : Wq p l e R s m args below meth c Qf w k n nL pc lv st F :=
  fun H locs ls hH hS hl => kk H locs ls hH hS (lv_sub hl ks h)
theorem q_iconst (C : Cx p s m args meth c cc own ret nL w) (z : Int) (d : decode cc pc = .ok (.iconst z, 1)) (kk : Wq p l e R s m args below meth c Qf w k n nL (pc + 1) lv (.int (iI z) :: st) F) : Wq p l e R s m args below meth c Qf w k n nL pc lv st F :=
  fun H locs ls hH hS hl => lv_iconst C.1 C.2.1 d rfl (kk H locs ls hH hS hl)
theorem q_bipush (C : Cx p s m args meth c cc own ret nL w) (z : Int) (d : decode cc pc = .ok (.bipush z, 2)) (hz : (Int8.ofInt z).toInt32 = iI z) (kk : Wq p l e R s m args below meth c Qf w k n nL (pc + 2) lv (.int (iI z) :: st) F) : Wq p l e R s m args below meth c Qf w k n nL pc lv st F :=
  fun H locs ls hH hS hl => lv_bipush C.1 C.2.1 d hz (kk H locs ls hH hS hl)
theorem q_sipush (C : Cx p s m args meth c cc own ret nL w) (z : Int) (d : decode cc pc = .ok (.sipush z, 3)) (hz : (Int16.ofInt z).toInt32 = iI z) (kk : Wq p l e R s m args below meth c Qf w k n nL (pc + 3) lv (.int (iI z) :: st) F) : Wq p l e R s m args below meth c Qf w k n nL pc lv st F :=
  fun H locs ls hH hS hl => lv_sipush C.1 C.2.1 d hz (kk H locs ls hH hS hl)
theorem q_iload_n (C : Cx p s m args meth c cc own ret nL w) (j : Nat) {i : Fin 4} {z : Int32} (d : decode cc pc = .ok (.iload_n i, 1)) (hv : lv[j]? = some ((i : Nat), .int z)) (kk : Wq p l e R s m args below meth c Qf w k n nL (pc + 1) lv (.int z :: st) F) : Wq p l e R s m args below meth c Qf w k n nL pc lv st F :=
  fun H locs ls hH hS hl => lv_iload_n C.1 C.2.1 d rfl (lv_at hl j hv) (kk H locs ls hH hS hl)
theorem q_iload (C : Cx p s m args meth c cc own ret nL w) (j : Nat) {i : Nat} {z : Int32} (d : decode cc pc = .ok (.iload i, 2)) (hv : lv[j]? = some (i, .int z)) (kk : Wq p l e R s m args below meth c Qf w k n nL (pc + 2) lv (.int z :: st) F) : Wq p l e R s m args below meth c Qf w k n nL pc lv st F :=
  fun H locs ls hH hS hl => lv_iload C.1 C.2.1 d (lv_at hl j hv) (kk H locs ls hH hS hl)
theorem q_lload_n (C : Cx p s m args meth c cc own ret nL w) (j : Nat) {i : Fin 4} {z : Int64} (d : decode cc pc = .ok (.lload_n i, 1)) (hv : lv[j]? = some ((i : Nat), .long z)) (kk : Wq p l e R s m args below meth c Qf w k n nL (pc + 1) lv (.long z :: st) F) : Wq p l e R s m args below meth c Qf w k n nL pc lv st F :=
  fun H locs ls hH hS hl => lv_lload_n C.1 C.2.1 d rfl (lv_at hl j hv) (kk H locs ls hH hS hl)
theorem q_lload (C : Cx p s m args meth c cc own ret nL w) (j : Nat) {i : Nat} {z : Int64} (d : decode cc pc = .ok (.lload i, 2)) (hv : lv[j]? = some (i, .long z)) (kk : Wq p l e R s m args below meth c Qf w k n nL (pc + 2) lv (.long z :: st) F) : Wq p l e R s m args below meth c Qf w k n nL pc lv st F :=
  fun H locs ls hH hS hl => lv_lload C.1 C.2.1 d (lv_at hl j hv) (kk H locs ls hH hS hl)
theorem q_dload_n (C : Cx p s m args meth c cc own ret nL w) (j : Nat) {i : Fin 4} {z : UInt64} (d : decode cc pc = .ok (.dload_n i, 1)) (hv : lv[j]? = some ((i : Nat), .double z)) (kk : Wq p l e R s m args below meth c Qf w k n nL (pc + 1) lv (.double z :: st) F) : Wq p l e R s m args below meth c Qf w k n nL pc lv st F :=
  fun H locs ls hH hS hl => lv_dload_n C.1 C.2.1 d rfl (lv_at hl j hv) (kk H locs ls hH hS hl)
theorem q_dload (C : Cx p s m args meth c cc own ret nL w) (j : Nat) {i : Nat} {z : UInt64} (d : decode cc pc = .ok (.dload i, 2)) (hv : lv[j]? = some (i, .double z)) (kk : Wq p l e R s m args below meth c Qf w k n nL (pc + 2) lv (.double z :: st) F) : Wq p l e R s m args below meth c Qf w k n nL pc lv st F :=
  fun H locs ls hH hS hl => lv_dload C.1 C.2.1 d (lv_at hl j hv) (kk H locs ls hH hS hl)
theorem q_aload_n (C : Cx p s m args meth c cc own ret nL w) (j : Nat) {i : Fin 4} {a : Nat} (d : decode cc pc = .ok (.aload_n i, 1)) (hv : lv[j]? = some ((i : Nat), .ref a)) (kk : Wq p l e R s m args below meth c Qf w k n nL (pc + 1) lv (.ref a :: st) F) : Wq p l e R s m args below meth c Qf w k n nL pc lv st F :=
  fun H locs ls hH hS hl => lv_aload_n C.1 C.2.1 d rfl (lv_at hl j hv) (kk H locs ls hH hS hl)
theorem q_aload (C : Cx p s m args meth c cc own ret nL w) (j : Nat) {i : Nat} {a : Nat} (d : decode cc pc = .ok (.aload i, 2)) (hv : lv[j]? = some (i, .ref a)) (kk : Wq p l e R s m args below meth c Qf w k n nL (pc + 2) lv (.ref a :: st) F) : Wq p l e R s m args below meth c Qf w k n nL pc lv st F :=
  fun H locs ls hH hS hl => lv_aload C.1 C.2.1 d (lv_at hl j hv) (kk H locs ls hH hS hl)
theorem q_istore_n (C : Cx p s m args meth c cc own ret nL w) {i : Fin 4} {z : Int32} (d : decode cc pc = .ok (.istore_n i, 1)) (hn : (i : Nat) < nL) (hl' : ((i : Nat), Value.int z) :: lv.filter (fun q => !(q.1 == (i : Nat)) && !(q.1 + 1 == (i : Nat) && q.2.category == 2)) = lv') (kk : Wq p l e R s m args below meth c Qf w k n nL (pc + 1) lv' st F) : Wq p l e R s m args below meth c Qf w k n nL pc lv (.int z :: st) F :=
  fun H locs ls hH hS hl => lv_istore_n C.1 C.2.1 d rfl hl hn hl' (fun ls' hl2 => kk H locs ls' hH hS hl2)
theorem q_istore (C : Cx p s m args meth c cc own ret nL w) {i : Nat} {z : Int32} (d : decode cc pc = .ok (.istore i, 2)) (hn : i < nL) (hl' : (i, Value.int z) :: lv.filter (fun q => !(q.1 == i) && !(q.1 + 1 == i && q.2.category == 2)) = lv') (kk : Wq p l e R s m args below meth c Qf w k n nL (pc + 2) lv' st F) : Wq p l e R s m args below meth c Qf w k n nL pc lv (.int z :: st) F :=
  fun H locs ls hH hS hl => lv_istore C.1 C.2.1 d hl hn hl' (fun ls' hl2 => kk H locs ls' hH hS hl2)
theorem q_astore_n (C : Cx p s m args meth c cc own ret nL w) {i : Fin 4} {a : Nat} (d : decode cc pc = .ok (.astore_n i, 1)) (hn : (i : Nat) < nL) (hl' : ((i : Nat), Value.ref a) :: lv.filter (fun q => !(q.1 == (i : Nat)) && !(q.1 + 1 == (i : Nat) && q.2.category == 2)) = lv') (kk : Wq p l e R s m args below meth c Qf w k n nL (pc + 1) lv' st F) : Wq p l e R s m args below meth c Qf w k n nL pc lv (.ref a :: st) F :=
  fun H locs ls hH hS hl => lv_astore_n C.1 C.2.1 d rfl hl hn hl' (fun ls' hl2 => kk H locs ls' hH hS hl2)
theorem q_astore (C : Cx p s m args meth c cc own ret nL w) {i : Nat} {a : Nat} (d : decode cc pc = .ok (.astore i, 2)) (hn : i < nL) (hl' : (i, Value.ref a) :: lv.filter (fun q => !(q.1 == i) && !(q.1 + 1 == i && q.2.category == 2)) = lv') (kk : Wq p l e R s m args below meth c Qf w k n nL (pc + 2) lv' st F) : Wq p l e R s m args below meth c Qf w k n nL pc lv (.ref a :: st) F :=
  fun H locs ls hH hS hl => lv_astore C.1 C.2.1 d hl hn hl' (fun ls' hl2 => kk H locs ls' hH hS hl2)
theorem q_lstore_n (C : Cx p s m args meth c cc own ret nL w) {i : Fin 4} {z : Int64} (d : decode cc pc = .ok (.lstore_n i, 1)) (hn : (i : Nat) + 1 < nL) (hl' : ((i : Nat), Value.long z) :: lv.filter (fun q => !(q.1 == (i : Nat)) && (!(q.1 == (i : Nat) + 1) && !(q.1 + 1 == (i : Nat) && q.2.category == 2))) = lv') (kk : Wq p l e R s m args below meth c Qf w k n nL (pc + 1) lv' st F) : Wq p l e R s m args below meth c Qf w k n nL pc lv (.long z :: st) F :=
  fun H locs ls hH hS hl => lv_lstore_n C.1 C.2.1 d rfl hl hn hl' (fun ls' hl2 => kk H locs ls' hH hS hl2)
theorem q_lstore (C : Cx p s m args meth c cc own ret nL w) {i : Nat} {z : Int64} (d : decode cc pc = .ok (.lstore i, 2)) (hn : i + 1 < nL) (hl' : (i, Value.long z) :: lv.filter (fun q => !(q.1 == i) && (!(q.1 == i + 1) && !(q.1 + 1 == i && q.2.category == 2))) = lv') (kk : Wq p l e R s m args below meth c Qf w k n nL (pc + 2) lv' st F) : Wq p l e R s m args below meth c Qf w k n nL pc lv (.long z :: st) F :=
  fun H locs ls hH hS hl => lv_lstore C.1 C.2.1 d hl hn hl' (fun ls' hl2 => kk H locs ls' hH hS hl2)
theorem q_dstore_n (C : Cx p s m args meth c cc own ret nL w) {i : Fin 4} {z : UInt64} (d : decode cc pc = .ok (.dstore_n i, 1)) (hn : (i : Nat) + 1 < nL) (hl' : ((i : Nat), Value.double z) :: lv.filter (fun q => !(q.1 == (i : Nat)) && (!(q.1 == (i : Nat) + 1) && !(q.1 + 1 == (i : Nat) && q.2.category == 2))) = lv') (kk : Wq p l e R s m args below meth c Qf w k n nL (pc + 1) lv' st F) : Wq p l e R s m args below meth c Qf w k n nL pc lv (.double z :: st) F :=
  fun H locs ls hH hS hl => lv_dstore_n C.1 C.2.1 d rfl hl hn hl' (fun ls' hl2 => kk H locs ls' hH hS hl2)
theorem q_iinc (C : Cx p s m args meth c cc own ret nL w) (j : Nat) {i : Nat} {z t : Int} (d : decode cc pc = .ok (.iinc i t, 3)) (hv : lv[j]? = some (i, .int (iI z))) (hn : i < nL) (hl' : (i, Value.int (iI (z + t))) :: lv.filter (fun q => !(q.1 == i) && !(q.1 + 1 == i && q.2.category == 2)) = lv') (kk : Wq p l e R s m args below meth c Qf w k n nL (pc + 3) lv' st F) : Wq p l e R s m args below meth c Qf w k n nL pc lv st F :=
  fun H locs ls hH hS hl => lv_iinc C.1 C.2.1 d hl hv (iI_add z t) hn hl' (fun ls' hl2 => kk H locs ls' hH hS hl2)
theorem q_iadd (C : Cx p s m args meth c cc own ret nL w) {x y : Int} (d : decode cc pc = .ok (.iadd, 1)) (kk : Wq p l e R s m args below meth c Qf w k n nL (pc + 1) lv (.int (iI (x + y)) :: st) F) : Wq p l e R s m args below meth c Qf w k n nL pc lv (.int (iI y) :: .int (iI x) :: st) F :=
  fun H locs ls hH hS hl => lv_iadd C.1 C.2.1 d (by rw [iI_add]; exact kk H locs ls hH hS hl)
theorem q_isub (C : Cx p s m args meth c cc own ret nL w) {x y : Int} (d : decode cc pc = .ok (.isub, 1)) (kk : Wq p l e R s m args below meth c Qf w k n nL (pc + 1) lv (.int (iI (x - y)) :: st) F) : Wq p l e R s m args below meth c Qf w k n nL pc lv (.int (iI y) :: .int (iI x) :: st) F :=
  fun H locs ls hH hS hl => lv_isub C.1 C.2.1 d (by rw [iI_sub]; exact kk H locs ls hH hS hl)
theorem q_imul (C : Cx p s m args meth c cc own ret nL w) {x y : Int} (d : decode cc pc = .ok (.imul, 1)) (kk : Wq p l e R s m args below meth c Qf w k n nL (pc + 1) lv (.int (iI (x * y)) :: st) F) : Wq p l e R s m args below meth c Qf w k n nL pc lv (.int (iI y) :: .int (iI x) :: st) F :=
  fun H locs ls hH hS hl => lv_imul C.1 C.2.1 d (by rw [iI_mul]; exact kk H locs ls hH hS hl)
theorem q_idiv (C : Cx p s m args meth c cc own ret nL w) {x y : Int} (d : decode cc pc = .ok (.idiv, 1)) (hx : 0 ≤ x ∧ x ≤ 2147483647) (hy : 0 < y ∧ y ≤ 2147483647) (kk : Wq p l e R s m args below meth c Qf w k n nL (pc + 1) lv (.int (iI (x / y)) :: st) F) : Wq p l e R s m args below meth c Qf w k n nL pc lv (.int (iI y) :: .int (iI x) :: st) F := by
  have rx : inR x := ⟨by omega, hx.2⟩
  have ry : inR y := ⟨by omega, hy.2⟩
  exact fun H locs ls hH hS hl => lv_idiv C.1 C.2.1 d (by rw [iI_0, iI_eq ry ⟨by omega, by omega⟩]; omega) (by rw [iI_div rx ry hx.1 hy.1]; exact kk H locs ls hH hS hl)
theorem q_irem (C : Cx p s m args meth c cc own ret nL w) {x y : Int} (d : decode cc pc = .ok (.irem, 1)) (hx : 0 ≤ x ∧ x ≤ 2147483647) (hy : 0 < y ∧ y ≤ 2147483647) (kk : Wq p l e R s m args below meth c Qf w k n nL (pc + 1) lv (.int (iI (x % y)) :: st) F) : Wq p l e R s m args below meth c Qf w k n nL pc lv (.int (iI y) :: .int (iI x) :: st) F := by
  have rx : inR x := ⟨by omega, hx.2⟩
  have ry : inR y := ⟨by omega, hy.2⟩
  exact fun H locs ls hH hS hl => lv_irem C.1 C.2.1 d (by rw [iI_0, iI_eq ry ⟨by omega, by omega⟩]; omega) (by rw [iI_rem rx ry hx.1 hy.1]; exact kk H locs ls hH hS hl)
theorem q_i2l (C : Cx p s m args meth c cc own ret nL w) {x : Int32} (d : decode cc pc = .ok (.i2l, 1)) (kk : Wq p l e R s m args below meth c Qf w k n nL (pc + 1) lv (.long (iL x.toInt) :: st) F) : Wq p l e R s m args below meth c Qf w k n nL pc lv (.int x :: st) F :=
  fun H locs ls hH hS hl => lv_i2l C.1 C.2.1 d (by rw [← Int64.ofInt_int32ToInt]; rfl) (kk H locs ls hH hS hl)
theorem q_i2lz (C : Cx p s m args meth c cc own ret nL w) {x : Int} (d : decode cc pc = .ok (.i2l, 1)) (hx : inR x) (kk : Wq p l e R s m args below meth c Qf w k n nL (pc + 1) lv (.long (iL x) :: st) F) : Wq p l e R s m args below meth c Qf w k n nL pc lv (.int (iI x) :: st) F :=
  fun H locs ls hH hS hl => lv_i2l C.1 C.2.1 d (iI_l hx) (kk H locs ls hH hS hl)
theorem q_ladd (C : Cx p s m args meth c cc own ret nL w) {x y : Int} (d : decode cc pc = .ok (.ladd, 1)) (kk : Wq p l e R s m args below meth c Qf w k n nL (pc + 1) lv (.long (iL (x + y)) :: st) F) : Wq p l e R s m args below meth c Qf w k n nL pc lv (.long (iL y) :: .long (iL x) :: st) F :=
  fun H locs ls hH hS hl => lv_ladd C.1 C.2.1 d (by rw [iL_add]; exact kk H locs ls hH hS hl)
theorem q_lsub (C : Cx p s m args meth c cc own ret nL w) {x y : Int} (d : decode cc pc = .ok (.lsub, 1)) (kk : Wq p l e R s m args below meth c Qf w k n nL (pc + 1) lv (.long (iL (x - y)) :: st) F) : Wq p l e R s m args below meth c Qf w k n nL pc lv (.long (iL y) :: .long (iL x) :: st) F :=
  fun H locs ls hH hS hl => lv_lsub C.1 C.2.1 d (by rw [iL_sub]; exact kk H locs ls hH hS hl)
theorem q_lmul (C : Cx p s m args meth c cc own ret nL w) {x y : Int} (d : decode cc pc = .ok (.lmul, 1)) (kk : Wq p l e R s m args below meth c Qf w k n nL (pc + 1) lv (.long (iL (x * y)) :: st) F) : Wq p l e R s m args below meth c Qf w k n nL pc lv (.long (iL y) :: .long (iL x) :: st) F :=
  fun H locs ls hH hS hl => lv_lmul C.1 C.2.1 d (by rw [iL_mul]; exact kk H locs ls hH hS hl)
theorem q_lconst (C : Cx p s m args meth c cc own ret nL w) {i : Fin 2} (z : Int) (hz : Int64.ofNat (i : Nat) = iL z) (d : decode cc pc = .ok (.lconst i, 1)) (kk : Wq p l e R s m args below meth c Qf w k n nL (pc + 1) lv (.long (iL z) :: st) F) : Wq p l e R s m args below meth c Qf w k n nL pc lv st F :=
  fun H locs ls hH hS hl => lv_lconst C.1 C.2.1 d hz (kk H locs ls hH hS hl)
theorem q_ldc2 (C : Cx p s m args meth c cc own ret nL w) {i : Nat} {v : Int64} (z : Int) (hz : v = iL z) (hw : Cond.constantLong own i v ∈ WG) (d : decode cc pc = .ok (.ldc2_w i, 3)) (kk : Wq p l e R s m args below meth c Qf w k n nL (pc + 3) lv (.long (iL z) :: st) F) : Wq p l e R s m args below meth c Qf w k n nL pc lv st F :=
  fun H locs ls hH hS hl => lv_ldc2 C.1 C.2.1 C.2.2.2.1 (C.2.2.2.2.1 _ hw) d (by rw [hz]; exact kk H locs ls hH hS hl)
theorem q_ldc2d (C : Cx p s m args meth c cc own ret nL w) {i : Nat} {v : UInt64} (hw : Cond.constantDouble own i v ∈ WG) (d : decode cc pc = .ok (.ldc2_w i, 3)) (kk : Wq p l e R s m args below meth c Qf w k n nL (pc + 3) lv (.double v :: st) F) : Wq p l e R s m args below meth c Qf w k n nL pc lv st F :=
  fun H locs ls hH hS hl => lv_ldc2d C.1 C.2.1 C.2.2.2.1 (C.2.2.2.2.1 _ hw) d (kk H locs ls hH hS hl)
theorem q_lcmp (C : Cx p s m args meth c cc own ret nL w) {x y : Int64} (d : decode cc pc = .ok (.lcmp, 1)) (kk : Wq p l e R s m args below meth c Qf w k n nL (pc + 1) lv (.int (lg_cmp x y) :: st) F) : Wq p l e R s m args below meth c Qf w k n nL pc lv (.long y :: .long x :: st) F :=
  fun H locs ls hH hS hl => W.lcmp C.1 C.2.1 d (kk H locs ls hH hS hl)
theorem q_dup (C : Cx p s m args meth c cc own ret nL w) {v : Value} (d : decode cc pc = .ok (.dup, 1)) (hv : v.category = 1) (kk : Wq p l e R s m args below meth c Qf w k n nL (pc + 1) lv (v :: v :: st) F) : Wq p l e R s m args below meth c Qf w k n nL pc lv (v :: st) F :=
  fun H locs ls hH hS hl => lv_dup C.1 C.2.1 d hv (kk H locs ls hH hS hl)
theorem q_dup2 (C : Cx p s m args meth c cc own ret nL w) {u v : Value} (d : decode cc pc = .ok (.dup2, 1)) (hu : u.category = 1) (hv : v.category = 1) (kk : Wq p l e R s m args below meth c Qf w k n nL (pc + 1) lv (u :: v :: u :: v :: st) F) : Wq p l e R s m args below meth c Qf w k n nL pc lv (u :: v :: st) F :=
  fun H locs ls hH hS hl => lv_dup2_11 C.1 C.2.1 d hu hv (kk H locs ls hH hS hl)
theorem q_pop (C : Cx p s m args meth c cc own ret nL w) {v : Value} (d : decode cc pc = .ok (.pop, 1)) (hv : v.category = 1) (kk : Wq p l e R s m args below meth c Qf w k n nL (pc + 1) lv st F) : Wq p l e R s m args below meth c Qf w k n nL pc lv (v :: st) F :=
  fun H locs ls hH hS hl => lv_pop C.1 C.2.1 d hv (kk H locs ls hH hS hl)
theorem q_goto (C : Cx p s m args meth c cc own ret nL w) {off : Int} (tgt : Nat) (d : decode cc pc = .ok (.goto off, 3)) (ht : (pc : Int) + off = (tgt : Int)) (kk : Wq p l e R s m args below meth c Qf w k n nL tgt lv st F) : Wq p l e R s m args below meth c Qf w k n nL pc lv st F :=
  fun H locs ls hH hS hl => lv_goto C.1 C.2.1 d ht (kk H locs ls hH hS hl)
theorem q_icmp_eq (C : Cx p s m args meth c cc own ret nL w) {x y : Int} {off : Int} (tgt : Nat) (d : decode cc pc = .ok (.if_icmp .eq off, 3)) (hx : inR x) (hy : inR y) (ht : (pc : Int) + off = (tgt : Int)) (kt : x = y → Wq p l e R s m args below meth c Qf w k n nL tgt lv st F) (kf : ¬ x = y → Wq p l e R s m args below meth c Qf w k n nL (pc + 3) lv st F) : Wq p l e R s m args below meth c Qf w k n nL pc lv (.int (iI y) :: .int (iI x) :: st) F :=
  fun H locs ls hH hS hl => lv_icmp_eq C.1 C.2.1 d ht (fun hc => kt (by rw [iI_eq hx hy] at hc; omega) H locs ls hH hS hl) (fun hc => kf (by rw [iI_eq hx hy] at hc; omega) H locs ls hH hS hl)
theorem q_icmp_ne (C : Cx p s m args meth c cc own ret nL w) {x y : Int} {off : Int} (tgt : Nat) (d : decode cc pc = .ok (.if_icmp .ne off, 3)) (hx : inR x) (hy : inR y) (ht : (pc : Int) + off = (tgt : Int)) (kt : ¬ x = y → Wq p l e R s m args below meth c Qf w k n nL tgt lv st F) (kf : x = y → Wq p l e R s m args below meth c Qf w k n nL (pc + 3) lv st F) : Wq p l e R s m args below meth c Qf w k n nL pc lv (.int (iI y) :: .int (iI x) :: st) F :=
  fun H locs ls hH hS hl => lv_icmp_ne C.1 C.2.1 d ht (fun hc => kt (by rw [iI_eq hx hy] at hc; omega) H locs ls hH hS hl) (fun hc => kf (by rw [iI_eq hx hy] at hc; omega) H locs ls hH hS hl)
theorem q_icmp_lt (C : Cx p s m args meth c cc own ret nL w) {x y : Int} {off : Int} (tgt : Nat) (d : decode cc pc = .ok (.if_icmp .lt off, 3)) (hx : inR x) (hy : inR y) (ht : (pc : Int) + off = (tgt : Int)) (kt : x < y → Wq p l e R s m args below meth c Qf w k n nL tgt lv st F) (kf : y ≤ x → Wq p l e R s m args below meth c Qf w k n nL (pc + 3) lv st F) : Wq p l e R s m args below meth c Qf w k n nL pc lv (.int (iI y) :: .int (iI x) :: st) F :=
  fun H locs ls hH hS hl => lv_icmp_lt C.1 C.2.1 d ht (fun hc => kt (by rw [iI_lt hx hy] at hc; omega) H locs ls hH hS hl) (fun hc => kf (by rw [iI_lt hx hy] at hc; omega) H locs ls hH hS hl)
theorem q_icmp_ge (C : Cx p s m args meth c cc own ret nL w) {x y : Int} {off : Int} (tgt : Nat) (d : decode cc pc = .ok (.if_icmp .ge off, 3)) (hx : inR x) (hy : inR y) (ht : (pc : Int) + off = (tgt : Int)) (kt : y ≤ x → Wq p l e R s m args below meth c Qf w k n nL tgt lv st F) (kf : x < y → Wq p l e R s m args below meth c Qf w k n nL (pc + 3) lv st F) : Wq p l e R s m args below meth c Qf w k n nL pc lv (.int (iI y) :: .int (iI x) :: st) F :=
  fun H locs ls hH hS hl => lv_icmp_ge C.1 C.2.1 d ht (fun hc => kt (by rw [iI_le hy hx] at hc; omega) H locs ls hH hS hl) (fun hc => kf (by rw [iI_le hy hx] at hc; omega) H locs ls hH hS hl)
theorem q_icmp_gt (C : Cx p s m args meth c cc own ret nL w) {x y : Int} {off : Int} (tgt : Nat) (d : decode cc pc = .ok (.if_icmp .gt off, 3)) (hx : inR x) (hy : inR y) (ht : (pc : Int) + off = (tgt : Int)) (kt : y < x → Wq p l e R s m args below meth c Qf w k n nL tgt lv st F) (kf : x ≤ y → Wq p l e R s m args below meth c Qf w k n nL (pc + 3) lv st F) : Wq p l e R s m args below meth c Qf w k n nL pc lv (.int (iI y) :: .int (iI x) :: st) F :=
  fun H locs ls hH hS hl => lv_icmp_gt C.1 C.2.1 d ht (fun hc => kt (by rw [iI_lt hy hx] at hc; omega) H locs ls hH hS hl) (fun hc => kf (by rw [iI_lt hy hx] at hc; omega) H locs ls hH hS hl)
theorem q_icmp_le (C : Cx p s m args meth c cc own ret nL w) {x y : Int} {off : Int} (tgt : Nat) (d : decode cc pc = .ok (.if_icmp .le off, 3)) (hx : inR x) (hy : inR y) (ht : (pc : Int) + off = (tgt : Int)) (kt : x ≤ y → Wq p l e R s m args below meth c Qf w k n nL tgt lv st F) (kf : y < x → Wq p l e R s m args below meth c Qf w k n nL (pc + 3) lv st F) : Wq p l e R s m args below meth c Qf w k n nL pc lv (.int (iI y) :: .int (iI x) :: st) F :=
  fun H locs ls hH hS hl => lv_icmp_le C.1 C.2.1 d ht (fun hc => kt (by rw [iI_le hx hy] at hc; omega) H locs ls hH hS hl) (fun hc => kf (by rw [iI_le hx hy] at hc; omega) H locs ls hH hS hl)
theorem q_if_eq (C : Cx p s m args meth c cc own ret nL w) {x : Int} {off : Int} (tgt : Nat) (d : decode cc pc = .ok (.ifCond .eq off, 3)) (hx : inR x) (ht : (pc : Int) + off = (tgt : Int)) (kt : x = 0 → Wq p l e R s m args below meth c Qf w k n nL tgt lv st F) (kf : ¬ x = 0 → Wq p l e R s m args below meth c Qf w k n nL (pc + 3) lv st F) : Wq p l e R s m args below meth c Qf w k n nL pc lv (.int (iI x) :: st) F :=
  fun H locs ls hH hS hl => lv_if_eq C.1 C.2.1 d ht (fun hc => kt (by rw [iI_0, iI_eq hx (show inR 0 by decide)] at hc; omega) H locs ls hH hS hl) (fun hc => kf (by rw [iI_0, iI_eq hx (show inR 0 by decide)] at hc; omega) H locs ls hH hS hl)
theorem q_if_ne (C : Cx p s m args meth c cc own ret nL w) {x : Int} {off : Int} (tgt : Nat) (d : decode cc pc = .ok (.ifCond .ne off, 3)) (hx : inR x) (ht : (pc : Int) + off = (tgt : Int)) (kt : ¬ x = 0 → Wq p l e R s m args below meth c Qf w k n nL tgt lv st F) (kf : x = 0 → Wq p l e R s m args below meth c Qf w k n nL (pc + 3) lv st F) : Wq p l e R s m args below meth c Qf w k n nL pc lv (.int (iI x) :: st) F :=
  fun H locs ls hH hS hl => lv_if_ne C.1 C.2.1 d ht (fun hc => kt (by rw [iI_0, iI_eq hx (show inR 0 by decide)] at hc; omega) H locs ls hH hS hl) (fun hc => kf (by rw [iI_0, iI_eq hx (show inR 0 by decide)] at hc; omega) H locs ls hH hS hl)
theorem q_if_lt (C : Cx p s m args meth c cc own ret nL w) {x : Int} {off : Int} (tgt : Nat) (d : decode cc pc = .ok (.ifCond .lt off, 3)) (hx : inR x) (ht : (pc : Int) + off = (tgt : Int)) (kt : x < 0 → Wq p l e R s m args below meth c Qf w k n nL tgt lv st F) (kf : 0 ≤ x → Wq p l e R s m args below meth c Qf w k n nL (pc + 3) lv st F) : Wq p l e R s m args below meth c Qf w k n nL pc lv (.int (iI x) :: st) F :=
  fun H locs ls hH hS hl => lv_if_lt C.1 C.2.1 d ht (fun hc => kt (by rw [iI_0, iI_lt hx (show inR 0 by decide)] at hc; omega) H locs ls hH hS hl) (fun hc => kf (by rw [iI_0, iI_lt hx (show inR 0 by decide)] at hc; omega) H locs ls hH hS hl)
theorem q_if_ge (C : Cx p s m args meth c cc own ret nL w) {x : Int} {off : Int} (tgt : Nat) (d : decode cc pc = .ok (.ifCond .ge off, 3)) (hx : inR x) (ht : (pc : Int) + off = (tgt : Int)) (kt : 0 ≤ x → Wq p l e R s m args below meth c Qf w k n nL tgt lv st F) (kf : x < 0 → Wq p l e R s m args below meth c Qf w k n nL (pc + 3) lv st F) : Wq p l e R s m args below meth c Qf w k n nL pc lv (.int (iI x) :: st) F :=
  fun H locs ls hH hS hl => lv_if_ge C.1 C.2.1 d ht (fun hc => kt (by rw [iI_0, iI_le (show inR 0 by decide) hx] at hc; omega) H locs ls hH hS hl) (fun hc => kf (by rw [iI_0, iI_le (show inR 0 by decide) hx] at hc; omega) H locs ls hH hS hl)
theorem q_if_gt (C : Cx p s m args meth c cc own ret nL w) {x : Int} {off : Int} (tgt : Nat) (d : decode cc pc = .ok (.ifCond .gt off, 3)) (hx : inR x) (ht : (pc : Int) + off = (tgt : Int)) (kt : 0 < x → Wq p l e R s m args below meth c Qf w k n nL tgt lv st F) (kf : x ≤ 0 → Wq p l e R s m args below meth c Qf w k n nL (pc + 3) lv st F) : Wq p l e R s m args below meth c Qf w k n nL pc lv (.int (iI x) :: st) F :=
  fun H locs ls hH hS hl => lv_if_gt C.1 C.2.1 d ht (fun hc => kt (by rw [iI_0, iI_lt (show inR 0 by decide) hx] at hc; omega) H locs ls hH hS hl) (fun hc => kf (by rw [iI_0, iI_lt (show inR 0 by decide) hx] at hc; omega) H locs ls hH hS hl)
theorem q_if_le (C : Cx p s m args meth c cc own ret nL w) {x : Int} {off : Int} (tgt : Nat) (d : decode cc pc = .ok (.ifCond .le off, 3)) (hx : inR x) (ht : (pc : Int) + off = (tgt : Int)) (kt : x ≤ 0 → Wq p l e R s m args below meth c Qf w k n nL tgt lv st F) (kf : 0 < x → Wq p l e R s m args below meth c Qf w k n nL (pc + 3) lv st F) : Wq p l e R s m args below meth c Qf w k n nL pc lv (.int (iI x) :: st) F :=
  fun H locs ls hH hS hl => lv_if_le C.1 C.2.1 d ht (fun hc => kt (by rw [iI_0, iI_le hx (show inR 0 by decide)] at hc; omega) H locs ls hH hS hl) (fun hc => kf (by rw [iI_0, iI_le hx (show inR 0 by decide)] at hc; omega) H locs ls hH hS hl)
theorem q_ifnull (C : Cx p s m args meth c cc own ret nL w) {x : Nat} {off : Int} (d : decode cc pc = .ok (.ifnull off, 3)) (kk : Wq p l e R s m args below meth c Qf w k n nL (pc + 3) lv st F) : Wq p l e R s m args below meth c Qf w k n nL pc lv (.ref x :: st) F :=
  fun H locs ls hH hS hl => lv_ifnull C.1 C.2.1 d (kk H locs ls hH hS hl)
theorem q_ifnullN (C : Cx p s m args meth c cc own ret nL w) {off : Int} (tgt : Nat) (d : decode cc pc = .ok (.ifnull off, 3)) (ht : (pc : Int) + off = (tgt : Int)) (kk : Wq p l e R s m args below meth c Qf w k n nL tgt lv st F) : Wq p l e R s m args below meth c Qf w k n nL pc lv (.null :: st) F :=
  fun H locs ls hH hS hl => lv_ifnullN C.1 C.2.1 d ht (kk H locs ls hH hS hl)
theorem q_tableIn (C : Cx p s m args meth c cc own ret nL w) {dflt lo hi : Int} {offs : Array Int} {len : Nat} {x : Int} {off : Int} (tgt : Nat) (d : decode cc pc = .ok (.tableswitch dflt lo hi offs, len)) (hx : inR x) (h1 : lo ≤ x) (h2 : x ≤ hi) (ho : offs[(x - lo).toNat]? = some off) (ht : (pc : Int) + off = (tgt : Int)) (kk : Wq p l e R s m args below meth c Qf w k n nL tgt lv st F) : Wq p l e R s m args below meth c Qf w k n nL pc lv (.int (iI x) :: st) F :=
  fun H locs ls hH hS hl => lv_tableIn C.1 C.2.1 d (by rw [iI_toInt hx]; omega) (by rw [iI_toInt hx]; omega) (by rw [iI_toInt hx]; exact ho) ht (kk H locs ls hH hS hl)
theorem q_tableOut (C : Cx p s m args meth c cc own ret nL w) {dflt lo hi : Int} {offs : Array Int} {len : Nat} {x : Int} (tgt : Nat) (d : decode cc pc = .ok (.tableswitch dflt lo hi offs, len)) (hx : inR x) (h : x < lo ∨ hi < x) (ht : (pc : Int) + dflt = (tgt : Int)) (kk : Wq p l e R s m args below meth c Qf w k n nL tgt lv st F) : Wq p l e R s m args below meth c Qf w k n nL pc lv (.int (iI x) :: st) F :=
  fun H locs ls hH hS hl => lv_tableOut C.1 C.2.1 d (by rw [iI_toInt hx]; exact h) ht (kk H locs ls hH hS hl)
/-! the ends -/
theorem q_iret (C : Cx p s m args meth c cc own (some .int) nL w) {post : Int → FF → Prop} {z : Int} (d : decode cc pc = .ok (.ireturn, 1)) (hq : post z F) : Wq p l e R s m args below meth c (MQ below (QI w post) args s k n (Aw w)) w k n nL pc lv [.int (iI z)] F :=
  fun H locs ls hH hS hl => W.iret C.1 C.2.1 C.2.2.2.2.2.1 (fun t ht hW => ⟨⟨iI z, F, rfl, ⟨z, rfl, hq⟩, by show HR w F t.heap; rw [ht]; exact hH⟩, hS.F ht⟩) hS.2.2 d C.2.2.2.2.2.2.1
theorem q_zret (C : Cx p s m args meth c cc own (some .boolean) nL w) {post : Int → FF → Prop} {z : Int} (d : decode cc pc = .ok (.ireturn, 1)) (hz : z = 0 ∨ z = 1) (hq : post z F) : Wq p l e R s m args below meth c (MQ below (QI w post) args s k n (Aw w)) w k n nL pc lv [.int (iI z)] F :=
  fun H locs ls hH hS hl => W.zret C.1 C.2.1 C.2.2.2.2.2.1 (by rcases hz with rfl | rfl <;> decide) (fun t ht hW => ⟨⟨iI z, F, rfl, ⟨z, rfl, hq⟩, by show HR w F t.heap; rw [ht]; exact hH⟩, hS.F ht⟩) hS.2.2 d C.2.2.2.2.2.2.1
theorem q_vret (C : Cx p s m args meth c cc own none nL w) {post : FF → Prop} (d : decode cc pc = .ok (.return_, 1)) (hq : post F) : Wq p l e R s m args below meth c (MQ below (QV w post) args s k n (Aw w)) w k n nL pc lv [] F :=
  fun H locs ls hH hS hl => W.vret C.1 C.2.1 C.2.2.2.2.2.1 (fun t ht hW => ⟨⟨F, rfl, hq, by show HR w F t.heap; rw [ht]; exact hH⟩, hS.F ht⟩) hS.2.2 d C.2.2.2.2.2.2.1
theorem q_lret (C : Cx p s m args meth c cc own (some .long) nL w) {post : Int → FF → Prop} {z : Int} (d : decode cc pc = .ok (.lreturn, 1)) (hq : post z F) : Wq p l e R s m args below meth c (MQ below (QL w post) args s k n (Aw w)) w k n nL pc lv [.long (iL z)] F :=
  fun H locs ls hH hS hl => W.lret C.1 C.2.1 C.2.2.2.2.2.1 (fun t ht hW => ⟨⟨iL z, F, rfl, ⟨z, rfl, hq⟩, by show HR w F t.heap; rw [ht]; exact hH⟩, hS.F ht⟩) hS.2.2 d C.2.2.2.2.2.2.1
theorem q_dret (C : Cx p s m args meth c cc own (some .double) nL w) {post : UInt64 → FF → Prop} {z : UInt64} (d : decode cc pc = .ok (.dreturn, 1)) (hq : post z F) : Wq p l e R s m args below meth c (MQ below (QD w post) args s k n (Aw w)) w k n nL pc lv [.double z] F :=
  fun H locs ls hH hS hl => W.dret C.1 C.2.1 C.2.2.2.2.2.1 (fun t ht hW => ⟨⟨z, F, rfl, hq, by show HR w F t.heap; rw [ht]; exact hH⟩, hS.F ht⟩) hS.2.2 d C.2.2.2.2.2.2.1
end QR
