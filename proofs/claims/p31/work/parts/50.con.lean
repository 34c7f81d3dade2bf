/-! the layer of making: objects and rows made one behind the other -/
def ru (r : Rw) (i z : Int) : Rw := fun j => if j = i then z else r j
def f0 (ro N : Nat) (j : Int) : Int := if 0 ≤ j ∧ j < N then (if ro = 1 then -1 else if ro = 2 then (if j = 1 then 20 else if j = 2 then 1 else 0) else if ro = 3 then (if j = 177 then 20 else if j = 178 then 1 else 0) else 0) else 0
def roL : List Nat := [0, 0,1,1,0,1,1,0,0,0,2, 0,1,1,0,1,1,0,0,0,2, 0,0, 0,1,1,0,1,1,0,0,0,2, 0,1,1,0,1,1,0,0,0,2, 0,1,1,0,1,1,0,0,0,2, 0,1,1,0,1,1,0,0,0,2, 0,1,1,0,1,1,0,0,0,2, 0,1,1,0,1,1,0,0,0,2, 0,0,0,0,0,0,0, 0,1,1,0,1,1,0,0,0,2, 0,1,1,0,1,1,0,0,0,2, 0]
def ro (k : Nat) : Nat := roL.getD k 0
def FZ : FF := fun k j => f0 (ro k) (ln k) j
theorem f0_0 (N : Nat) (j : Int) : f0 0 N j = 0 := by
  unfold f0
  rw [if_neg (show ¬ (0 : Nat) = 1 by decide), if_neg (show ¬ (0 : Nat) = 2 by decide), if_neg (show ¬ (0 : Nat) = 3 by decide)]
  split <;> rfl
def wad (w : WP) (ad : Nat → Nat) : WP := (w.1, w.2.1, ad, w.2.2.2)
def seg (w : WP) (ad : Nat → Nat) (b n : Nat) : va_W := (List.range n).map (fun i => (ad (b + i), cellE (wad w ad) FZ (b + i)))
theorem seg_add (w : WP) (ad : Nat → Nat) (b n m : Nat) : seg w ad b (n + m) = seg w ad b n ++ seg w ad (b + n) m := by
  unfold seg
  rw [List.range_add, List.map_append, List.map_map]
  congr 1
  apply List.map_congr_left
  intro i _
  show (ad (b + (n + i)), _) = (ad (b + n + i), _)
  rw [Nat.add_assoc]
abbrev aI (w : WP) (N : Nat) (g : Int → Int) : va_E := .inl (w.2.1.1, N, .inl (fun j : Nat => iI (g (j : Int))))
abbrev aB (w : WP) (N : Nat) (g : Int → Int) : va_E := .inl (w.2.1.2.1, N, .inl (fun j : Nat => iI (g (j : Int))))
abbrev aQ (w : WP) (N : Nat) (f : Nat → Option Nat) : va_E := .inl (w.2.1.2.2, N, .inr (.inr (.inr (.inr f))))
/-- what a making method stands on -/
def Ck (p : Program) (s : State) (m : MethodId) (args : Array Value) (meth : Method) (c : Code) (cc : ByteArray) (own : String) (ret : Option FieldType) (nL : Nat) (w : WP) : Prop :=
  p.tables.exec = Jvm.exec ∧ c.code = cc ∧ c.maxLocals = nL ∧ s.vm.findClass own = some m.cls ∧ (∀ x ∈ WG, x.before args s = true) ∧ meth.sig.returnType = ret ∧ meth.locks = false ∧ va_K w.1 vwCl (tysW w) s ∧ va_AO RX0 s ∧ (∀ x ∈ NWL, va_Nw x s) ∧ w.2.2.2.1 ≤ s.heap.size
def PG (w : WP) (ws : va_W) (H : Heap) : Prop := va_P w.1 vwCl ws H ∧ va_D (Aw w) ws
def Wk (p : Program) (l : Launch) (e : Env) (R : Room) (s : State) (m : MethodId) (args : Array Value) (below : List Frame) (meth : Method) (c : Code) (Qf : State → Prop) (w : WP) (k n nL : Nat) (pc : Nat) (lv : List (Nat × Value)) (st : List Value) (ws : va_W) : Prop :=
  ∀ (H : Heap) (locs : List Loc) (ls : Array Slot), PG w ws H → va_S (Aw w) s.heap H locs → lv_has ls nL lv → W p l e R s m args below meth c H locs k n Qf (F0 m pc ls st)
def PcG (w : WP) (av : List Value) (ws : va_W) : Array Value → State → Prop := va_Pc av (fun U => PG w ws U.heap ∧ va_K w.1 vwCl (tysW w) U ∧ va_AO RX0 U ∧ (∀ x ∈ NWL, va_Nw x U) ∧ w.2.2.2.1 ≤ U.heap.size)
def QG (w : WP) (post : va_W → Prop) : Array Value → State → Outcome → State → Prop := va_Qv (S := va_W) post (fun ws' t => PG w ws' t.heap) (Aw w)
def ConG (l : Launch) (y : MethodName) (cc : ByteArray) (maxL h kc ns : Nat) (w : WP) (av : List Value) (ws : va_W) (post : va_W → Prop) : Prop :=
  Met l y (.code y cc maxL none :: WG) (rmG h kc ns) (PcG w av ws) (QG w post) kc ns (Aw w)
theorem preG_blind {w : WP} {av : List Value} {ws : va_W} : FrameBlind (PcG w av ws) := by
  intro a U g mk q
  obtain ⟨h1, h2, h3, h4, h5, h6⟩ := q
  exact ⟨h1, h2, va_K.moved (u := U) (U := U.calling g mk a) (Vm.Alike.refl U.vm) h3, va_AO.moved (u := U) (U := U.calling g mk a) (Vm.Alike.refl U.vm) h4, fun x hx => nest_warm (s := U) (U := U.calling g mk a) (State.WarmedH.refl U) (NWL_nest x hx) (h5 x hx), h6⟩
theorem ConG.mk {l : Launch} {y : MethodName} {cc : ByteArray} {maxL h kc ns : Nat} {w : WP} {av : List Value} {ws : va_W} {post : va_W → Prop} {lv : List (Nat × Value)} (hy : plainName y.cls = true) (hn : (lg_sl av).length ≤ maxL) (hlv : lv_args 0 av = lv)
    (body : ∀ p e s m below meth c, Ck p s m av.toArray meth c cc y.cls none maxL w → meth.name = y.name → Wk p l e (rmG h kc ns) s m av.toArray below meth c (MQ below (QG w post) av.toArray s kc ns (Aw w)) w 0 0 maxL 0 lv [] ws) : ConG l y cc maxL h kc ns w av ws post := by
  refine Met.ofW (cc := cc) (maxL := maxL) (ret := none) hy rfl ?_
  intro p e s m args below meth c s₁ B hml hv
  obtain ⟨rfl, hH, hK, hAO, hNW, hsz⟩ := hv
  have hts := atoms_spec (ws := Cond.code y cc maxL none :: WG) B.pre
  have C : Ck p s m av.toArray meth c cc y.cls none maxL w := ⟨B.exec, B.bytes, hml, findClass_of_methodNamed B.named, fun x hx => hts x (List.mem_cons_of_mem _ hx), B.returns, B.notSynchronized, hK, hAO, hNW, hsz⟩
  have hl := lv_entry av (n := maxL) hn
  rw [lg_entry_eq]
  rw [hlv] at hl
  exact body p e s m below meth c C (name_of_methodNamed B.named B.method).1 s.heap [] _ hH va_S.rf hl
section RK
variable {p : Program} {l : Launch} {e : Env} {R : Room} {s : State} {m : MethodId} {args : Array Value} {below : List Frame} {meth : Method} {c : Code} {Qf : State → Prop} {w : WP} {k n nL pc : Nat} {lv lv' : List (Nat × Value)} {st : List Value} {ws pre L : va_W} {cc : ByteArray} {own : String} {ret : Option FieldType}
theorem Ck.A (C : Ck p s m args meth c cc own ret nL w) : ∀ q, s.heap.size ≤ q → Aw w q := fun q h => Nat.le_trans C.2.2.2.2.2.2.2.2.2.2 h
theorem Wk.eq {ws' : va_W} (h : ws = ws') (kk : Wk p l e R s m args below meth c Qf w k n nL pc lv st ws') : Wk p l e R s m args below meth c Qf w k n nL pc lv st ws := by rw [h]; exact kk
theorem r_aload_n (C : Ck p s m args meth c cc own ret nL w) (j : Nat) {i : Fin 4} {a : Nat} (d : decode cc pc = .ok (.aload_n i, 1)) (hv : lv[j]? = some ((i : Nat), .ref a)) (kk : Wk p l e R s m args below meth c Qf w k n nL (pc + 1) lv (.ref a :: st) ws) : Wk p l e R s m args below meth c Qf w k n nL pc lv st ws :=
  fun H locs ls hH hS hl => lv_aload_n C.1 C.2.1 d rfl (lv_at hl j hv) (kk H locs ls hH hS hl)
theorem r_iconst (C : Ck p s m args meth c cc own ret nL w) (z : Int) (d : decode cc pc = .ok (.iconst z, 1)) (kk : Wk p l e R s m args below meth c Qf w k n nL (pc + 1) lv (.int (iI z) :: st) ws) : Wk p l e R s m args below meth c Qf w k n nL pc lv st ws :=
  fun H locs ls hH hS hl => lv_iconst C.1 C.2.1 d rfl (kk H locs ls hH hS hl)
theorem r_bipush (C : Ck p s m args meth c cc own ret nL w) (z : Int) (d : decode cc pc = .ok (.bipush z, 2)) (hz : (Int8.ofInt z).toInt32 = iI z) (kk : Wk p l e R s m args below meth c Qf w k n nL (pc + 2) lv (.int (iI z) :: st) ws) : Wk p l e R s m args below meth c Qf w k n nL pc lv st ws :=
  fun H locs ls hH hS hl => lv_bipush C.1 C.2.1 d hz (kk H locs ls hH hS hl)
theorem r_sipush (C : Ck p s m args meth c cc own ret nL w) (z : Int) (d : decode cc pc = .ok (.sipush z, 3)) (hz : (Int16.ofInt z).toInt32 = iI z) (kk : Wk p l e R s m args below meth c Qf w k n nL (pc + 3) lv (.int (iI z) :: st) ws) : Wk p l e R s m args below meth c Qf w k n nL pc lv st ws :=
  fun H locs ls hH hS hl => lv_sipush C.1 C.2.1 d hz (kk H locs ls hH hS hl)
theorem r_iload_n (C : Ck p s m args meth c cc own ret nL w) (j : Nat) {i : Fin 4} {z : Int32} (d : decode cc pc = .ok (.iload_n i, 1)) (hv : lv[j]? = some ((i : Nat), .int z)) (kk : Wk p l e R s m args below meth c Qf w k n nL (pc + 1) lv (.int z :: st) ws) : Wk p l e R s m args below meth c Qf w k n nL pc lv st ws :=
  fun H locs ls hH hS hl => lv_iload_n C.1 C.2.1 d rfl (lv_at hl j hv) (kk H locs ls hH hS hl)
theorem r_istore_n (C : Ck p s m args meth c cc own ret nL w) {i : Fin 4} {z : Int32} (d : decode cc pc = .ok (.istore_n i, 1)) (hn : (i : Nat) < nL) (hl' : ((i : Nat), Value.int z) :: lv.filter (fun q => !(q.1 == (i : Nat)) && !(q.1 + 1 == (i : Nat) && q.2.category == 2)) = lv') (kk : Wk p l e R s m args below meth c Qf w k n nL (pc + 1) lv' st ws) : Wk p l e R s m args below meth c Qf w k n nL pc lv (.int z :: st) ws :=
  fun H locs ls hH hS hl => lv_istore_n C.1 C.2.1 d rfl hl hn hl' (fun ls' hl2 => kk H locs ls' hH hS hl2)
theorem r_astore_n (C : Ck p s m args meth c cc own ret nL w) {i : Fin 4} {a : Nat} (d : decode cc pc = .ok (.astore_n i, 1)) (hn : (i : Nat) < nL) (hl' : ((i : Nat), Value.ref a) :: lv.filter (fun q => !(q.1 == (i : Nat)) && !(q.1 + 1 == (i : Nat) && q.2.category == 2)) = lv') (kk : Wk p l e R s m args below meth c Qf w k n nL (pc + 1) lv' st ws) : Wk p l e R s m args below meth c Qf w k n nL pc lv (.ref a :: st) ws :=
  fun H locs ls hH hS hl => lv_astore_n C.1 C.2.1 d rfl hl hn hl' (fun ls' hl2 => kk H locs ls' hH hS hl2)
theorem r_iinc (C : Ck p s m args meth c cc own ret nL w) (j : Nat) {i : Nat} {z t : Int} (d : decode cc pc = .ok (.iinc i t, 3)) (hv : lv[j]? = some (i, .int (iI z))) (hn : i < nL) (hl' : (i, Value.int (iI (z + t))) :: lv.filter (fun q => !(q.1 == i) && !(q.1 + 1 == i && q.2.category == 2)) = lv') (kk : Wk p l e R s m args below meth c Qf w k n nL (pc + 3) lv' st ws) : Wk p l e R s m args below meth c Qf w k n nL pc lv st ws :=
  fun H locs ls hH hS hl => lv_iinc C.1 C.2.1 d hl hv (iI_add z t) hn hl' (fun ls' hl2 => kk H locs ls' hH hS hl2)
theorem r_dup (C : Ck p s m args meth c cc own ret nL w) {v : Value} (d : decode cc pc = .ok (.dup, 1)) (hv : v.category = 1) (kk : Wk p l e R s m args below meth c Qf w k n nL (pc + 1) lv (v :: v :: st) ws) : Wk p l e R s m args below meth c Qf w k n nL pc lv (v :: st) ws :=
  fun H locs ls hH hS hl => lv_dup C.1 C.2.1 d hv (kk H locs ls hH hS hl)
theorem r_goto (C : Ck p s m args meth c cc own ret nL w) {off : Int} (tgt : Nat) (d : decode cc pc = .ok (.goto off, 3)) (ht : (pc : Int) + off = (tgt : Int)) (kk : Wk p l e R s m args below meth c Qf w k n nL tgt lv st ws) : Wk p l e R s m args below meth c Qf w k n nL pc lv st ws :=
  fun H locs ls hH hS hl => lv_goto C.1 C.2.1 d ht (kk H locs ls hH hS hl)
theorem r_icmp_ge (C : Ck p s m args meth c cc own ret nL w) {x y : Int} {off : Int} (tgt : Nat) (d : decode cc pc = .ok (.if_icmp .ge off, 3)) (hx : inR x) (hy : inR y) (ht : (pc : Int) + off = (tgt : Int)) (kt : y ≤ x → Wk p l e R s m args below meth c Qf w k n nL tgt lv st ws) (kf : x < y → Wk p l e R s m args below meth c Qf w k n nL (pc + 3) lv st ws) : Wk p l e R s m args below meth c Qf w k n nL pc lv (.int (iI y) :: .int (iI x) :: st) ws :=
  fun H locs ls hH hS hl => lv_icmp_ge C.1 C.2.1 d ht (fun hc => kt (by rw [iI_le hy hx] at hc; omega) H locs ls hH hS hl) (fun hc => kf (by rw [iI_le hy hx] at hc; omega) H locs ls hH hS hl)
theorem r_lv (ks : List Nat) (h : lv_pick lv ks = lv') (kk : Wk p l e R s m args below meth c Qf w k n nL pc lv' st ws) : Wk p l e R s m args below meth c Qf w k n nL pc lv st ws :=
  fun H locs ls hH hS hl => kk H locs ls hH hS (lv_sub hl ks h)
theorem r_vret (C : Ck p s m args meth c cc own none nL w) {post : va_W → Prop} {kc ns : Nat} (hk : k ≤ kc ∧ n ≤ ns) (d : decode cc pc = .ok (.return_, 1)) (hq : post ws) : Wk p l e R s m args below meth c (MQ below (QG w post) args s kc ns (Aw w)) w k n nL pc lv [] ws :=
  fun H locs ls hH hS hl => W.widen (k := kc) (n := ns) hk.1 hk.2 (W.vret C.1 C.2.1 C.2.2.2.2.2.1 (fun t ht hW => ⟨⟨ws, rfl, hq, by show PG w ws t.heap; rw [ht]; exact hH⟩, hS.F ht⟩) hS.2.2 d C.2.2.2.2.2.2.1)
theorem at_app {i : Nat} {x : Nat × va_E} (h : L[i]? = some x) : (pre ++ L)[pre.length + i]? = some x := by
  rw [List.getElem?_append_right (by omega), Nat.add_sub_cancel_left]; exact h
theorem set_app {i : Nat} {x : Nat × va_E} : (pre ++ L).set (pre.length + i) x = pre ++ L.set i x := by
  rw [List.set_append_right _ _ (by omega), Nat.add_sub_cancel_left]
theorem PG.app {H : Heap} {x : Nat × va_E} (h : va_P w.1 vwCl ((pre ++ L) ++ [x]) H) (h2 : va_D (Aw w) ((pre ++ L) ++ [x])) : PG w (pre ++ (L ++ [x])) H := by
  rw [List.append_assoc] at h h2; exact ⟨h, h2⟩
theorem r_obj (C : Ck p s m args meth c cc own ret nL w) {idx : Nat} {a : Nat} (hlink : Cond.methodLink own idx Lib.objectInit ∈ WG) (hr : (decide (1 ≤ R.frames) && decide ((st.map fun v => v.category).sum + 12 ≤ R.locals)) = true) (d : decode cc pc = .ok (.invokespecial idx, 3)) (kk : Wk p l e R s m args below meth c Qf w k n nL (pc + 3) lv st ws) : Wk p l e R s m args below meth c Qf w k n nL pc lv (.ref a :: st) ws := by
  intro H locs ls hH hS hl
  have hG := C.2.2.2.2.1
  simp only [Bool.and_eq_true, decide_eq_true_eq] at hr
  exact W.objInit C.1 C.2.1 C.2.2.2.1 (hG _ hlink) (hG _ wd_29) (hG _ wd_30) rfl (hl.1.trans C.2.2.1.symm) rfl d hr.1 (by show 2 * 0 + _ + _ ≤ _; omega) (kk H locs ls hH hS hl)
theorem r_new (C : Ck p s m args meth c cc own ret nL w) {ci idx N : Nat} {Cn : String} {T : u_T} (ty : Nat → FieldType) (fs : List Value) (hc : vwCl[ci]? = some (Cn, T, N)) (hin : ∀ x ∈ u_ws Cn T N, x ∈ WG) (hty : ∀ k, k < N → parseFieldDescriptor (T k).2.2.1 = some (ty k)) (hcl : Cond.classLink own idx Cn ∈ WG) (hinst : Cond.instantiable Cn N ∈ WG) (hini : Cond.initialized Cn ∈ WG) (hfs : ∀ j, j < N → defaultValue (ty j) = vp_V fs j) (hr : (decide (k + 1 ≤ R.cells) && decide (n + N ≤ R.slots)) = true) (d : decode cc pc = .ok (.new idx, 3))
    (kk : ∀ q, Wk p l e R s m args below meth c Qf w (k + 1) (n + N) nL (pc + 3) lv (.ref q :: st) (pre ++ (L ++ [(q, .inr (ci, fs))]))) : Wk p l e R s m args below meth c Qf w k n nL pc lv st (pre ++ L) := by
  intro H locs ls hH hS hl
  have W := C.2.2.2.2.1
  simp only [Bool.and_eq_true, decide_eq_true_eq] at hr
  exact va_new (D := w.1) (A := Aw w) C.1 C.2.1 W hin ty hty C.2.2.2.1 (W _ hcl) (W _ hinst) (W _ hini) C.2.2.2.2.2.2.2.1 hH.1 hH.2 hS C.A hc hfs hr.1 hr.2 d (fun q H1 hP hD hS1 => kk q H1 locs ls (PG.app hP hD) hS1 hl)
theorem r_newa (C : Ck p s m args meth c cc own ret nL w) (N : Nat) (hN : (decide (N ≤ 2000) && decide (k + 1 ≤ R.cells) && decide (n + N ≤ R.slots)) = true) (d : decode cc pc = .ok (.newarray .int, 2))
    (kk : ∀ q, Wk p l e R s m args below meth c Qf w (k + 1) (n + N) nL (pc + 2) lv (.ref q :: st) (pre ++ (L ++ [(q, aI w N (f0 0 N))]))) : Wk p l e R s m args below meth c Qf w k n nL pc lv (.int (iI (N : Int)) :: st) (pre ++ L) := by
  intro H locs ls hH hS hl
  have W := C.2.2.2.2.1
  have hK := C.2.2.2.2.2.2.2.1
  simp only [Bool.and_eq_true, decide_eq_true_eq] at hN
  have h9 := iI_nat0 (N := N) (by omega)
  refine va_newa (atype := .int) (ty := .int) (N' := N) (a0 := (N, .inl (fun j : Nat => iI (f0 0 N (j : Int))))) C.1 C.2.1 (W _ wd_87) rfl hK hH.1 hH.2 hS C.A (fun cA => ?_) h9.1 h9.2 (by show N * 4 ≤ _; omega) hN.1.2 hN.2 d (fun q cA H1 hK1 hP hD hS1 => ?_)
  · rw [vp_cell_i]
    congr 1
    funext j
    rw [f0_0]; rfl
  · have e : cA = w.2.1.1 := by
      have a1 := (hK1.2 (tysW w).length (cA, .int) (by rw [List.getElem?_append_right (Nat.le_refl _), Nat.sub_self]; rfl)).2
      have a2 := (hK.2 0 _ rfl).2
      exact Option.some.inj (a1.symm.trans a2)
    subst e
    exact kk q H1 locs ls (PG.app hP hD) hS1 hl
theorem r_newb (C : Ck p s m args meth c cc own ret nL w) (N : Nat) (hN : (decide (N ≤ 2000) && decide (k + 1 ≤ R.cells) && decide (n + N ≤ R.slots)) = true) (d : decode cc pc = .ok (.newarray .boolean, 2))
    (kk : ∀ q, Wk p l e R s m args below meth c Qf w (k + 1) (n + N) nL (pc + 2) lv (.ref q :: st) (pre ++ (L ++ [(q, aB w N (f0 0 N))]))) : Wk p l e R s m args below meth c Qf w k n nL pc lv (.int (iI (N : Int)) :: st) (pre ++ L) := by
  intro H locs ls hH hS hl
  have W := C.2.2.2.2.1
  have hK := C.2.2.2.2.2.2.2.1
  simp only [Bool.and_eq_true, decide_eq_true_eq] at hN
  have h9 := iI_nat0 (N := N) (by omega)
  refine va_newa (atype := .boolean) (ty := .boolean) (N' := N) (a0 := (N, .inl (fun j : Nat => iI (f0 0 N (j : Int))))) C.1 C.2.1 (W _ wd_132) rfl hK hH.1 hH.2 hS C.A (fun cA => ?_) h9.1 h9.2 (by show N * 1 ≤ _; omega) hN.1.2 hN.2 d (fun q cA H1 hK1 hP hD hS1 => ?_)
  · rw [vp_cell_i]
    congr 1
    funext j
    rw [f0_0]; rfl
  · have e : cA = w.2.1.2.1 := by
      have a1 := (hK1.2 (tysW w).length (cA, .boolean) (by rw [List.getElem?_append_right (Nat.le_refl _), Nat.sub_self]; rfl)).2
      have a2 := (hK.2 1 _ rfl).2
      exact Option.some.inj (a1.symm.trans a2)
    subst e
    exact kk q H1 locs ls (PG.app hP hD) hS1 hl
theorem r_newq (C : Ck p s m args meth c cc own ret nL w) (N : Nat) {idx : Nat} (hcl : Cond.classLink own idx RX0 ∈ WG) (hN : (decide (N ≤ 2000) && decide (k + 1 ≤ R.cells) && decide (n + N ≤ R.slots)) = true) (d : decode cc pc = .ok (.anewarray idx, 3))
    (kk : ∀ q, Wk p l e R s m args below meth c Qf w (k + 1) (n + N) nL (pc + 3) lv (.ref q :: st) (pre ++ (L ++ [(q, aQ w N (fun _ => none))]))) : Wk p l e R s m args below meth c Qf w k n nL pc lv (.int (iI (N : Int)) :: st) (pre ++ L) := by
  intro H locs ls hH hS hl
  have W := C.2.2.2.2.1
  have hK := C.2.2.2.2.2.2.2.1
  simp only [Bool.and_eq_true, decide_eq_true_eq] at hN
  have h9 := iI_nat0 (N := N) (by omega)
  refine va_newq (C := RX0) (N' := N) C.1 C.2.1 C.2.2.2.1 (W _ hcl) C.2.2.2.2.2.2.2.2.1 hK hH.1 hH.2 hS C.A h9.1 h9.2 (by omega) hN.1.2 hN.2 d (fun q cA H1 hK1 hP hD hS1 => ?_)
  have e : cA = w.2.1.2.2 := by
    obtain ⟨_, _, _, _, _, a1⟩ := (hK1.2 (tysW w).length (cA, .object RX0) (by rw [List.getElem?_append_right (Nat.le_refl _), Nat.sub_self]; rfl)).2
    obtain ⟨_, _, _, _, _, a2⟩ := (hK.2 2 _ rfl).2
    exact Option.some.inj (a1.symm.trans a2)
  subst e
  exact kk q H1 locs ls (PG.app hP hD) hS1 hl
theorem r_putF (C : Ck p s m args meth c cc own ret nL w) (hin2 : meth.name = "<init>") (i : Nat) {a ci j idx N : Nat} {T : u_T} {Cn : String} {fs : List Value} {ty : FieldType} {v : Value} (tyX : Nat → FieldType) (hi : L[i]? = some (a, .inr (ci, fs))) (hc : vwCl[ci]? = some (Cn, T, N)) (hin : ∀ x ∈ u_ws Cn T N, x ∈ WG) (hty : ∀ k, k < N → parseFieldDescriptor (T k).2.2.1 = some (tyX k)) (hnm : ∀ a, a < N → ∀ b, b < N → a ≠ b → (T a).2.1 ≠ (T b).2.1) (hj : j < N) (hw : Cond.fieldLink own idx (T j).1 (T j).2.1 (T j).2.2.1 ∈ WG) (hfin : (T j).2.2.2 = true) (hdecl : (T j).1 = own) (hd : tyX j = ty) (hn : narrow ty v = v) (hf : fits ty v = true) (hlen : j < fs.length) (d : decode cc pc = .ok (.putfield idx, 3))
    (kk : Wk p l e R s m args below meth c Qf w k n nL (pc + 3) lv st (pre ++ L.set i (a, .inr (ci, fs.set j v)))) : Wk p l e R s m args below meth c Qf w k n nL pc lv (v :: .ref a :: st) (pre ++ L) := by
  intro H locs ls hH hS hl
  have W := C.2.2.2.2.1
  refine va_putF C.1 C.2.1 W hin tyX hty hnm C.2.2.2.1 C.2.2.2.2.2.2.2.1 hH.1 hH.2 hS (pre.length + i) (at_app hi) hc j hj (W _ hw) (fun _ h => h) hfin hin2 hdecl (by rw [hty j hj, hd]) hn hf hlen d (fun H1 locs1 hP hD hS1 => ?_)
  rw [set_app] at hP hD
  exact kk H1 locs1 ls ⟨hP, hD⟩ hS1 hl
theorem r_get (C : Ck p s m args meth c cc own ret nL w) (i : Nat) {a ci j idx N : Nat} {T : u_T} {Cn : String} {fs : List Value} {v : Value} (hi : L[i]? = some (a, .inr (ci, fs))) (hc : vwCl[ci]? = some (Cn, T, N)) (hin : ∀ x ∈ u_ws Cn T N, x ∈ WG) (hj : j < N) (hw : Cond.fieldLink own idx (T j).1 (T j).2.1 (T j).2.2.1 ∈ WG) (hv : fs[j]? = some v) (d : decode cc pc = .ok (.getfield idx, 3))
    (kk : Wk p l e R s m args below meth c Qf w k n nL (pc + 3) lv (v :: st) (pre ++ L)) : Wk p l e R s m args below meth c Qf w k n nL pc lv (.ref a :: st) (pre ++ L) :=
  fun H locs ls hH hS hl => va_get C.1 C.2.1 C.2.2.2.2.1 hin C.2.2.2.1 C.2.2.2.2.2.2.2.1 hH.1 (pre.length + i) (at_app hi) hc j hj (C.2.2.2.2.1 _ hw) (fun _ h => h) hv d (kk H locs ls hH hS hl)
theorem upd_g {g : Int → Int} {x z : Int} (h0 : 0 ≤ x) : upd (fun j : Nat => iI (g (j : Int))) x.toNat (iI z) = fun j : Nat => iI (ru g x z (j : Int)) := by
  funext j
  unfold upd ru
  by_cases hj : j = x.toNat
  · rw [if_pos hj, if_pos (by omega)]
  · rw [if_neg hj, if_neg (by omega)]
theorem r_iast (C : Ck p s m args meth c cc own ret nL w) (i : Nat) {a N : Nat} {g : Int → Int} {x z : Int} (hi : L[i]? = some (a, aI w N g)) (hx : 0 ≤ x ∧ x < N) (hN : N ≤ 2000) (d : decode cc pc = .ok (.iastore, 1))
    (kk : Wk p l e R s m args below meth c Qf w k n nL (pc + 1) lv st (pre ++ L.set i (a, aI w N (ru g x z)))) : Wk p l e R s m args below meth c Qf w k n nL pc lv (.int (iI z) :: .int (iI x) :: .ref a :: st) (pre ++ L) := by
  intro H locs ls hH hS hl
  refine va_iast C.1 C.2.1 C.2.2.2.2.2.2.2.1 hH.1 hH.2 hS (pre.length + i) 0 (at_app hi) rfl (iI_in hx (by omega)) d (fun H1 locs1 hP hD hS1 => ?_)
  rw [iI_clamp ⟨by omega, by omega⟩, upd_g hx.1, set_app] at hP hD
  exact kk H1 locs1 ls ⟨hP, hD⟩ hS1 hl
theorem r_astq (C : Ck p s m args meth c cc own ret nL w) (i k9 : Nat) {a N v : Nat} {f : Nat → Option Nat} {vs : List Value} {x : Int} (hi : L[i]? = some (a, aQ w N f)) (hv : L[k9]? = some (v, .inr (0, vs))) (hx : 0 ≤ x ∧ x < N) (hN : N ≤ 2000) (d : decode cc pc = .ok (.aastore, 1))
    (kk : Wk p l e R s m args below meth c Qf w k n nL (pc + 1) lv st (pre ++ L.set i (a, aQ w N (va_up f x.toNat (some v))))) : Wk p l e R s m args below meth c Qf w k n nL pc lv (.ref v :: .int (iI x) :: .ref a :: st) (pre ++ L) := by
  intro H locs ls hH hS hl
  refine va_astq C.1 C.2.1 C.2.2.2.2.2.2.2.1 hH.1 hH.2 hS (pre.length + i) 2 (pre.length + k9) 0 (at_app hi) rfl (at_app hv) rfl (iI_in hx (by omega)) d (fun H1 locs1 hP hD hS1 => ?_)
  rw [iI_clamp ⟨by omega, by omega⟩, set_app] at hP hD
  exact kk H1 locs1 ls ⟨hP, hD⟩ hS1 hl
theorem r_alen (C : Ck p s m args meth c cc own ret nL w) (i t : Nat) {a N : Nat} {cA : ClassId} {x : (Nat → Int32) ⊕ (Nat → Int64) ⊕ (Nat → UInt32) ⊕ (Nat → UInt64) ⊕ (Nat → Option Nat)} {ty : FieldType} (hi : L[i]? = some (a, .inl (cA, N, x))) (ht : (tysW w)[t]? = some (cA, ty)) (d : decode cc pc = .ok (.arraylength, 1))
    (kk : Wk p l e R s m args below meth c Qf w k n nL (pc + 1) lv (.int (iI (N : Int)) :: st) (pre ++ L)) : Wk p l e R s m args below meth c Qf w k n nL pc lv (.ref a :: st) (pre ++ L) :=
  fun H locs ls hH hS hl => va_alen C.1 C.2.1 C.2.2.2.2.2.2.2.1 hH.1 (pre.length + i) t (at_app hi) ht (by rw [← iI_nat]; rfl) d (kk H locs ls hH hS hl)
theorem Ck.prq {H : Heap} {locs : List Loc} (C : Ck p s m args meth c cc own ret nL w) (hH : PG w ws H) (hS : va_S (Aw w) s.heap H locs) {U : State} (hU : U.heap = H) (hW : s.WarmedH U.vm) : PG w ws U.heap ∧ va_K w.1 vwCl (tysW w) U ∧ va_AO RX0 U ∧ (∀ x ∈ NWL, va_Nw x U) ∧ w.2.2.2.1 ≤ U.heap.size :=
  ⟨by rw [hU]; exact hH, va_K.moved hW.alike C.2.2.2.2.2.2.2.1, va_AO.moved hW.alike C.2.2.2.2.2.2.2.2.1, fun x hx => nest_warm hW (NWL_nest x hx) (C.2.2.2.2.2.2.2.2.2.1 x hx), by rw [hU]; exact Nat.le_trans C.2.2.2.2.2.2.2.2.2.2 hS.1⟩
theorem r_callI (C : Ck p s m args meth c cc own ret nL w) {y : MethodName} {cc' : ByteArray} {maxL' h kc ns idx a : Nat} {rest : List Value} {wsC : va_W} {post : va_W → Prop} (hc : ConG l y cc' maxL' h kc ns w [.ref a] wsC post) (hws : ws = wsC) (hwc : Cond.code y cc' maxL' none ∈ WG) (hwi : Cond.instanceMethod y ∈ WG) (hw0 : Cond.initialized y.cls ∈ WG) (hlink : Cond.methodLink own idx y ∈ WG) (hd : y.cls ≠ "java/lang/invoke/MethodHandle" ∧ y.cls ≠ "java/lang/invoke/VarHandle" ∧ (parseMethodDescriptor y.desc).map (fun d => d.parameters.length) = some 0) (hnm : y.name = "<init>")
    (hr : (decide (h + 1 ≤ R.frames) && decide (8 + (maxL' + 11) + 32 * h ≤ R.locals) && decide (k + kc ≤ R.cells) && decide (n + ns ≤ R.slots)) = true) (hcat : (rest.map fun v => v.category).sum ≤ 8) (d : decode cc pc = .ok (.invokespecial idx, 3)) (kk : ∀ ws', post ws' → Wk p l e R s m args below meth c Qf w (k + kc) (n + ns) nL (pc + 3) lv rest ws') : Wk p l e R s m args below meth c Qf w k n nL pc lv (.ref a :: rest) ws := by
  intro H locs ls hH hS hl
  subst hws
  have W := C.2.2.2.2.1
  simp only [Bool.and_eq_true, decide_eq_true_eq] at hr
  refine va_callv (va_runI (As := []) (Ts := WG) ⟨C.1, C.2.1, C.2.2.1, C.2.2.2.1, W⟩ hc ⟨⟨rfl, rfl, hr.1.1.1, hr.1.1.2, pay_in W (WG_good hwc), List.mem_cons_self, W _ hwc, W _ hw0, ⟨hd.1, hd.2.1⟩, fun sig h => ?_, W _ hlink⟩, hnm, W _ hwi⟩
    ⟨preG_blind, fun U hU hW => ⟨rfl, C.prq hH hS hU hW⟩⟩ rfl rfl hl.1 rfl (lv_room hcat) d ⟨hr.1.2, hr.2⟩) hS (fun _ _ h => h) (fun _ h => h) (fun u t H1 locs1 ht hvm hp hB hz1 hk1 hS1 => kk u hp H1 locs1 ls (by rw [← ht]; exact hB) hS1 hl)
  have h2 := hd.2.2
  rw [h] at h2
  exact (Option.some.inj h2).symm
theorem r_callIN (C : Ck p s m args meth c cc own ret nL w) {y : MethodName} {cc' : ByteArray} {maxL' h kc ns idx a : Nat} {host : String} {rest : List Value} {wsC : va_W} {post : va_W → Prop} (hc : ConG l y cc' maxL' h kc ns w [.ref a] wsC post) (hws : ws = wsC) (hwc : Cond.code y cc' maxL' none ∈ WG) (hwi : Cond.instanceMethod y ∈ WG) (hw0 : Cond.initialized y.cls ∈ WG) (hlink : Cond.methodLinkNest own idx y host ∈ NWL) (hd : y.cls ≠ "java/lang/invoke/MethodHandle" ∧ y.cls ≠ "java/lang/invoke/VarHandle" ∧ (parseMethodDescriptor y.desc).map (fun d => d.parameters.length) = some 0) (hnm : y.name = "<init>")
    (hr : (decide (h + 1 ≤ R.frames) && decide (8 + (maxL' + 11) + 32 * h ≤ R.locals) && decide (k + kc ≤ R.cells) && decide (n + ns ≤ R.slots)) = true) (hcat : (rest.map fun v => v.category).sum ≤ 8) (d : decode cc pc = .ok (.invokespecial idx, 3)) (kk : ∀ ws', post ws' → Wk p l e R s m args below meth c Qf w (k + kc) (n + ns) nL (pc + 3) lv rest ws') : Wk p l e R s m args below meth c Qf w k n nL pc lv (.ref a :: rest) ws := by
  intro H locs ls hH hS hl
  subst hws
  have W := C.2.2.2.2.1
  simp only [Bool.and_eq_true, decide_eq_true_eq] at hr
  refine va_callv (va_runIN (As := []) (Ts := WG) ⟨C.1, C.2.1, C.2.2.1, C.2.2.2.1, W⟩ hc ⟨⟨⟨rfl, rfl, hr.1.1.1, hr.1.1.2, pay_in W (WG_good hwc), List.mem_cons_self⟩, W _ hwc, W _ hw0, ⟨hd.1, hd.2.1⟩, fun sig h => ?_, va_Nw.use rfl (C.2.2.2.2.2.2.2.2.2.1 _ hlink)⟩, hnm, W _ hwi⟩
    ⟨preG_blind, fun U hU hW => ⟨rfl, C.prq hH hS hU hW⟩⟩ rfl rfl hl.1 rfl (lv_room hcat) d ⟨hr.1.2, hr.2⟩) hS (fun _ _ h => h) (fun _ h => h) (fun u t H1 locs1 ht hvm hp hB hz1 hk1 hS1 => kk u hp H1 locs1 ls (by rw [← ht]; exact hB) hS1 hl)
  have h2 := hd.2.2
  rw [h] at h2
  exact (Option.some.inj h2).symm
theorem r_callSN (C : Ck p s m args meth c cc own ret nL w) {y : MethodName} {cc' : ByteArray} {nA maxL' h kc ns idx : Nat} {host : String} {As rest st0 : List Value} {post : va_W → Prop} (hc : ConG l y cc' maxL' h kc ns w As ws post) (hwc : Cond.code y cc' maxL' none ∈ WG) (hwi : Cond.static y ∈ WG) (hw0 : Cond.initialized y.cls ∈ WG) (hlink : Cond.methodLinkNest own idx y host ∈ NWL) (hd : y.cls ≠ "java/lang/invoke/MethodHandle" ∧ y.cls ≠ "java/lang/invoke/VarHandle" ∧ (parseMethodDescriptor y.desc).map (fun d => d.parameters.length) = some nA) (hlen : As.length = nA)
    (hr : (decide (h + 1 ≤ R.frames) && decide (8 + (maxL' + 11) + 32 * h ≤ R.locals) && decide (k + kc ≤ R.cells) && decide (n + ns ≤ R.slots)) = true) (hst : st0 = As.reverse ++ rest) (hcat : (rest.map fun v => v.category).sum ≤ 8) (d : decode cc pc = .ok (.invokestatic idx, 3)) (kk : ∀ ws', post ws' → Wk p l e R s m args below meth c Qf w (k + kc) (n + ns) nL (pc + 3) lv rest ws') : Wk p l e R s m args below meth c Qf w k n nL pc lv st0 ws := by
  intro H locs ls hH hS hl
  have W := C.2.2.2.2.1
  simp only [Bool.and_eq_true, decide_eq_true_eq] at hr
  refine va_callv (va_runSN (Ts := WG) ⟨C.1, C.2.1, C.2.2.1, C.2.2.2.1, W⟩ hc ⟨⟨⟨rfl, rfl, hr.1.1.1, hr.1.1.2, pay_in W (WG_good hwc), List.mem_cons_self⟩, W _ hwc, W _ hw0, ⟨hd.1, hd.2.1⟩, fun sig h => ?_, va_Nw.use rfl (C.2.2.2.2.2.2.2.2.2.1 _ hlink)⟩, W _ hwi, trivial⟩
    ⟨preG_blind, fun U hU hW => ⟨rfl, C.prq hH hS hU hW⟩⟩ rfl hlen hl.1 hst (lv_room hcat) d ⟨hr.1.2, hr.2⟩) hS (fun _ _ h => h) (fun _ h => h) (fun u t H1 locs1 ht hvm hp hB hz1 hk1 hS1 => kk u hp H1 locs1 ls (by rw [← ht]; exact hB) hS1 hl)
  have h2 := hd.2.2
  rw [h] at h2
  exact (Option.some.inj h2).symm
end RK
