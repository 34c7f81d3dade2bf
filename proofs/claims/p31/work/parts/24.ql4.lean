/-! QL 4: references answered; the law's own rows, made and dropped; bits -/
section QX
variable {p : Program} {l : Launch} {e : Env} {R : Room} {s : State} {m : MethodId} {args : Array Value} {below : List Frame} {meth : Method} {c : Code} {Qf : State → Prop} {w : WP} {k n nL pc : Nat} {lv lv' : List (Nat × Value)} {st : List Value} {F : FF} {cc : ByteArray} {own : String} {ret : Option FieldType}
theorem q_null (C : Cx p s m args meth c cc own ret nL w) (d : decode cc pc = .ok (.aconst_null, 1)) (kk : Wq p l e R s m args below meth c Qf w k n nL (pc + 1) lv (.null :: st) F) : Wq p l e R s m args below meth c Qf w k n nL pc lv st F :=
  fun H locs ls hH hS hl => lv_null C.1 C.2.1 d (kk H locs ls hH hS hl)
theorem q_aloadN_n (C : Cx p s m args meth c cc own ret nL w) (j : Nat) {i : Fin 4} (d : decode cc pc = .ok (.aload_n i, 1)) (hv : lv[j]? = some ((i : Nat), .null)) (kk : Wq p l e R s m args below meth c Qf w k n nL (pc + 1) lv (.null :: st) F) : Wq p l e R s m args below meth c Qf w k n nL pc lv st F :=
  fun H locs ls hH hS hl => lv_aload_nN C.1 C.2.1 d rfl (lv_at hl j hv) (kk H locs ls hH hS hl)
theorem q_astoreN_n (C : Cx p s m args meth c cc own ret nL w) {i : Fin 4} (d : decode cc pc = .ok (.astore_n i, 1)) (hn : (i : Nat) < nL) (hl' : ((i : Nat), Value.null) :: lv.filter (fun q => !(q.1 == (i : Nat)) && !(q.1 + 1 == (i : Nat) && q.2.category == 2)) = lv') (kk : Wq p l e R s m args below meth c Qf w k n nL (pc + 1) lv' st F) : Wq p l e R s m args below meth c Qf w k n nL pc lv (.null :: st) F :=
  fun H locs ls hH hS hl => lv_astore_nN C.1 C.2.1 d rfl hl hn hl' (fun ls' hl2 => kk H locs ls' hH hS hl2)
theorem q_aret {rt : FieldType} (C : Cx p s m args meth c cc own (some rt) nL w) (hrt : (∃ n, rt = .object n) ∨ ∃ t, rt = .array t) {post : Option Nat → FF → Prop} {z : Option Nat} (d : decode cc pc = .ok (.areturn, 1)) (hq : post z F) : Wq p l e R s m args below meth c (MQ below (QQ w post) args s k n (Aw w)) w k n nL pc lv [va_rf (z.map (adr w))] F :=
  fun H locs ls hH hS hl => W.aret C.1 C.2.1 C.2.2.2.2.2.1 hrt (by cases z with
    | none => exact Or.inl rfl
    | some a => exact Or.inr ⟨_, rfl⟩) (fun t ht hW => ⟨⟨z.map (adr w), F, rfl, ⟨z, rfl, hq⟩, by show HR w F t.heap; rw [ht]; exact hH⟩, hS.F ht⟩) hS.2.2 d C.2.2.2.2.2.2.1
/-! the law's own rows -/
def LwP (w : WP) (a N : Nat) : Prop := kd a = 9 ∧ a < nP w ∧ ln a = N
theorem q_iald9 (C : Cx p s m args meth c cc own ret nL w) {b N : Nat} {i : Int} (hL : LwP w b N) (hi : 0 ≤ i ∧ i < (N : Int)) (d : decode cc pc = .ok (.iaload, 1)) (kk : Wq p l e R s m args below meth c Qf w k n nL (pc + 1) lv (.int (iI (F b i)) :: st) F) : Wq p l e R s m args below meth c Qf w k n nL pc lv (.int (iI i) :: .ref (adr w b) :: st) F := by
  intro H locs ls hH hS hl
  obtain ⟨hk, hb, rfl⟩ := hL
  refine va_iald C.1 C.2.1 C.2.2.2.2.2.2.2.1 hH.1 b 0 (by rw [wsW_get hb, cellE_9 hk]) rfl (iI_in hi (ln_lt b)) d ?_
  have h := kk H locs ls hH hS hl
  rw [iI_clamp ⟨by omega, by have := ln_lt b; omega⟩, Int.toNat_of_nonneg hi.1]
  exact h
theorem q_iast9 (C : Cx p s m args meth c cc own ret nL w) {b N : Nat} {i z : Int} (hL : LwP w b N) (hi : 0 ≤ i ∧ i < (N : Int)) (d : decode cc pc = .ok (.iastore, 1)) (kk : Wq p l e R s m args below meth c Qf w k n nL (pc + 1) lv st (up F b i z)) : Wq p l e R s m args below meth c Qf w k n nL pc lv (.int (iI z) :: .int (iI i) :: .ref (adr w b) :: st) F := by
  intro H locs ls hH hS hl
  obtain ⟨hk, hb, rfl⟩ := hL
  refine va_iast C.1 C.2.1 C.2.2.2.2.2.2.2.1 hH.1 (HR.D C.2.2.2.2.2.2.2) hS b 0 (by rw [wsW_get hb, cellE_9 hk]) rfl (iI_in hi (ln_lt b)) d (fun H1 locs1 hP hD hS1 => ?_)
  refine kk H1 locs1 ls ⟨?_, zr_up hH.2 hi⟩ hS1 hl
  rw [iI_clamp ⟨by omega, by have := ln_lt b; omega⟩, upd_iI hi.1, wsW_set hb (fun j hj => cellE_ne hj) (cellE_9 hk)] at hP
  exact hP
theorem q_alen9 (C : Cx p s m args meth c cc own ret nL w) {b N : Nat} (hL : LwP w b N) (d : decode cc pc = .ok (.arraylength, 1)) (kk : Wq p l e R s m args below meth c Qf w k n nL (pc + 1) lv (.int (iI (N : Int)) :: st) F) : Wq p l e R s m args below meth c Qf w k n nL pc lv (.ref (adr w b) :: st) F := by
  intro H locs ls hH hS hl
  obtain ⟨hk, hb, rfl⟩ := hL
  exact va_alen C.1 C.2.1 C.2.2.2.2.2.2.2.1 hH.1 b 0 (by rw [wsW_get hb, cellE_9 hk]) rfl (by rw [← iI_nat]; rfl) d (kk H locs ls hH hS hl)
/-- w' is w with a row more -/
def Ex (w w' : WP) : Prop := w'.1 = w.1 ∧ w'.2.1 = w.2.1 ∧ (∀ k, k < nP w → adr w' k = adr w k) ∧ nP w' = nP w + 1 ∧ w'.2.2.2.1 = w.2.2.2.1
theorem Ex.Aw {w w' : WP} (h : Ex w w') : Aw w' = Aw w := by
  funext q
  show (w'.2.2.2.1 ≤ q) = (w.2.2.2.1 ≤ q)
  rw [h.2.2.2.2]
theorem kd_bd : ∀ k, k < 118 → kd k = 0 → k + 9 < 110 := by decide +kernel
theorem gA_bd : ∀ k j t, gA k j = some t → t < 110 := by
  intro k j t h
  unfold gA at h
  split at h
  · split at h
    · cases h; omega
    · cases h
  · split at h
    · cases h; omega
    · cases h
theorem cellE_w {w w' : WP} (h1 : w'.2.1 = w.2.1) (h2 : ∀ k, k < 110 → adr w' k = adr w k) (F : FF) (k : Nat) : cellE w' F k = cellE w F k := by
  have hg : (fun j => (gA k j).map (adr w')) = (fun j => (gA k j).map (adr w)) := by
    funext j
    cases e : gA k j with
    | none => rfl
    | some t => show some (adr w' t) = some (adr w t); rw [h2 t (gA_bd k j t e)]
  unfold cellE
  rw [h1, hg]
  by_cases h5 : kd k < 5
  · rw [if_pos h5, if_pos h5]
    have hlt := kd_lt (k := k) rfl (by omega)
    have e : fsO w' (kd k) k F = fsO w (kd k) k F := by
      rcases (show kd k = 0 ∨ kd k = 1 ∨ kd k = 2 ∨ kd k = 3 ∨ kd k = 4 by omega) with e | e | e | e | e
      · have h9 := kd_bd k (by omega) e
        rw [e]
        simp only [fsO]
        rw [h2 (k+1) (by omega), h2 (k+2) (by omega), h2 (k+3) (by omega), h2 (k+4) (by omega), h2 (k+5) (by omega), h2 (k+6) (by omega), h2 (k+7) (by omega), h2 (k+8) (by omega), h2 (k+9) (by omega)]
      · rw [e]; simp only [fsO]; rw [h2 22 (by decide)]
      · rw [e]; simp only [fsO]; rw [h2 87 (by decide), h2 88 (by decide), h2 89 (by decide)]
      · rw [e]; simp only [fsO]; rw [h2 1 (by decide), h2 11 (by decide), h2 21 (by decide), h2 83 (by decide), h2 84 (by decide), h2 85 (by decide), h2 86 (by decide)]
      · rw [e]; rfl
    rw [e]
  · rw [if_neg h5, if_neg h5]
/-- the cells with a row of zeros at a place -/
def zer (F : FF) (a : Nat) : FF := fun k j => if k = a then 0 else F k j
theorem zer_a {F : FF} {a : Nat} {j : Int} : zer F a a j = 0 := if_pos rfl
theorem zer_k {F : FF} {a k : Nat} (h : k ≠ a) : zer F a k = F k := by funext j; exact if_neg h
theorem Ex.ws {w w' : WP} (h : Ex w w') (F : FF) : wsW w' F = wsW w F ++ [(adr w' (nP w), cellE w' F (nP w))] := by
  unfold wsW
  rw [h.2.2.2.1, List.range_succ, List.map_append]
  congr 1
  apply List.map_congr_left
  intro k hk
  have hk2 := List.mem_range.mp hk
  rw [h.2.2.1 k hk2, cellE_w h.2.1 (fun k hk => h.2.2.1 k (nP_ge hk))]
theorem q_back {w' : WP} (hE : Ex w w') (kk : Wq p l e R s m args below meth c Qf w k n nL pc lv st F) : Wq p l e R s m args below meth c Qf w' k n nL pc lv st F := by
  intro H locs ls hH hS hl
  refine kk H locs ls ⟨fun i q hq => ?_, hH.2⟩ (by rw [← hE.Aw]; exact hS) hl
  rw [← hE.1]
  refine hH.1 i q ?_
  rw [hE.ws, List.getElem?_append_left (List.getElem?_eq_some_iff.mp hq).1]
  exact hq
theorem iI_nat0 {N : Nat} (h : N < 2147483648) : ¬ iI (N : Int) < 0 ∧ (iI (N : Int)).toNatClampNeg = N := by
  have hR : inR (N : Int) := ⟨by omega, by omega⟩
  refine ⟨?_, by rw [iI_clamp hR]; omega⟩
  rw [show (0 : Int32) = iI 0 from rfl, iI_lt hR ⟨by decide, by decide⟩]
  omega
theorem q_newa (C : Cx p s m args meth c cc own ret nL w) (N : Nat) (hk : kd (nP w) = 9) (hN : ln (nP w) = N) (hR : (decide (N ≤ 2000) && decide (k + 1 ≤ R.cells) && decide (n + N ≤ R.slots)) = true) (d : decode cc pc = .ok (.newarray .int, 2))
    (kk : ∀ w' : WP, Ex w w' → LwP w' (nP w) N → Cx p s m args meth c cc own ret nL w' → Wq p l e R s m args below meth c Qf w' (k + 1) (n + N) nL (pc + 2) lv (.ref (adr w' (nP w)) :: st) (zer F (nP w))) : Wq p l e R s m args below meth c Qf w k n nL pc lv (.int (iI (N : Int)) :: st) F := by
  intro H locs ls hH hS hl
  have hW := C.2.2.2.2.1
  have hO := C.2.2.2.2.2.2.2
  have hK := hO.1
  simp only [Bool.and_eq_true, decide_eq_true_eq] at hR
  have h9 := iI_nat0 (N := N) (by omega)
  refine va_newa (A := Aw w) (atype := .int) (ty := .int) (N' := N) (a0 := (N, .inl (fun _ : Nat => iI 0))) C.1 C.2.1 (hW _ wd_87) rfl hK hH.1 (HR.D hO) hS hO.2.2.2.2 (fun cA => ?_) h9.1 h9.2 (by show N * 4 ≤ _; omega) hR.1.2 hR.2 d (fun q cA H1 hK1 hP hD hS1 => ?_)
  · rw [vp_cell_i]; rfl
  · have e : cA = w.2.1.1 := by
      have a1 := (hK1.2 (tysW w).length (cA, .int) (by rw [List.getElem?_append_right (Nat.le_refl _), Nat.sub_self]; rfl)).2
      have a2 := (hK.2 0 _ rfl).2
      exact Option.some.inj (a1.symm.trans a2)
    subst e
    let w' : WP := (w.1, w.2.1, fun k => if k = nP w then q else adr w k, w.2.2.2.1, w.2.2.2.2 + 1)
    have hE : Ex w w' := ⟨rfl, rfl, fun k hk => if_neg (by omega), by show 110 + (w.2.2.2.2 + 1) = nP w + 1; unfold nP; omega, rfl⟩
    have hq : adr w' (nP w) = q := if_pos rfl
    have hws : wsW w' (zer F (nP w)) = wsW w F ++ [(q, .inl (w.2.1.1, N, .inl (fun _ : Nat => iI 0)))] := by
      rw [hE.ws, hq, cellE_9 hk, hN]
      congr 1
      · unfold wsW
        apply List.map_congr_left
        intro k hk
        have hk2 := List.mem_range.mp hk
        rw [cellE_eq (zer_k (by omega))]
      · have e9 : (fun j : Nat => iI (zer F (nP w) (nP w) (j : Int))) = (fun _ : Nat => iI 0) := by funext j; rw [zer_a]
        rw [e9]
    rw [← hws] at hP hD
    have hlp : LwP w' (nP w) N := ⟨hk, by rw [hE.2.2.2.1]; omega, hN⟩
    have hg : ∀ i, i < nP w' → (wsW w' (zer F (nP w)))[i]? = some (adr w' i, cellE w' (zer F (nP w)) i) := fun i hi => wsW_get hi
    have hO' : OK w' s := ⟨hK, fun i j hi hj h => hD.1 i j _ _ (hg i hi) (hg j hj) h, fun i hi => hD.2 i _ (hg i hi), hO.2.2.2.1, hO.2.2.2.2⟩
    have C' : Cx p s m args meth c cc own ret nL w' := ⟨C.1, C.2.1, C.2.2.1, C.2.2.2.1, C.2.2.2.2.1, C.2.2.2.2.2.1, C.2.2.2.2.2.2.1, hO'⟩
    have h := kk w' hE hlp C' H1 locs ls ⟨hP, fun k j hj => ?_⟩ (by rw [hE.Aw]; exact hS1) hl
    · rw [hq] at h
      exact h
    · unfold zer
      split
      · rfl
      · exact hH.2 k j hj
/-! contracts of methods that make rows -/
def ConM (l : Launch) (y : MethodName) (cc : ByteArray) (maxL : Nat) (ret : Option FieldType) (h kc ns : Nat) (w : WP) (av : List Value) (F : FF) (Qc : Array Value → State → Outcome → State → Prop) : Prop :=
  Met l y (.code y cc maxL ret :: WG) (rmG h kc ns) (PcW w av F) Qc kc ns (Aw w)
theorem ConM.mk {l : Launch} {y : MethodName} {cc : ByteArray} {maxL : Nat} {ret : Option FieldType} {h kc ns : Nat} {w : WP} {av : List Value} {F : FF} {Qc : Array Value → State → Outcome → State → Prop} {lv : List (Nat × Value)} (hy : plainName y.cls = true) (hn : (lg_sl av).length ≤ maxL) (hlv : lv_args 0 av = lv)
    (body : ∀ p e s m below meth c, Cx p s m av.toArray meth c cc y.cls ret maxL w → (∀ (k : Nat) (j : Int), ¬ (0 ≤ j ∧ j < ln k) → F k j = 0) → Wq p l e (rmG h kc ns) s m av.toArray below meth c (MQ below Qc av.toArray s kc ns (Aw w)) w 0 0 maxL 0 lv [] F) : ConM l y cc maxL ret h kc ns w av F Qc := by
  refine Met.ofW (cc := cc) (maxL := maxL) (ret := ret) hy rfl ?_
  intro p e s m args below meth c s₁ B hml hv
  obtain ⟨rfl, hH, hOK⟩ := hv
  have hts := atoms_spec (ws := Cond.code y cc maxL ret :: WG) B.pre
  have C : Cx p s m av.toArray meth c cc y.cls ret maxL w := ⟨B.exec, B.bytes, hml, findClass_of_methodNamed B.named, fun x hx => hts x (List.mem_cons_of_mem _ hx), B.returns, B.notSynchronized, hOK⟩
  have hl := lv_entry av (n := maxL) hn
  rw [lg_entry_eq]
  rw [hlv] at hl
  exact body p e s m below meth c C hH.2 s.heap [] _ hH va_S.rf hl
theorem q_widen {k' n' : Nat} (h1 : k ≤ k') (h2 : n ≤ n') (kk : Wq p l e R s m args below meth c Qf w k' n' nL pc lv st F) : Wq p l e R s m args below meth c Qf w k n nL pc lv st F :=
  fun H locs ls hH hS hl => W.widen (k := k') (n := n') h1 h2 (kk H locs ls hH hS hl)
/-- the ends of a method that makes rows: kc, ns are its contract's -/
theorem q_mzret (C : Cx p s m args meth c cc own (some .boolean) nL w) {kc ns : Nat} (hk : k ≤ kc ∧ n ≤ ns) {post : Int → FF → Prop} {z : Int} (d : decode cc pc = .ok (.ireturn, 1)) (hz : z = 0 ∨ z = 1) (hq : post z F) : Wq p l e R s m args below meth c (MQ below (QI w post) args s kc ns (Aw w)) w k n nL pc lv [.int (iI z)] F :=
  q_widen hk.1 hk.2 (q_zret C d hz hq)
theorem q_miret (C : Cx p s m args meth c cc own (some .int) nL w) {kc ns : Nat} (hk : k ≤ kc ∧ n ≤ ns) {post : Int → FF → Prop} {z : Int} (d : decode cc pc = .ok (.ireturn, 1)) (hq : post z F) : Wq p l e R s m args below meth c (MQ below (QI w post) args s kc ns (Aw w)) w k n nL pc lv [.int (iI z)] F :=
  q_widen hk.1 hk.2 (q_iret C d hq)
theorem q_cIM (C : Cx p s m args meth c cc own ret nL w) {y : MethodName} {cc' : ByteArray} {nA maxL' h kc ns idx : Nat} {ret' : Option FieldType} {As rest st0 : List Value} {post : Int → FF → Prop} (hc : ConM l y cc' maxL' ret' h kc ns w As F (QI w post))
    (hwc : Cond.code y cc' maxL' ret' ∈ WG) (hws : Cond.static y ∈ WG) (hw0 : Cond.initialized y.cls ∈ WG) (hlink : Cond.methodLink own idx y ∈ WG) (hd : y.cls ≠ "java/lang/invoke/MethodHandle" ∧ y.cls ≠ "java/lang/invoke/VarHandle" ∧ (parseMethodDescriptor y.desc).map (fun d => d.parameters.length) = some nA) (hlen : As.length = nA) (hr : (decide (h + 1 ≤ R.frames) && decide (8 + (maxL' + 11) + 32 * h ≤ R.locals)) = true)
    (hk : k + kc ≤ R.cells ∧ n + ns ≤ R.slots) (hst : st0 = As.reverse ++ rest) (hcat : (rest.map fun v => v.category).sum ≤ 8) (d : decode cc pc = .ok (.invokestatic idx, 3)) (kk : ∀ (z : Int) (F' : FF), post z F' → Wq p l e R s m args below meth c Qf w (k + kc) (n + ns) nL (pc + 3) lv (.int (iI z) :: rest) F') : Wq p l e R s m args below meth c Qf w k n nL pc lv st0 F := by
  intro H locs ls hH hS hl
  have hW := C.2.2.2.2.1
  simp only [Bool.and_eq_true, decide_eq_true_eq] at hr
  refine va_calli (va_runS (Ts := WG) ⟨C.1, C.2.1, C.2.2.1, C.2.2.2.1, hW⟩ hc ⟨⟨rfl, rfl, hr.1, hr.2, pay_in hW (WG_good hwc), List.mem_cons_self, hW _ hwc, hW _ hw0, ⟨hd.1, hd.2.1⟩, fun sig h => ?_, hW _ hlink⟩, hW _ hws⟩
    ⟨pre_blind, fun U hU hW => ⟨rfl, by rw [hU]; exact hH, okU C.2.2.2.2.2.2.2 hS hU hW⟩⟩ rfl hlen hl.1 hst (lv_room hcat) d ⟨hk.1, hk.2⟩) hS (fun _ _ h => h) (fun _ h => h) (fun r u t H1 locs1 ht hvm hp hB hz1 hk1 hS1 => ?_)
  · have h2 := hd.2.2
    rw [h] at h2
    exact (Option.some.inj h2).symm
  · obtain ⟨z, rfl, hz⟩ := hp
    exact kk z u hz H1 locs1 ls (by rw [← ht]; exact hB) hS1 hl
/-! bits, constants -/
theorem q_ldc (C : Cx p s m args meth c cc own ret nL w) {i : Nat} {v : Int32} (z : Int) (hz : v = iI z) (hw : Cond.constant own i v ∈ WG) (d : decode cc pc = .ok (.ldc i, 2)) (kk : Wq p l e R s m args below meth c Qf w k n nL (pc + 2) lv (.int (iI z) :: st) F) : Wq p l e R s m args below meth c Qf w k n nL pc lv st F :=
  fun H locs ls hH hS hl => lv_ldc C.1 C.2.1 C.2.2.2.1 (C.2.2.2.2.1 _ hw) d (by rw [hz]; exact kk H locs ls hH hS hl)
theorem q_iand (C : Cx p s m args meth c cc own ret nL w) {x y : Int} (z : Int) (hz : iI x &&& iI y = iI z) (d : decode cc pc = .ok (.iand, 1)) (kk : Wq p l e R s m args below meth c Qf w k n nL (pc + 1) lv (.int (iI z) :: st) F) : Wq p l e R s m args below meth c Qf w k n nL pc lv (.int (iI y) :: .int (iI x) :: st) F :=
  fun H locs ls hH hS hl => lv_iand C.1 C.2.1 d (by rw [hz]; exact kk H locs ls hH hS hl)
theorem q_ior (C : Cx p s m args meth c cc own ret nL w) {x y : Int} (z : Int) (hz : iI x ||| iI y = iI z) (d : decode cc pc = .ok (.ior, 1)) (kk : Wq p l e R s m args below meth c Qf w k n nL (pc + 1) lv (.int (iI z) :: st) F) : Wq p l e R s m args below meth c Qf w k n nL pc lv (.int (iI y) :: .int (iI x) :: st) F :=
  fun H locs ls hH hS hl => lv_ior C.1 C.2.1 d (by rw [hz]; exact kk H locs ls hH hS hl)
theorem q_ixor (C : Cx p s m args meth c cc own ret nL w) {x y : Int} (z : Int) (hz : iI x ^^^ iI y = iI z) (d : decode cc pc = .ok (.ixor, 1)) (kk : Wq p l e R s m args below meth c Qf w k n nL (pc + 1) lv (.int (iI z) :: st) F) : Wq p l e R s m args below meth c Qf w k n nL pc lv (.int (iI y) :: .int (iI x) :: st) F :=
  fun H locs ls hH hS hl => lv_ixor C.1 C.2.1 d (by rw [hz]; exact kk H locs ls hH hS hl)
theorem q_ishl (C : Cx p s m args meth c cc own ret nL w) {x y : Int} (z : Int) (hz : iI x <<< (iI y &&& 31) = iI z) (d : decode cc pc = .ok (.ishl, 1)) (kk : Wq p l e R s m args below meth c Qf w k n nL (pc + 1) lv (.int (iI z) :: st) F) : Wq p l e R s m args below meth c Qf w k n nL pc lv (.int (iI y) :: .int (iI x) :: st) F :=
  fun H locs ls hH hS hl => lv_ishl C.1 C.2.1 d (by rw [hz]; exact kk H locs ls hH hS hl)
theorem q_ishr (C : Cx p s m args meth c cc own ret nL w) {x y : Int} (z : Int) (hz : iI x >>> (iI y &&& 31) = iI z) (d : decode cc pc = .ok (.ishr, 1)) (kk : Wq p l e R s m args below meth c Qf w k n nL (pc + 1) lv (.int (iI z) :: st) F) : Wq p l e R s m args below meth c Qf w k n nL pc lv (.int (iI y) :: .int (iI x) :: st) F :=
  fun H locs ls hH hS hl => lv_ishr C.1 C.2.1 d (by rw [hz]; exact kk H locs ls hH hS hl)
end QX
