/-! QL 5: doubles, compared longs, a switch by a list; what a share is -/
def wI (x : Int) : Int := (iI x).toInt
theorem wI_in (x : Int) : inR (wI x) := ⟨by have := (iI x).le_toInt; unfold wI; omega, by have := (iI x).toInt_lt; unfold wI; omega⟩
theorem wI_eq {x : Int} (h : inR x) : wI x = x := iI_toInt h
theorem wI_wI (x : Int) : wI (wI x) = wI x := wI_eq (wI_in x)
def lcz (x y : Int) : Int := if y < x then 1 else if x = y then 0 else -1
theorem lcz_range (x y : Int) : -1 ≤ lcz x y ∧ lcz x y ≤ 1 := by unfold lcz; split <;> (try split) <;> omega
theorem lcz_le {x y : Int} : lcz x y ≤ 0 ↔ x ≤ y := by unfold lcz; split <;> (try split) <;> omega
theorem lcz_eq {x y : Int} : lcz x y = 0 ↔ x = y := by unfold lcz; split <;> (try split) <;> omega
theorem lg_lcz {x y : Int} (hx : inL x) (hy : inL y) : lg_cmp (iL x) (iL y) = iI (lcz x y) := by
  unfold lg_cmp lcz
  simp only [gt_iff_lt, Int64.lt_iff_toInt_lt, ← Int64.toInt_inj, iL_toInt hx, iL_toInt hy]
  repeat' split
  all_goals rfl
theorem lg_same (x : Int64) : lg_cmp x x = iI 0 := by
  unfold lg_cmp
  rw [if_neg (fun h => Int64.lt_irrefl h), if_pos rfl]; rfl
def shr (x : Int) : UInt64 := Jvm.FP.ddiv (Jvm.FP.i2d (iI x)) 4630826316843712512
section QF
variable {p : Program} {l : Launch} {e : Env} {R : Room} {s : State} {m : MethodId} {args : Array Value} {below : List Frame} {meth : Method} {c : Code} {Qf : State → Prop} {w : WP} {k n nL pc : Nat} {lv lv' : List (Nat × Value)} {st : List Value} {F : FF} {cc : ByteArray} {own : String} {ret : Option FieldType}
theorem q_lcmpz (C : Cx p s m args meth c cc own ret nL w) {x y : Int} (d : decode cc pc = .ok (.lcmp, 1)) (hx : inL x) (hy : inL y) (kk : Wq p l e R s m args below meth c Qf w k n nL (pc + 1) lv (.int (iI (lcz x y)) :: st) F) : Wq p l e R s m args below meth c Qf w k n nL pc lv (.long (iL y) :: .long (iL x) :: st) F :=
  q_lcmp C d (by rw [lg_lcz hx hy]; exact kk)
theorem q_lcmps (C : Cx p s m args meth c cc own ret nL w) {x : Int64} (d : decode cc pc = .ok (.lcmp, 1)) (kk : Wq p l e R s m args below meth c Qf w k n nL (pc + 1) lv (.int (iI 0) :: st) F) : Wq p l e R s m args below meth c Qf w k n nL pc lv (.long x :: .long x :: st) F :=
  q_lcmp C d (by rw [lg_same]; exact kk)
theorem q_i2d (C : Cx p s m args meth c cc own ret nL w) {x : Int32} (d : decode cc pc = .ok (.i2d, 1)) (kk : Wq p l e R s m args below meth c Qf w k n nL (pc + 1) lv (.double (Jvm.FP.i2d x) :: st) F) : Wq p l e R s m args below meth c Qf w k n nL pc lv (.int x :: st) F :=
  fun H locs ls hH hS hl => lv_i2d C.1 C.2.1 d (kk H locs ls hH hS hl)
theorem q_ddiv (C : Cx p s m args meth c cc own ret nL w) {x y : UInt64} (hne : vf_n64 (Jvm.FP.ddiv x y)) (d : decode cc pc = .ok (.ddiv, 1)) (kk : Wq p l e R s m args below meth c Qf w k n nL (pc + 1) lv (.double (Jvm.FP.ddiv x y) :: st) F) : Wq p l e R s m args below meth c Qf w k n nL pc lv (.double y :: .double x :: st) F :=
  fun H locs ls hH hS hl => lv_ddiv C.1 C.2.1 d hne (kk H locs ls hH hS hl)
theorem q_dmul (C : Cx p s m args meth c cc own ret nL w) {x y : UInt64} (hne : vf_n64 (Jvm.FP.dmul x y)) (d : decode cc pc = .ok (.dmul, 1)) (kk : Wq p l e R s m args below meth c Qf w k n nL (pc + 1) lv (.double (Jvm.FP.dmul x y) :: st) F) : Wq p l e R s m args below meth c Qf w k n nL pc lv (.double y :: .double x :: st) F :=
  fun H locs ls hH hS hl => lv_dmul C.1 C.2.1 d hne (kk H locs ls hH hS hl)
theorem q_dsub (C : Cx p s m args meth c cc own ret nL w) {x y : UInt64} (hne : vf_n64 (Jvm.FP.dsub x y)) (d : decode cc pc = .ok (.dsub, 1)) (kk : Wq p l e R s m args below meth c Qf w k n nL (pc + 1) lv (.double (Jvm.FP.dsub x y) :: st) F) : Wq p l e R s m args below meth c Qf w k n nL pc lv (.double y :: .double x :: st) F :=
  fun H locs ls hH hS hl => lv_dsub C.1 C.2.1 d hne (kk H locs ls hH hS hl)
theorem q_dcmp (C : Cx p s m args meth c cc own ret nL w) {x y : UInt64} {op : CmpOp} (z : Int) (hz : Jvm.Op.cmpValue (Jvm.FP.dcmp x y) op = iI z) (d : decode cc pc = .ok (.dcmp op, 1)) (kk : Wq p l e R s m args below meth c Qf w k n nL (pc + 1) lv (.int (iI z) :: st) F) : Wq p l e R s m args below meth c Qf w k n nL pc lv (.double y :: .double x :: st) F :=
  fun H locs ls hH hS hl => lv_dcmp C.1 C.2.1 d (by rw [hz]; exact kk H locs ls hH hS hl)
theorem q_d2l (C : Cx p s m args meth c cc own ret nL w) {x : UInt64} (z : Int) (hz : Jvm.FP.d2l x = iL z) (d : decode cc pc = .ok (.d2l, 1)) (kk : Wq p l e R s m args below meth c Qf w k n nL (pc + 1) lv (.long (iL z) :: st) F) : Wq p l e R s m args below meth c Qf w k n nL pc lv (.double x :: st) F :=
  fun H locs ls hH hS hl => lv_d2l C.1 C.2.1 d (by rw [hz]; exact kk H locs ls hH hS hl)
theorem q_dconst0 (C : Cx p s m args meth c cc own ret nL w) (d : decode cc pc = .ok (.dconst 0, 1)) (kk : Wq p l e R s m args below meth c Qf w k n nL (pc + 1) lv (.double Jvm.FP.dconst0 :: st) F) : Wq p l e R s m args below meth c Qf w k n nL pc lv st F :=
  fun H locs ls hH hS hl => lv_dconst0 C.1 C.2.1 d (kk H locs ls hH hS hl)
theorem q_dconst1 (C : Cx p s m args meth c cc own ret nL w) (d : decode cc pc = .ok (.dconst 1, 1)) (kk : Wq p l e R s m args below meth c Qf w k n nL (pc + 1) lv (.double Jvm.FP.dconst1 :: st) F) : Wq p l e R s m args below meth c Qf w k n nL pc lv st F :=
  fun H locs ls hH hS hl => lv_dconst1 C.1 C.2.1 d (kk H locs ls hH hS hl)
theorem q_look (C : Cx p s m args meth c cc own ret nL w) {dflt : Int} {ps : Array (Int × Int)} {len : Nat} {x : Int} {off : Int} (tgt : Nat) (d : decode cc pc = .ok (.lookupswitch dflt ps, len)) (hp : (ps.toList.zip (ps.toList.drop 1)).all (fun (a, next) => a.1 < next.1) = true) (hx : inR x) (ho : Jvm.Op.lookupswitch.offset ps.toList dflt x = off) (ht : (pc : Int) + off = (tgt : Int)) (kk : Wq p l e R s m args below meth c Qf w k n nL tgt lv st F) : Wq p l e R s m args below meth c Qf w k n nL pc lv (.int (iI x) :: st) F :=
  fun H locs ls hH hS hl => lv_lookup C.1 C.2.1 d hp (by rw [iI_toInt hx]; exact ho) ht (kk H locs ls hH hS hl)
end QF
theorem sh_n : ∀ x ∈ List.range 41, vf_n64 (shr (x : Int)) := by unfold vf_n64; decide +kernel
theorem sh_eq : ∀ x ∈ List.range 41, Jvm.FP.dcmp (shr (x : Int)) (shr (x : Int)) = some .eq := by decide +kernel
theorem kd0 : kd 0 = 3 := rfl
theorem kd85 : kd 85 = 5 := rfl
theorem ln85 : ln 85 = 60 := rfl
